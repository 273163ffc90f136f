/-! the greatest keys -/
def zr (z : Int) : Prop := -4611686018427387904 ≤ z ∧ z < 4611686018427387904
def itop (lim : Nat) (X : Int → Prop) (m : Nat) (g : Nat → Int) : Prop := m ≤ lim ∧ (∀ i j, i < j → j < m → g j < g i) ∧ (∀ i, i < m → X (g i)) ∧ (∀ x, X x → (∃ i, i < m ∧ g i = x) ∨ (m = lim ∧ ∀ i, i < m → x < g i))
/-- S holds the greatest ones of X -/
def stop (lim : Nat) (X : Int → Prop) (S : tS) (g : Nat → Int) : Prop := itop lim X S.1 g ∧ ∀ i, i < S.1 → S.2 i = lZ (g i)
theorem itop_X {lim m : Nat} {X Y : Int → Prop} {g : Nat → Int} (h : ∀ x, X x ↔ Y x) (t : itop lim X m g) : itop lim Y m g :=
  ⟨t.1, t.2.1, fun i hi => (h _).mp (t.2.2.1 i hi), fun x hx => t.2.2.2 x ((h x).mpr hx)⟩
theorem stop_X {lim : Nat} {X Y : Int → Prop} {S : tS} {g : Nat → Int} (h : ∀ x, X x ↔ Y x) (t : stop lim X S g) : stop lim Y S g := ⟨itop_X h t.1, t.2⟩
theorem zlt62 {a b : Int} (ha : zr a) (hb : zr b) : lZ a < lZ b ↔ a < b := by
  unfold zr at ha hb
  exact lZ_lt (by omega) (by omega) (by omega) (by omega)
theorem zeq62 {a b : Int} (ha : zr a) (hb : zr b) : lZ a = lZ b ↔ a = b := by
  unfold zr at ha hb
  exact lZ_eq (by omega) (by omega) (by omega) (by omega)
theorem zle62 {a b : Int} (ha : zr a) (hb : zr b) : lZ a ≤ lZ b ↔ a ≤ b := by
  rw [← Int64.not_lt, zlt62 hb ha]
  omega
theorem tat_spec {f : Nat → Int64} {g : Nat → Int} {x : Int} (hx : zr x) : ∀ (m : Nat), (∀ i, i < m → f i = lZ (g i) ∧ zr (g i)) → tat f (lZ x) m ≤ m ∧ (∀ i, tat f (lZ x) m ≤ i → i < m → g i < x) ∧ (0 < tat f (lZ x) m → x ≤ g (tat f (lZ x) m - 1))
  | 0, _ => by simp [tat]
  | m + 1, h => by
    have hm := h m (by omega)
    have ih := tat_spec hx m (fun i hi => h i (by omega))
    rw [tat, hm.1]
    by_cases q : lZ (g m) < lZ x
    · rw [if_pos q]
      rw [zlt62 hm.2 hx] at q
      refine ⟨by omega, fun i h1 h2 => ?_, ih.2.2⟩
      by_cases e : i = m
      · rw [e]; exact q
      · exact ih.2.1 i h1 (by omega)
    · rw [if_neg q]
      rw [zlt62 hm.2 hx] at q
      refine ⟨by omega, fun i h1 h2 => absurd h1 (by omega), fun _ => ?_⟩
      rw [show m + 1 - 1 = m by omega]
      omega
theorem toff_top {lim : Nat} {X : Int → Prop} {S : tS} {g : Nat → Int} {x : Int} (h1 : 1 ≤ lim) (hX : ∀ z, X z → zr z) (hx : zr x) (t : stop lim X S g) :
    ((toff lim S (lZ x)).1 = true ∧ ∃ g', stop lim (fun z => X z ∨ z = x) (toff lim S (lZ x)).2 g') ∨
    ((toff lim S (lZ x)).1 = false ∧ (toff lim S (lZ x)).2 = S ∧ S.1 = lim ∧ x ≤ g (lim - 1)) := by
  obtain ⟨⟨tm, td, tx, tc⟩, te⟩ := t
  obtain ⟨m, f⟩ := S
  dsimp only at tm td tx tc te
  have hg : ∀ i, i < m → f i = lZ (g i) ∧ zr (g i) := fun i hi => ⟨te i hi, hX _ (tx i hi)⟩
  unfold toff
  dsimp only
  by_cases q1 : lim ≤ m ∧ lZ x ≤ f (lim - 1)
  · right
    rw [if_pos q1]
    have e := hg (lim - 1) (by omega)
    rw [e.1, zle62 hx e.2] at q1
    exact ⟨rfl, rfl, by omega, q1.2⟩
  · left
    rw [if_neg q1]
    obtain ⟨p1, p2, p3⟩ := tat_spec hx m hg
    generalize hp : tat f (lZ x) m = p at p1 p2 p3 ⊢
    by_cases q2 : 0 < p ∧ f (p - 1) = lZ x
    · rw [if_pos q2]
      refine ⟨rfl, g, ⟨tm, td, fun i hi => Or.inl (tx i hi), fun y hy => ?_⟩, te⟩
      rcases hy with hy | hy
      · exact tc y hy
      · left
        have e := hg (p - 1) (by omega)
        rw [e.1, zeq62 e.2 hx] at q2
        exact ⟨p - 1, show p - 1 < m by omega, by rw [q2.2, hy]⟩
    · rw [if_neg q2]
      have p4 : ∀ i, i < p → x < g i := by
        intro i hi
        have e := hg (p - 1) (by omega)
        rw [e.1, zeq62 e.2 hx] at q2
        have := p3 (by omega)
        by_cases q : i = p - 1
        · rw [q]; omega
        · have := td i (p - 1) (by omega) (by omega)
          omega
      have p5 : p < (if m < lim then m + 1 else m) := by
        by_cases q : m < lim
        · rw [if_pos q]; omega
        · rw [if_neg q]
          by_cases q3 : p = m
          · have e := hg (lim - 1) (by omega)
            rw [e.1, zle62 hx e.2] at q1
            have := p4 (lim - 1) (by omega)
            omega
          · omega
      generalize hm' : (if m < lim then m + 1 else m) = m' at *
      have mm : m' ≤ lim ∧ m ≤ m' ∧ m' ≤ m + 1 ∧ (m' = m → m = lim) := by
        by_cases q : m < lim
        · rw [if_pos q] at hm'; omega
        · rw [if_neg q] at hm'; omega
      refine ⟨rfl, fun j => if j = p then x else if p < j ∧ j < m' then g (j - 1) else g j, ⟨mm.1, ?_, ?_, ?_⟩, ?_⟩
      · intro i j hij hj
        dsimp only at hj ⊢
        by_cases a1 : j = p
        · rw [if_pos a1, if_neg (by omega), if_neg (by omega)]
          exact p4 i (by omega)
        · rw [if_neg a1]
          by_cases a2 : p < j
          · rw [if_pos ⟨a2, hj⟩]
            by_cases b1 : i = p
            · rw [if_pos b1]
              exact p2 (j - 1) (by omega) (by omega)
            · rw [if_neg b1]
              by_cases b2 : p < i
              · rw [if_pos (by omega)]
                exact td (i - 1) (j - 1) (by omega) (by omega)
              · rw [if_neg (by omega)]
                exact td i (j - 1) (by omega) (by omega)
          · rw [if_neg (by omega), if_neg (by omega), if_neg (by omega)]
            exact td i j hij (by omega)
      · intro i hi
        dsimp only at hi ⊢
        by_cases a1 : i = p
        · rw [if_pos a1]; exact Or.inr rfl
        · rw [if_neg a1]
          by_cases a2 : p < i
          · rw [if_pos ⟨a2, hi⟩]; exact Or.inl (tx (i - 1) (by omega))
          · rw [if_neg (by omega)]; exact Or.inl (tx i (by omega))
      · intro y hy
        dsimp only
        have last : m' = m → ∀ y, (∀ i, i < m - 1 → y < g i) → y < x → ∀ i, i < m' → y < (if i = p then x else if p < i ∧ i < m' then g (i - 1) else g i) := by
          intro e y h1 h2 i hi
          by_cases a1 : i = p
          · rw [if_pos a1]; exact h2
          · rw [if_neg a1]
            by_cases a2 : p < i
            · rw [if_pos ⟨a2, hi⟩]; exact h1 _ (by omega)
            · rw [if_neg (by omega)]; exact h1 _ (by omega)
        rcases hy with hy | hy
        · rcases tc y hy with ⟨i, hi, e⟩ | ⟨e1, e2⟩
          · by_cases a1 : i < p
            · left
              exact ⟨i, by omega, by rw [if_neg (by omega), if_neg (by omega)]; exact e⟩
            · by_cases a2 : i + 1 < m'
              · left
                exact ⟨i + 1, a2, by rw [if_neg (by omega), if_pos (by omega)]; exact e⟩
              · right
                refine ⟨by omega, last (by omega) y (fun k hk => ?_) ?_⟩
                · rw [← e]; exact td k i (by omega) hi
                · rw [← e]; exact p2 i (by omega) hi
          · right
            refine ⟨by omega, last (by omega) y (fun k hk => e2 k (by omega)) ?_⟩
            have := e2 p (by omega)
            have := p2 p (Nat.le_refl _) (by omega)
            omega
        · left
          exact ⟨p, p5, by rw [if_pos rfl, hy]⟩
      · intro i hi
        dsimp only at hi ⊢
        unfold tfin
        by_cases a1 : i = p
        · rw [if_pos a1, if_pos a1]
        · rw [if_neg a1, if_neg a1]
          by_cases a2 : p < i ∧ i < m'
          · rw [if_pos a2, if_pos a2]; exact te (i - 1) (by omega)
          · rw [if_neg a2, if_neg a2]; exact te i (by omega)
/-- what is no greater than the last of a full one changes nothing -/
theorem stop_low {lim : Nat} {X Y : Int → Prop} {S : tS} {g : Nat → Int} (h1 : 1 ≤ lim) (hs : S.1 = lim) (hY : ∀ y, Y y → y ≤ g (lim - 1)) (t : stop lim X S g) : stop lim (fun z => X z ∨ Y z) S g := by
  obtain ⟨⟨tm, td, tx, tc⟩, te⟩ := t
  refine ⟨⟨tm, td, fun i hi => Or.inl (tx i hi), fun y hy => ?_⟩, te⟩
  rcases hy with hy | hy
  · exact tc y hy
  · have h := hY y hy
    by_cases q : y = g (lim - 1)
    · exact Or.inl ⟨lim - 1, by omega, q.symm⟩
    · right
      refine ⟨hs, fun i hi => ?_⟩
      by_cases q2 : i = lim - 1
      · rw [q2]; omega
      · have := td i (lim - 1) (by omega) (by omega)
        omega
theorem tsome_top {lim : Nat} {r : Nat → Int64} {h : Nat → Int} {y : Int} {n : Nat} (h1 : 1 ≤ lim) (hr : ∀ i, i < n → r i = lZ (h i)) (hz : ∀ i, i < n → zr (h i + y)) (hd : ∀ i j, i < j → j < n → h j < h i) : ∀ (c u : Nat) (X : Int → Prop) (S : tS) (g : Nat → Int), u + c ≤ n → (∀ z, X z → zr z) → stop lim X S g →
    (∃ g', stop lim (fun z => X z ∨ ∃ i, u ≤ i ∧ i < u + c ∧ z = h i + y) (tsome lim r (lZ y) c u S).2 g' ∧ u ≤ (tsome lim r (lZ y) c u S).1 ∧
      (0 < c → (tsome lim r (lZ y) c u S).1 = u → (tsome lim r (lZ y) c u S).2.1 = lim ∧ h u + y ≤ g' (lim - 1)))
  | 0, u, X, S, g, hu, hX, t => ⟨g, stop_X (fun z => ⟨Or.inl, fun w => w.elim id (fun ⟨i, a, b, _⟩ => absurd a (by omega))⟩) t, Nat.le_refl _, fun h => absurd h (Nat.lt_irrefl _)⟩
  | c + 1, u, X, S, g, hu, hX, t => by
    rw [tsome]
    have e : r u + lZ y = lZ (h u + y) := by rw [hr u (by omega), lZ_add]
    rw [e]
    rcases toff_top (x := h u + y) h1 hX (hz u (by omega)) t with ⟨q, g1, t1⟩ | ⟨q, q2, q3, q4⟩
    · rw [if_pos q]
      obtain ⟨g2, t2, l2, k2⟩ := tsome_top h1 hr hz hd c (u + 1) _ _ g1 (by omega) (fun z w => w.elim (hX z) (fun w => by rw [w]; exact hz u (by omega))) t1
      refine ⟨g2, stop_X (fun z => ?_) t2, by omega, fun _ w => absurd w (by omega)⟩
      constructor
      · rintro ((w | w) | ⟨i, a, b, w⟩)
        · exact Or.inl w
        · exact Or.inr ⟨u, Nat.le_refl _, by omega, w⟩
        · exact Or.inr ⟨i, by omega, by omega, w⟩
      · rintro (w | ⟨i, a, b, w⟩)
        · exact Or.inl (Or.inl w)
        · by_cases q : i = u
          · exact Or.inl (Or.inr (by rw [w, q]))
          · exact Or.inr ⟨i, by omega, by omega, w⟩
    · rw [if_neg (by rw [q]; decide), q2]
      refine ⟨g, stop_low h1 q3 ?_ t, Nat.le_refl _, fun _ _ => ⟨q3, q4⟩⟩
      rintro z ⟨i, a, b, w⟩
      by_cases q : i = u
      · rw [w, q]; exact q4
      · have := hd u i (by omega) (by omega)
        omega
/-- one that stands behind so many others -/
theorem itop_behind {lim : Nat} {X : Int → Prop} {m : Nat} {g : Nat → Int} {v : Int} {n : Nat} {e : Nat → Int} (t : itop lim X m g) (hn : lim ≤ n) (h1 : ∀ k, k < n → v < e k) (h2 : ∀ k l, k < l → l < n → e k ≠ e l) (h3 : ∀ k, k < n → (∃ i, i < m ∧ g i = e k) ∨ (m = lim ∧ ∀ i, i < m → e k < g i)) : m = lim ∧ ∀ i, i < m → v < g i := by
  by_cases q : ∃ k, k < n ∧ m = lim ∧ ∀ i, i < m → e k < g i
  · obtain ⟨k, hk, hm, hg⟩ := q
    exact ⟨hm, fun i hi => by have := hg i hi; have := h1 k hk; omega⟩
  · have ex : ∀ k, ∃ i, k < n → i < m ∧ g i = e k := fun k => by
      by_cases hk : k < n
      · rcases h3 k hk with ⟨i, hi⟩ | w
        · exact ⟨i, fun _ => hi⟩
        · exact absurd ⟨k, hk, w⟩ q
      · exact ⟨0, fun w => absurd w hk⟩
    obtain ⟨φ, c⟩ : ∃ φ : Nat → Nat, ∀ k, k < n → φ k < m ∧ g (φ k) = e k := ⟨fun k => Classical.choose (ex k), fun k hk => Classical.choose_spec (ex k) hk⟩
    have tm := t.1
    have lm : lim ≤ m := fb_holes m lim φ (fun i hi => (c i (by omega)).1) (fun i j hij hj z => by
      have a := (c i (by omega)).2
      have b := (c j (by omega)).2
      rw [z] at a
      exact h2 i j hij (by omega) (by rw [← a, ← b]))
    refine ⟨by omega, fun i hi => ?_⟩
    apply Classical.byContradiction
    intro w
    have ne : ∀ k, k < lim → φ k ≠ i := fun k hk z => by
      have a := (c k (by omega)).2
      have b := h1 k (by omega)
      rw [z] at a
      omega
    have := fb_holes (m - 1) lim (fun k => if φ k < i then φ k else φ k - 1) (fun k hk => by
      have a := (c k (by omega)).1
      have b := ne k hk
      split <;> omega) (fun k l hkl hl z => by
      have a := ne k (by omega)
      have b := ne l hl
      have a1 := (c k (by omega)).2
      have b1 := (c l (by omega)).2
      have : φ k = φ l := by
        split at z <;> split at z <;> omega
      rw [this] at a1
      exact h2 k l hkl (by omega) (by rw [← a1, ← b1]))
    omega
/-- pairs of two rows: the sums, in lines and columns -/
theorem tpair_row' {lim n2 : Nat} {X : Int → Prop} {m : Nat} {g : Nat → Int} {g1 g2 : Nat → Int} {y : Int} {i J : Nat} (t : itop lim (fun z => X z ∨ ∃ j, j < J ∧ z = g1 i + g2 j + y) m g) (hX : ∀ i' j, i' < i → j < n2 → X (g1 i' + g2 j + y)) (hJn : J ≤ n2) (hJ : ∀ j, J ≤ j → j < n2 → lim < (i + 1) * (j + 1)) (d1 : ∀ a b, a < b → b ≤ i → g1 b < g1 a) (d2 : ∀ a b, a < b → b < n2 → g2 b < g2 a) (hu : ∀ a b a' b', a ≤ i → a' ≤ i → b < n2 → b' < n2 → g1 a + g2 b = g1 a' + g2 b' → a = a' ∧ b = b') : itop lim (fun z => X z ∨ ∃ j, j < n2 ∧ z = g1 i + g2 j + y) m g := by
  have all : ∀ j, j < n2 → (∃ p, p < m ∧ g p = g1 i + g2 j + y) ∨ (m = lim ∧ ∀ p, p < m → g1 i + g2 j + y < g p) := by
    intro j
    induction j using Nat.strongRecOn with
    | ind j ih =>
      intro hj
      by_cases q : j < J
      · exact t.2.2.2 _ (Or.inr ⟨j, q, rfl⟩)
      · right
        have hl := hJ j (by omega) hj
        have jp : 0 < j + 1 := by omega
        refine itop_behind (n := (i + 1) * (j + 1) - 1) (e := fun k => g1 (k / (j + 1)) + g2 (k % (j + 1)) + y) t (by omega) ?_ ?_ ?_
        · intro k hk
          have b1 : k / (j + 1) ≤ i := by
            have : k < (i + 1) * (j + 1) := by omega
            have := (Nat.div_lt_iff_lt_mul jp).mpr this
            omega
          have b2 := Nat.mod_lt k jp
          have b3 := Nat.div_add_mod k (j + 1)
          by_cases w : k / (j + 1) = i
          · have : k % (j + 1) < j := by
              rw [w] at b3
              have : (j + 1) * i + (j + 1) = (i + 1) * (j + 1) := by grind
              omega
            have := d2 (k % (j + 1)) j this hj
            rw [w]; omega
          · have x1 := d1 (k / (j + 1)) i (by omega) (Nat.le_refl _)
            by_cases w2 : k % (j + 1) = j
            · rw [w2]; omega
            · have := d2 (k % (j + 1)) j (by omega) hj
              omega
        · intro k l hkl hl z
          have bk : k / (j + 1) ≤ i := by
            have : k < (i + 1) * (j + 1) := by omega
            have := (Nat.div_lt_iff_lt_mul jp).mpr this
            omega
          have bl : l / (j + 1) ≤ i := by
            have : l < (i + 1) * (j + 1) := by omega
            have := (Nat.div_lt_iff_lt_mul jp).mpr this
            omega
          have mk := Nat.mod_lt k jp
          have ml := Nat.mod_lt l jp
          have := hu _ _ _ _ bk bl (by omega) (by omega) (show g1 (k / (j + 1)) + g2 (k % (j + 1)) = g1 (l / (j + 1)) + g2 (l % (j + 1)) by omega)
          have ek := Nat.div_add_mod k (j + 1)
          have el := Nat.div_add_mod l (j + 1)
          rw [this.1, this.2] at ek
          omega
        · intro k hk
          have bk : k / (j + 1) ≤ i := by
            have : k < (i + 1) * (j + 1) := by omega
            have := (Nat.div_lt_iff_lt_mul jp).mpr this
            omega
          have mk := Nat.mod_lt k jp
          by_cases w : k / (j + 1) = i
          · have b3 := Nat.div_add_mod k (j + 1)
            have : k % (j + 1) < j := by
              rw [w] at b3
              have : (j + 1) * i + (j + 1) = (i + 1) * (j + 1) := by grind
              omega
            rw [w]
            exact ih _ this (by omega)
          · exact t.2.2.2 _ (Or.inl (hX _ _ (by omega) (by omega)))
  refine ⟨t.1, t.2.1, fun p hp => ?_, fun x hx => ?_⟩
  · rcases t.2.2.1 p hp with w | ⟨j, a, b⟩
    · exact Or.inl w
    · exact Or.inr ⟨j, by omega, b⟩
  · rcases hx with w | ⟨j, a, b⟩
    · exact t.2.2.2 x (Or.inl w)
    · rw [b]; exact all j a
theorem tpair_top {lim n1 n2 : Nat} {r1 r2 : Nat → Int64} {g1 g2 : Nat → Int} {y : Int} (h1 : 1 ≤ lim) (hn1 : n1 ≤ lim) (hr1 : ∀ i, i < n1 → r1 i = lZ (g1 i)) (hr2 : ∀ i, i < n2 → r2 i = lZ (g2 i)) (hz : ∀ i j, i < n1 → j < n2 → zr (g1 i + g2 j + y)) (d1 : ∀ i j, i < j → j < n1 → g1 j < g1 i) (d2 : ∀ i j, i < j → j < n2 → g2 j < g2 i) (hu : ∀ a b a' b', a < n1 → a' < n1 → b < n2 → b' < n2 → g1 a + g2 b = g1 a' + g2 b' → a = a' ∧ b = b') :
    ∀ (c i : Nat) (X : Int → Prop) (S : tS) (g : Nat → Int), i + c = n1 → (∀ z, X z → zr z) → (∀ i' j, i' < i → j < n2 → X (g1 i' + g2 j + y)) → stop lim X S g → ∃ g', stop lim (fun z => X z ∨ ∃ i' j, i ≤ i' ∧ i' < n1 ∧ j < n2 ∧ z = g1 i' + g2 j + y) (tpair lim n2 r1 r2 (lZ y) c i S) g'
  | 0, i, X, S, g, hi, hX, hXp, t => ⟨g, stop_X (fun z => ⟨Or.inl, fun w => w.elim id (fun ⟨i', j, a, b, _⟩ => absurd b (by omega))⟩) t⟩
  | c + 1, i, X, S, g, hi, hX, hXp, t => by
    rw [tpair]
    have e : r1 i + lZ y = lZ (g1 i + y) := by rw [hr1 i (by omega), lZ_add]
    rw [e]
    have lp : 1 ≤ lim / (i + 1) := (Nat.le_div_iff_mul_le (by omega)).mpr (by omega)
    obtain ⟨g', t', u1, u2⟩ := tsome_top (lim := lim) (r := r2) (h := g2) (y := g1 i + y) (n := n2) h1 hr2 (fun j hj => by have := hz i j (by omega) hj; rw [show g2 j + (g1 i + y) = g1 i + g2 j + y by omega]; exact this) d2 (min n2 (lim / (i + 1))) 0 X S g (by omega) hX t
    rw [Nat.zero_add] at t'
    have t2 : stop lim (fun z => X z ∨ ∃ j, j < min n2 (lim / (i + 1)) ∧ z = g1 i + g2 j + y) (tsome lim r2 (lZ (g1 i + y)) (min n2 (lim / (i + 1))) 0 S).2 g' := stop_X (fun z => by
      constructor
      · rintro (w | ⟨j, a, b, w⟩)
        · exact Or.inl w
        · exact Or.inr ⟨j, b, by rw [w]; omega⟩
      · rintro (w | ⟨j, b, w⟩)
        · exact Or.inl w
        · exact Or.inr ⟨j, by omega, b, by rw [w]; omega⟩) t'
    have t3 : stop lim (fun z => X z ∨ ∃ j, j < n2 ∧ z = g1 i + g2 j + y) (tsome lim r2 (lZ (g1 i + y)) (min n2 (lim / (i + 1))) 0 S).2 g' := by
      refine ⟨tpair_row' (i := i) t2.1 hXp (by omega) (fun j a b => ?_) (fun a b x z => d1 a b x (by omega)) d2 (fun a b a' b' x x' => hu a b a' b' (by omega) (by omega)), t2.2⟩
      have : lim / (i + 1) ≤ j := by omega
      have := (Nat.div_lt_iff_lt_mul (show 0 < i + 1 by omega)).mp (show lim / (i + 1) < j + 1 by omega)
      rw [Nat.mul_comm]; exact this
    by_cases q : 0 < (tsome lim r2 (lZ (g1 i + y)) (min n2 (lim / (i + 1))) 0 S).1
    · rw [if_pos q]
      obtain ⟨g'', k1⟩ := tpair_top h1 hn1 hr1 hr2 hz d1 d2 hu c (i + 1) _ _ g' (by omega) (fun z w => w.elim (hX z) (fun ⟨j, a, b⟩ => by rw [b]; exact hz i j (by omega) a)) (fun i' j a b => by
        by_cases w : i' = i
        · exact Or.inr ⟨j, b, by rw [w]⟩
        · exact Or.inl (hXp i' j (by omega) b)) t3
      refine ⟨g'', stop_X (fun z => ?_) k1⟩
      constructor
      · rintro ((w | ⟨j, a, w⟩) | ⟨i', j, a, b, d, w⟩)
        · exact Or.inl w
        · exact Or.inr ⟨i, j, Nat.le_refl _, by omega, a, w⟩
        · exact Or.inr ⟨i', j, by omega, b, d, w⟩
      · rintro (w | ⟨i', j, a, b, d, w⟩)
        · exact Or.inl (Or.inl w)
        · by_cases q : i' = i
          · exact Or.inl (Or.inr ⟨j, d, by rw [w, q]⟩)
          · exact Or.inr ⟨i', j, by omega, b, d, w⟩
    · rw [if_neg q]
      by_cases n0 : n2 = 0
      · refine ⟨g', stop_X (fun z => ?_) t3⟩
        constructor
        · rintro (w | ⟨j, a, w⟩)
          · exact Or.inl w
          · omega
        · rintro (w | ⟨i', j, a, b, d, w⟩)
          · exact Or.inl w
          · omega
      · obtain ⟨f1, f2⟩ := u2 (by omega) (by omega)
        refine ⟨g', stop_X (fun z => ?_) (stop_low (Y := fun z => ∃ i' j, i ≤ i' ∧ i' < n1 ∧ j < n2 ∧ z = g1 i' + g2 j + y) h1 f1 ?_ t3)⟩
        · constructor
          · rintro ((w | ⟨j, a, w⟩) | w)
            · exact Or.inl w
            · exact Or.inr ⟨i, j, Nat.le_refl _, by omega, a, w⟩
            · exact Or.inr w
          · rintro (w | w)
            · exact Or.inl (Or.inl w)
            · exact Or.inr w
        · rintro z ⟨i', j, a, b, d, w⟩
          have x1 : g1 i' ≤ g1 i := by
            by_cases q : i' = i
            · rw [q]; exact Int.le_refl _
            · have := d1 i i' (by omega) b; omega
          have x2 : g2 j ≤ g2 0 := by
            by_cases q : j = 0
            · rw [q]; exact Int.le_refl _
            · have := d2 0 j (by omega) d; omega
          omega
/-- two that hold the greatest of the same: the same -/
theorem itop_uniq {l1 l2 : Nat} {X : Int → Prop} {m1 m2 : Nat} {g1 g2 : Nat → Int} (t1 : itop l1 X m1 g1) (t2 : itop l2 X m2 g2) (hl : l1 ≤ l2) : (∀ i, i < m1 → i < m2 ∧ g1 i = g2 i) ∧ (m1 < l1 → m1 = m2) := by
  have key : ∀ i, i < m1 → i < m2 ∧ g1 i = g2 i := by
    intro i
    induction i using Nat.strongRecOn with
    | ind i ih =>
      intro hi
      have i2 : i < m2 := by
        apply Classical.byContradiction
        intro w
        rcases t2.2.2.2 _ (t1.2.2.1 i hi) with ⟨p, hp, e⟩ | ⟨e, _⟩
        · have := ih p (by omega) (by omega)
          have := t1.2.1 p i (by omega) hi
          omega
        · have := t1.1
          omega
      refine ⟨i2, ?_⟩
      rcases t2.2.2.2 _ (t1.2.2.1 i hi) with ⟨p, hp, e⟩ | ⟨e, f⟩
      · have pi : i ≤ p := by
          apply Classical.byContradiction
          intro w
          have := ih p (by omega) (by omega)
          have := t1.2.1 p i (by omega) hi
          omega
        rcases t1.2.2.2 _ (t2.2.2.1 i i2) with ⟨r, hr, e'⟩ | ⟨e', f'⟩
        · have ri : i ≤ r := by
            apply Classical.byContradiction
            intro w
            have := ih r (by omega) (by omega)
            have := t2.2.1 r i (by omega) i2
            omega
          have a1 : g2 p ≤ g2 i := by
            by_cases q : p = i
            · rw [q]; exact Int.le_refl _
            · have := t2.2.1 i p (by omega) hp; omega
          have a2 : g1 r ≤ g1 i := by
            by_cases q : r = i
            · rw [q]; exact Int.le_refl _
            · have := t1.2.1 i r (by omega) hr; omega
          omega
        · have := f' i hi
          have a1 : g2 p ≤ g2 i := by
            by_cases q : p = i
            · rw [q]; exact Int.le_refl _
            · have := t2.2.1 i p (by omega) hp; omega
          omega
      · have := f i i2
        rcases t1.2.2.2 _ (t2.2.2.1 i i2) with ⟨r, hr, e'⟩ | ⟨e', f'⟩
        · have ri : i ≤ r := by
            apply Classical.byContradiction
            intro w
            have := ih r (by omega) (by omega)
            have := t2.2.1 r i (by omega) i2
            omega
          have a2 : g1 r ≤ g1 i := by
            by_cases q : r = i
            · rw [q]; exact Int.le_refl _
            · have := t1.2.1 i r (by omega) hr; omega
          omega
        · have := f' i hi
          omega
  refine ⟨key, fun h => ?_⟩
  apply Classical.byContradiction
  intro w
  have : m1 < m2 := by
    cases m1 with
    | zero => omega
    | succ m => have := (key m (by omega)).1; omega
  rcases t1.2.2.2 _ (t2.2.2.1 m1 this) with ⟨r, hr, e⟩ | ⟨e, _⟩
  · have a := (key r hr).2
    have b := t2.2.1 r m1 hr this
    omega
  · omega
