/-! sums of two rows -/
/-- a key by its words A and its heads h -/
def dk (wt : Nat → Int32) (A : Nat → Bool) (z : Int) (h : Nat → Nat) : Prop := z = zsm (fun x => if A x = true then zka (wt (8 * x + h x)).toInt (h x) x else 0) 7 1 ∧ (∀ x, A x = false → h x = 0) ∧ ∀ x, h x ≤ 7
theorem zdg_gen {S : Int} {f : Nat → Nat} (hf : ∀ x, f x ≤ 7) {d : Nat} (h1 : 1 ≤ d) (h2 : d ≤ 7) : zdg (S * 2097152 - zdig f 7 1) d = f d := by
  obtain ⟨A, hA⟩ := zdig_div (f := f) (e := d) (by omega) (d - 1) 1 (by omega)
  have hB := zdig_b hf (7 - d) (d + 1) (by omega) (by omega)
  have e0 : zdig f 7 1 = zdig f (d - 1) 1 + (f d : Int) * 2 ^ (3 * (7 - d)) + zdig f (7 - d) (d + 1) := by
    have e := zsm_add2 (f := fun x => (f x : Int) * 2 ^ (3 * (7 - x))) (d - 1) (1 + (7 - d)) 1
    rw [show d - 1 + (1 + (7 - d)) = 7 by omega, zsm_add2 1, show 1 + (d - 1) = d by omega] at e
    unfold zdig
    rw [e]
    simp only [zsm]
    omega
  have p1 : (2 : Int) ^ (3 * (8 - d)) = 8 * 2 ^ (3 * (7 - d)) := by
    rw [show 3 * (8 - d) = 3 * (7 - d) + 3 by omega, Int.pow_add]
    omega
  have p2 : (2097152 : Int) = 2 ^ (3 * (d - 1)) * (8 * 2 ^ (3 * (7 - d))) := by
    rw [← p1, ← Int.pow_add, show 3 * (d - 1) + 3 * (8 - d) = 21 by omega]
    decide
  have p3 : 3 * (8 - (d + 1)) = 3 * (7 - d) := by omega
  rw [p3] at hB
  have p4 : (0 : Int) < 2 ^ (3 * (8 - (7 - d + (d + 1)))) := Int.pow_pos (by omega)
  have hfd := hf d
  unfold zdg
  rw [e0, hA, p1, p2]
  generalize zdig f (7 - d) (d + 1) = B at hB
  generalize hP : (2 : Int) ^ (3 * (7 - d)) = P at hB ⊢
  have Pp : 0 < P := by rw [← hP]; exact Int.pow_pos (by omega)
  generalize (2 : Int) ^ (3 * (d - 1)) = Q
  have key : -(S * (Q * (8 * P)) - (A * (8 * P) + (f d : Int) * P + B)) = B + P * (8 * (A - S * Q) + (f d : Int)) := by grind
  rw [key, Int.add_mul_ediv_left _ _ (by omega), Int.ediv_eq_zero_of_lt (by omega) (by omega), Int.zero_add]
  omega
theorem dk_form {wt : Nat → Int32} {A : Nat → Bool} {z : Int} {h : Nat → Nat} (hd : dk wt A z h) : ∃ S : Int, z = S * 2097152 - zdig h 7 1 := by
  obtain ⟨h1, h2, h3⟩ := hd
  refine ⟨zsm (fun x => if A x = true then (wt (8 * x + h x)).toInt else 0) 7 1, ?_⟩
  rw [h1]
  unfold zdig
  rw [← zsm_mul, Int.sub_eq_add_neg, ← zsm_neg, ← zsm_add]
  refine zsm_congr 7 1 (fun x _ _ => ?_)
  by_cases q : A x = true
  · rw [if_pos q, if_pos q]
    unfold zka
    omega
  · rw [if_neg q, if_neg q, h2 x (by simpa using q)]
    simp
theorem dk_inj {wt : Nat → Int32} {A1 A2 : Nat → Bool} (hA : ∀ x, A1 x = true → A2 x = false) {z1 z2 w1 w2 : Int} {h1 h2 k1 k2 : Nat → Nat} (a1 : dk wt A1 z1 h1) (a2 : dk wt A2 z2 h2) (b1 : dk wt A1 w1 k1) (b2 : dk wt A2 w2 k2) (e : z1 + z2 = w1 + w2) : z1 = w1 ∧ z2 = w2 := by
  have sum : ∀ {u1 u2 : Int} {p1 p2 : Nat → Nat}, dk wt A1 u1 p1 → dk wt A2 u2 p2 → (∃ S : Int, u1 + u2 = S * 2097152 - zdig (fun x => p1 x + p2 x) 7 1) ∧ ∀ x, p1 x + p2 x ≤ 7 := by
    intro u1 u2 p1 p2 c1 c2
    obtain ⟨S1, e1⟩ := dk_form c1
    obtain ⟨S2, e2⟩ := dk_form c2
    refine ⟨⟨S1 + S2, ?_⟩, fun x => ?_⟩
    · have : zdig (fun x => p1 x + p2 x) 7 1 = zdig p1 7 1 + zdig p2 7 1 := by
        unfold zdig
        rw [← zsm_add]
        refine zsm_congr 7 1 (fun x _ _ => ?_)
        rw [Int.natCast_add, Int.add_mul]
      rw [this, e1, e2, Int.add_mul]
      omega
    · by_cases q : A1 x = true
      · rw [c2.2.1 x (hA x q)]; exact c1.2.2 x
      · rw [c1.2.1 x (by simpa using q)]
        have := c2.2.2 x
        omega
  obtain ⟨⟨S, eS⟩, l1⟩ := sum a1 a2
  obtain ⟨⟨S', eS'⟩, l2⟩ := sum b1 b2
  have same : ∀ x, 1 ≤ x → x ≤ 7 → h1 x + h2 x = k1 x + k2 x := by
    intro x x1 x7
    have c1 := zdg_gen (S := S) (f := fun x => h1 x + h2 x) l1 x1 x7
    have c2 := zdg_gen (S := S') (f := fun x => k1 x + k2 x) l2 x1 x7
    rw [← eS] at c1
    rw [← eS', ← e] at c2
    have c1 : zdg (z1 + z2) x = h1 x + h2 x := c1
    have c2 : zdg (z1 + z2) x = k1 x + k2 x := c2
    omega
  have one : z1 = w1 := by
    rw [a1.1, b1.1]
    refine zsm_congr 7 1 (fun x x1 x7 => ?_)
    by_cases q : A1 x = true
    · have := same x x1 (by omega)
      rw [a2.2.1 x (hA x q), b2.2.1 x (hA x q)] at this
      rw [if_pos q, if_pos q, show h1 x = k1 x by omega]
    · rw [if_neg q, if_neg q]
  exact ⟨one, by omega⟩
def zbs (z : Int) : Prop := -100000000000000 ≤ z ∧ z ≤ 100000000000000
/-- the first pairs of two rows, taken to a third -/
theorem pair_top {lim : Nat} (h1 : 1 ≤ lim) {X1 X2 Y : Int → Prop} {S1 S2 S : tS} {g1 g2 g : Nat → Int} {y : Int} (t1 : stop lim X1 S1 g1) (t2 : stop lim X2 S2 g2) (t : stop lim Y S g) (b1 : ∀ z, X1 z → zbs z) (b2 : ∀ z, X2 z → zbs z) (bY : ∀ z, Y z → zr z) (by' : zbs y) (hu : ∀ x x' w w', X1 x → X1 x' → X2 w → X2 w' → x + w = x' + w' → x = x' ∧ w = w') : ∃ g', stop lim (fun z => Y z ∨ ∃ x w, X1 x ∧ X2 w ∧ z = x + w + y) (tpair lim S2.1 S1.2 S2.2 (lZ y) S1.1 0 S) g' := by
  have inj : ∀ {X : Int → Prop} {T : tS} {k : Nat → Int}, stop lim X T k → ∀ a b, a < T.1 → b < T.1 → k a = k b → a = b := by
    intro X T k ht a b ha hb e
    rcases Nat.lt_trichotomy a b with q | q | q
    · have := ht.1.2.1 a b q hb; omega
    · exact q
    · have := ht.1.2.1 b a q ha; omega
  obtain ⟨g', k⟩ := tpair_top (lim := lim) (n1 := S1.1) (n2 := S2.1) (r1 := S1.2) (r2 := S2.2) (g1 := g1) (g2 := g2) (y := y) h1 t1.1.1 t1.2 t2.2 (fun i j hi hj => by
    have a := b1 _ (t1.1.2.2.1 i hi)
    have b := b2 _ (t2.1.2.2.1 j hj)
    unfold zbs at a b by'
    unfold zr; omega) t1.1.2.1 t2.1.2.1 (fun a b a' b' ha ha' hb hb' e => by
    have := hu _ _ _ _ (t1.1.2.2.1 a ha) (t1.1.2.2.1 a' ha') (t2.1.2.2.1 b hb) (t2.1.2.2.1 b' hb') e
    exact ⟨inj t1 a a' ha ha' this.1, inj t2 b b' hb hb' this.2⟩) S1.1 0 Y S g (by omega) bY (fun i' j a _ => absurd a (Nat.not_lt_zero _)) t
  have k2 := stop_full (W := fun z => ∃ x w, X1 x ∧ X2 w ∧ z = x + w + y) k (fun v hv => by
    obtain ⟨x, w, hx, hw, rfl⟩ := hv
    rcases t1.1.2.2.2 x hx with ⟨i, hi, ei⟩ | ⟨e1, lo1⟩
    · rcases t2.1.2.2.2 w hw with ⟨j, hj, ej⟩ | ⟨e2, lo2⟩
      · exact Or.inl (Or.inr ⟨i, j, Nat.zero_le _, hi, hj, by rw [← ei, ← ej]⟩)
      · refine Or.inr ⟨fun k => g1 i + g2 k + y, fun k hk => ⟨Or.inr ⟨i, k, Nat.zero_le _, hi, by omega, rfl⟩, ?_⟩, fun k l hkl hl z => ?_⟩
        · show x + w + y < g1 i + g2 k + y
          have := lo2 k (by omega); omega
        · have z : g1 i + g2 k + y = g1 i + g2 l + y := z
          have := t2.1.2.1 k l hkl (by omega); omega
    · rcases t2.1.2.2.2 w hw with ⟨j, hj, ej⟩ | ⟨e2, lo2⟩
      · refine Or.inr ⟨fun k => g1 k + g2 j + y, fun k hk => ⟨Or.inr ⟨k, j, Nat.zero_le _, by omega, hj, rfl⟩, ?_⟩, fun k l hkl hl z => ?_⟩
        · show x + w + y < g1 k + g2 j + y
          have := lo1 k (by omega); omega
        · have z : g1 k + g2 j + y = g1 l + g2 j + y := z
          have := t1.1.2.1 k l hkl (by omega); omega
      · refine Or.inr ⟨fun k => g1 k + g2 0 + y, fun k hk => ⟨Or.inr ⟨k, 0, Nat.zero_le _, by omega, by omega, rfl⟩, ?_⟩, fun k l hkl hl z => ?_⟩
        · show x + w + y < g1 k + g2 0 + y
          have := lo1 k (by omega)
          have := lo2 0 (by omega)
          omega
        · have z : g1 k + g2 0 + y = g1 l + g2 0 + y := z
          have := t1.1.2.1 k l hkl (by omega); omega)
  refine ⟨g', stop_X (fun z => ?_) k2⟩
  constructor
  · rintro ((w | ⟨i, j, _, hi, hj, rfl⟩) | w)
    · exact Or.inl w
    · exact Or.inr ⟨g1 i, g2 j, t1.1.2.2.1 i hi, t2.1.2.2.1 j hj, rfl⟩
    · exact Or.inr w
  · rintro (w | w)
    · exact Or.inl (Or.inl w)
    · exact Or.inr w
/-! spans and meetings as such keys -/
theorem xsp_dk {wt : Nat → Int32} {fb : Nat → Nat} {a b : Nat} (ha : a ≤ 7) (hb : b ≤ 7) {z : Int} (h : xsp wt fb a b z) : ∃ k, dk wt (ivb a b) z k := by
  obtain ⟨f, hs, rfl⟩ := h
  refine ⟨fun x => if ivb a b x = true then f x else 0, ?_, fun x hx => ?_, fun x => ?_⟩
  · unfold zkI
    refine zsm_congr 7 1 (fun x _ _ => ?_)
    by_cases q : ivb a b x = true
    · simp [q]
    · simp [q]
  · simp [hx]
  · by_cases q : ivb a b x = true
    · simp only [q, if_true]
      rcases (hs x (ivb_iff.mp q)).2.1 with w | w
      · omega
      · unfold ivl at w; omega
    · simp [q]
def opn (i j x : Nat) : Bool := decide (i < x) && decide (x < j)
theorem xmt_dk {wt : Nat → Int32} {fb : Nat → Nat} {i j : Nat} (hj : j ≤ 7) {z : Int} (h : xmt wt fb i j z) : ∃ k, dk wt (opn i j) z k := by
  obtain ⟨l, l1, l2, y1, y2, s1, s2, rfl⟩ := h
  obtain ⟨k1, a1, a2, a3⟩ := xsp_dk (by omega) (by omega) s1
  obtain ⟨k2, b1, b2, b3⟩ := xsp_dk hj (by omega) s2
  have o : ∀ x, opn i j x = true ↔ (ivb i l x = true ∨ ivb j (l + 1) x = true) := fun x => by
    unfold opn
    rw [ivb_iff, ivb_iff]
    unfold ivl
    simp only [Bool.and_eq_true, decide_eq_true_eq]
    omega
  have dj : ∀ x, ivb i l x = true → ivb j (l + 1) x = false := fun x hx => by
    have := ivb_iff.mp hx
    cases q : ivb j (l + 1) x
    · rfl
    · have := ivb_iff.mp q
      unfold ivl at *
      omega
  refine ⟨fun x => k1 x + k2 x, ?_, fun x hx => ?_, fun x => ?_⟩
  · rw [a1, b1, ← zsm_add]
    refine zsm_congr 7 1 (fun x _ _ => ?_)
    dsimp only
    by_cases q : ivb i l x = true
    · have e := dj x q
      rw [if_pos q, if_neg (by rw [e]; decide), if_pos ((o x).mpr (Or.inl q)), b2 x e]
      simp
    · by_cases q2 : ivb j (l + 1) x = true
      · rw [if_neg q, if_pos q2, if_pos ((o x).mpr (Or.inr q2)), a2 x (by simpa using q)]
        simp
      · rw [if_neg q, if_neg q2, if_neg (fun w => by rcases (o x).mp w with y | y; · exact q y
                                                     · exact q2 y)]
        simp
  · have n1 : ¬ ivb i l x = true := fun w => by rw [(o x).mpr (Or.inl w)] at hx; cases hx
    have n2 : ¬ ivb j (l + 1) x = true := fun w => by rw [(o x).mpr (Or.inr w)] at hx; cases hx
    show k1 x + k2 x = 0
    rw [a2 x (by simpa using n1), b2 x (by simpa using n2)]
  · show k1 x + k2 x ≤ 7
    by_cases q : ivb i l x = true
    · rw [b2 x (dj x q)]; exact a3 x
    · rw [a2 x (by simpa using q)]
      have := b3 x
      omega
theorem dk_b {wt : Nat → Int32} (hw : wbd wt) {A : Nat → Bool} {z : Int} {k : Nat → Nat} (h : dk wt A z k) : zbo z := by
  have b := zsm_bd (f := fun d => if 1 ≤ d ∧ A d = true then zka (wt (8 * d + k d)).toInt (k d) d else 0) (b := 2200000000000) (by omega) (fun x => by
    by_cases q : 1 ≤ x ∧ A x = true
    · rw [if_pos q]
      exact zka_b (hw _) (h.2.2 x) q.1
    · rw [if_neg q]; omega) (c := 7) (d := 1)
  have c1 : z = zsm (fun d => if 1 ≤ d ∧ A d = true then zka (wt (8 * d + k d)).toInt (k d) d else 0) 7 1 := by
    rw [h.1]
    exact zsm_congr 7 1 (fun x a _ => by simp [a])
  rw [c1]
  unfold zbo
  omega
