/-! what the reference knows of the first trees -/
def zkt (wt : Nat → Int32) (N : Nat) (f : Nat → Nat) : Int := zwsm wt f N 1 * 2097152 - zdig f N 1
def zs32 (wt : Nat → Int32) (N : Nat) (f : Nat → Nat) : Int32 := Int32.ofInt (zwsm wt f N 1)
def nst (wt : Nat → Int32) (N t : Nat) (T : List (Nat → Nat)) (mn : Int64) (rk : Int32) (rs rh : Nat → Int32) : Prop :=
  mn = lZ T.length ∧ ∃ (m : Nat) (F : Nat → Nat → Nat), rk = nI m ∧ itop 31 (fun z => ∃ f, f ∈ T ∧ z = zkt wt N f) m (fun i => zkt wt N (F i)) ∧ ∀ i, i < m → F i ∈ T ∧ rs (31 * t + i) = zs32 wt N (F i) ∧ ∀ d, 1 ≤ d → d ≤ N → rh (8 * (31 * t + i) + d) = nI (F i d)
theorem zwsm_bw {wt : Nat → Int32} (hw : ∀ k, -1000000 ≤ (wt k).toInt ∧ (wt k).toInt ≤ 1000000) {f : Nat → Nat} {c : Nat} (hc : c ≤ 7) (d : Nat) : -7000000 ≤ zwsm wt f c d ∧ zwsm wt f c d ≤ 7000000 := by
  have h := zsm_bd (f := fun x => (wt (8 * x + f x)).toInt) (b := 1000000) (by omega) (fun x => hw _) (c := c) (d := d)
  have : (1000000 : Int) * (c : Int) ≤ 7000000 := by omega
  unfold zwsm
  omega
theorem zs32_lt {wt : Nat → Int32} (hw : ∀ k, -1000000 ≤ (wt k).toInt ∧ (wt k).toInt ≤ 1000000) {N : Nat} (hN : N ≤ 7) (f g : Nat → Nat) : zs32 wt N f < zs32 wt N g ↔ zwsm wt f N 1 < zwsm wt g N 1 := by
  have b1 := zwsm_bw hw (f := f) hN 1
  have b2 := zwsm_bw hw (f := g) hN 1
  unfold zs32
  rw [Int32.lt_iff_toInt_lt, Int32.toInt_ofInt, Int32.toInt_ofInt, show Int32.size = 4294967296 from rfl, Int.bmod_eq_of_le (by omega) (by omega), Int.bmod_eq_of_le (by omega) (by omega)]
/-- greater sums, greater keys; at the same sum the lesser digits -/
theorem zkt_lt {wt : Nat → Int32} {N : Nat} (hN : N ≤ 7) {f g : Nat → Nat} (hf : ∀ d, f d ≤ 7) (hg : ∀ d, g d ≤ 7) (h : zwsm wt f N 1 < zwsm wt g N 1) : zkt wt N f < zkt wt N g := by
  have b1 := zdig_b1 hf hN
  have b2 := zdig_b1 hg hN
  unfold zkt
  omega
theorem zkt_lt' {wt : Nat → Int32} {N : Nat} (hN : N ≤ 7) {f g : Nat → Nat} (hf : ∀ d, f d ≤ 7) (hg : ∀ d, g d ≤ 7) (h : zwsm wt f N 1 ≤ zwsm wt g N 1) (hd : zdig g N 1 < zdig f N 1) : zkt wt N f < zkt wt N g := by
  unfold zkt
  omega
theorem nst_step {wt : Nat → Int32} (hw : ∀ k, -1000000 ≤ (wt k).toInt ∧ (wt k).toInt ≤ 1000000) {N t : Nat} (hN : N ≤ 7) (ht : t < 2) {T : List (Nat → Nat)} {mn : Int64} {rk : Int32} {rs rh rw : Nat → Int32} (h : nst wt N t T mn rk rs rh) {f : Nat → Nat} (hf : ∀ d, f d ≤ 7) (hT : ∀ g, g ∈ T → ∀ d, g d ≤ 7) (hl : ∀ g, g ∈ T → zdig g N 1 < zdig f N 1) (hr : ∀ d, 1 ≤ d → d ≤ N → rw d = nI (f d)) :
    ∃ m, rk = nI m ∧ m ≤ 31 ∧ ∀ p la, p = zpo (fun i => rs (31 * t + i)) (zs32 wt N f) m → la = (if m < 31 then m else 30) → (p = 31 → nst wt N t (T ++ [f]) (mn + 1) rk rs rh) ∧ (p ≠ 31 → nst wt N t (T ++ [f]) (mn + 1) (nI (la + 1)) (znS t p la (zs32 wt N f) rs) (znH t p la N rw rh)) := by
  obtain ⟨h1, m, F, h2, ⟨i1, i2, i3, i4⟩, h4⟩ := h
  refine ⟨m, h2, i1, fun p la hp hla => ?_⟩
  have hmn : mn + 1 = lZ (T ++ [f]).length := by
    rw [h1, List.length_append, show (1 : Int64) = lZ 1 from rfl, lZ_add]
    rfl
  have pm : p ≤ m := by rw [hp]; exact zpo_le _ _ _
  have sp : ∀ j, j ≤ m → ∀ i, zpo (fun i => rs (31 * t + i)) (zs32 wt N f) j ≤ i → i < j → rs (31 * t + i) < zs32 wt N f := by
    intro j
    induction j with
    | zero => intro _ i _ hi; exact absurd hi (Nat.not_lt_zero _)
    | succ j ih =>
      intro hj i h1 h2
      unfold zpo at h1
      by_cases q : rs (31 * t + j) < zs32 wt N f
      · rw [if_pos q] at h1
        by_cases e : i = j
        · rw [e]; exact q
        · exact ih (by omega) i h1 (by omega)
      · rw [if_neg q] at h1; omega
  have low : ∀ i, p ≤ i → i < m → zkt wt N (F i) < zkt wt N f := by
    intro i a b
    have s1 := sp m (Nat.le_refl _) i (by rw [← hp]; exact a) b
    rw [(h4 i b).2.1, zs32_lt hw hN] at s1
    exact zkt_lt hN (hT _ (h4 i b).1) hf s1
  have high : ∀ i, i < p → zkt wt N f < zkt wt N (F i) := by
    intro i a
    have e : ¬ rs (31 * t + (p - 1)) < zs32 wt N f := by
      rcases zpo_end (fun i => rs (31 * t + i)) (zs32 wt N f) m with w | w
      · rw [← hp] at w; omega
      · rw [← hp] at w; exact w
    rw [(h4 (p - 1) (by omega)).2.1, zs32_lt hw hN] at e
    have k1 := zkt_lt' (wt := wt) hN hf (hT _ (h4 (p - 1) (by omega)).1) (show zwsm wt f N 1 ≤ zwsm wt (F (p - 1)) N 1 by omega) (hl _ (h4 (p - 1) (by omega)).1)
    by_cases q : i = p - 1
    · rw [q]; exact k1
    · have z : zkt wt N (F (p - 1)) < zkt wt N (F i) := i2 i (p - 1) (by omega) (by omega)
      omega
  constructor
  · intro q
    refine ⟨hmn, m, F, h2, ⟨i1, i2, fun i hi => ?_, fun x hx => ?_⟩, fun i hi => ⟨List.mem_append_left _ (h4 i hi).1, (h4 i hi).2⟩⟩
    · exact ⟨F i, List.mem_append_left _ (h4 i hi).1, rfl⟩
    · obtain ⟨g, g1, g2⟩ := hx
      rcases List.mem_append.mp g1 with w | w
      · exact i4 x ⟨g, w, g2⟩
      · rw [List.mem_singleton] at w
        right
        refine ⟨by omega, fun i hi => ?_⟩
        rw [g2, w]
        exact high i (by omega)
  · intro q
    have la1 : la ≤ 30 ∧ p ≤ la ∧ m ≤ la + 1 ∧ la ≤ m ∧ (la + 1 = m → m = 31) := by
      rw [hla]; split <;> omega
    refine ⟨hmn, la + 1, fun i => if i = p then f else if p < i ∧ i < la + 1 then F (i - 1) else F i, rfl, ⟨by omega, ?_, ?_, ?_⟩, ?_⟩
    · intro i j hij hj
      dsimp only
      by_cases a1 : j = p
      · rw [if_pos a1, if_neg (by omega), if_neg (by omega)]
        exact high i (by omega)
      · rw [if_neg a1]
        by_cases a2 : p < j
        · rw [if_pos ⟨a2, hj⟩]
          by_cases b1 : i = p
          · rw [if_pos b1]
            exact low (j - 1) (by omega) (by omega)
          · rw [if_neg b1]
            by_cases b2 : p < i
            · rw [if_pos (by omega)]
              exact i2 (i - 1) (j - 1) (by omega) (by omega)
            · rw [if_neg (by omega)]
              exact i2 i (j - 1) (by omega) (by omega)
        · rw [if_neg (by omega), if_neg (by omega), if_neg (by omega)]
          exact i2 i j hij (by omega)
    · intro i hi
      dsimp only
      by_cases a1 : i = p
      · rw [if_pos a1]
        exact ⟨f, List.mem_append_right _ (List.mem_singleton.mpr rfl), rfl⟩
      · rw [if_neg a1]
        by_cases a2 : p < i
        · rw [if_pos ⟨a2, hi⟩]
          exact ⟨F (i - 1), List.mem_append_left _ (h4 (i - 1) (by omega)).1, rfl⟩
        · rw [if_neg (by omega)]
          exact ⟨F i, List.mem_append_left _ (h4 i (by omega)).1, rfl⟩
    · rintro x ⟨g, g1, g2⟩
      dsimp only
      have last : la + 1 = m → ∀ y, (∀ i, i < m - 1 → y < zkt wt N (F i)) → y < zkt wt N f → ∀ i, i < la + 1 → y < zkt wt N (if i = p then f else if p < i ∧ i < la + 1 then F (i - 1) else F i) := by
        intro e y h1 h2 i hi
        by_cases a1 : i = p
        · rw [if_pos a1]; exact h2
        · rw [if_neg a1]
          by_cases a2 : p < i
          · rw [if_pos ⟨a2, hi⟩]; exact h1 _ (by omega)
          · rw [if_neg (by omega)]; exact h1 _ (by omega)
      rcases List.mem_append.mp g1 with w | w
      · rcases i4 x ⟨g, w, g2⟩ with ⟨i, hi, e⟩ | ⟨e1, e2⟩
        · by_cases a1 : i < p
          · left
            exact ⟨i, by omega, by rw [if_neg (by omega), if_neg (by omega)]; exact e⟩
          · by_cases a2 : i + 1 < la + 1
            · left
              exact ⟨i + 1, a2, by rw [if_neg (by omega), if_pos (by omega)]; exact e⟩
            · right
              refine ⟨by omega, last (by omega) x (fun k hk => ?_) ?_⟩
              · rw [← e]; exact i2 k i (by omega) hi
              · rw [← e]; exact low i (by omega) hi
        · right
          refine ⟨by omega, last (by omega) x (fun k hk => e2 k (by omega)) ?_⟩
          have a : x < zkt wt N (F p) := e2 p (by omega)
          have b := low p (Nat.le_refl _) (by omega)
          omega
      · rw [List.mem_singleton] at w
        left
        exact ⟨p, by omega, by rw [if_pos rfl, g2, w]⟩
    · intro i hi
      dsimp only
      by_cases a1 : i = p
      · rw [if_pos a1, a1]
        refine ⟨List.mem_append_right _ (List.mem_singleton.mpr rfl), ?_, fun d d1 d2 => ?_⟩
        · unfold znS upd
          rw [if_pos rfl]
        · unfold znH
          rw [if_pos (by omega), show 8 * (31 * t + p) + d - 8 * (31 * t + p) = d by omega]
          exact hr d d1 d2
      · by_cases a2 : p < i
        · have hF : (if i = p then f else if p < i ∧ i < la + 1 then F (i - 1) else F i) = F (i - 1) := by rw [if_neg a1, if_pos ⟨a2, hi⟩]
          rw [hF]
          have k := h4 (i - 1) (by omega)
          refine ⟨List.mem_append_left _ k.1, ?_, fun d d1 d2 => ?_⟩
          · unfold znS upd zsR
            rw [if_neg (by omega), if_pos (by omega), show 31 * t + i - 1 = 31 * t + (i - 1) by omega]
            exact k.2.1
          · unfold znH zsH
            rw [if_neg (by omega), if_pos (by omega), show 8 * (31 * t + i) + d - 8 = 8 * (31 * t + (i - 1)) + d by omega]
            exact k.2.2 d d1 d2
        · have hF : (if i = p then f else if p < i ∧ i < la + 1 then F (i - 1) else F i) = F i := by rw [if_neg a1, if_neg (by omega)]
          rw [hF]
          have k := h4 i (by omega)
          refine ⟨List.mem_append_left _ k.1, ?_, fun d d1 d2 => ?_⟩
          · unfold znS upd zsR
            rw [if_neg (by omega), if_neg (by omega)]
            exact k.2.1
          · unfold znH zsH
            rw [if_neg (by omega), if_neg (by omega)]
            exact k.2.2 d d1 d2
theorem nst_other {wt : Nat → Int32} {N t t' : Nat} (hN : N ≤ 7) (ht : t < 2) (ht' : t' < 2) (htt : t ≠ t') {T : List (Nat → Nat)} {mn : Int64} {rk : Int32} {rs rh rw : Nat → Int32} {p la : Nat} {sm : Int32} (hp : p ≤ la) (hla : la ≤ 30) (h : nst wt N t' T mn rk rs rh) : nst wt N t' T mn rk (znS t p la sm rs) (znH t p la N rw rh) := by
  obtain ⟨h1, m, F, h2, h3, h4⟩ := h
  refine ⟨h1, m, F, h2, h3, fun i hi => ?_⟩
  have m31 := h3.1
  have k := h4 i hi
  unfold znS znH upd zsR zsH
  refine ⟨k.1, ?_, fun d d1 d2 => ?_⟩
  · rw [if_neg (by omega), if_neg (by omega)]; exact k.2.1
  · rw [if_neg (by omega), if_neg (by omega)]; exact k.2.2 d d1 d2
