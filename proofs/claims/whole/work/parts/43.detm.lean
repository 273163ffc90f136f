/-! the class's elimination counts the trees -/
theorem lZ_div {x d y : Int} (h1 : -9223372036854775808 ≤ x) (h2 : x < 9223372036854775808) (h3 : -9223372036854775808 ≤ d) (h4 : d < 9223372036854775808) (h5 : -9223372036854775808 ≤ y) (h6 : y < 9223372036854775808) (hd : d ≠ 0) (e : x = d * y) : lZ x / lZ d = lZ y := by
  apply Int64.toInt_inj.mp
  rw [Int64.toInt_div, lZ_toInt h1 h2, lZ_toInt h3 h4, lZ_toInt h5 h6, e, Int.mul_tdiv_cancel_left y hd]
  exact fb_bmodL h5 h6
theorem zec_val {p row : Nat} {pv dv : Int64} : ∀ (c j : Nat) (G : Nat → Int64), p < j → p ≠ row → j + c ≤ 8 → ∀ a b, b < 8 → zec p pv dv row c j G (8 * a + b) = if a = row ∧ j ≤ b ∧ b < j + c then (G (8 * row + b) * pv - G (8 * row + p) * G (8 * p + b)) / dv else G (8 * a + b)
  | 0, j, G, h1, h2, h3, a, b, hb => by
    rw [zec, if_neg (by omega)]
  | c + 1, j, G, h1, h2, h3, a, b, hb => by
    rw [zec, zec_val c (j + 1) _ (by omega) h2 (by omega) a b hb]
    have u : ∀ a' b' : Nat, b' < 8 → ∀ v, vp_updL G (8 * row + j) v (8 * a' + b') = if a' = row ∧ b' = j then v else G (8 * a' + b') := by
      intro a' b' hb' v
      unfold vp_updL
      by_cases q : a' = row ∧ b' = j
      · rw [if_pos q, if_pos (by omega)]
      · rw [if_neg q, if_neg (by omega)]
    rw [u _ _ (by omega), u _ _ (by omega), u _ _ (by omega), u _ _ (by omega)]
    by_cases q : a = row
    · subst q
      by_cases q2 : b = j
      · subst q2
        rw [if_neg (by omega), if_pos (by omega), if_pos (by omega)]
      · by_cases q3 : j < b ∧ b < j + (c + 1)
        · rw [if_pos (by omega), if_neg (by omega), if_neg (by omega), if_neg (by omega), if_pos (by omega)]
        · rw [if_neg (by omega), if_neg (by omega), if_neg (by omega)]
    · rw [if_neg (by omega), if_neg (by omega), if_neg (by omega)]
theorem zer_val {N p : Nat} {pv dv : Int64} (hN : N ≤ 7) (hp : p ≤ N) : ∀ (c row : Nat) (G : Nat → Int64), p < row → ∀ a b, b < 8 → zer N p pv dv c row G (8 * a + b) = if row ≤ a ∧ a < row + c ∧ p < b ∧ b ≤ N then (G (8 * a + b) * pv - G (8 * a + p) * G (8 * p + b)) / dv else G (8 * a + b)
  | 0, row, G, h1, a, b, hb => by
    rw [zer, if_neg (by omega)]
  | c + 1, row, G, h1, a, b, hb => by
    have u := fun a' b' h => zec_val (p := p) (row := row) (pv := pv) (dv := dv) (N - p) (p + 1) G (by omega) (by omega) (by omega) a' b' h
    rw [zer, zer_val hN hp c (row + 1) _ (by omega) a b hb, u a b hb, u a p (by omega), u p b hb]
    by_cases q : a = row
    · subst q
      rw [if_neg (by omega)]
      by_cases q2 : p < b ∧ b ≤ N
      · rw [if_pos (by omega), if_pos (by omega)]
      · rw [if_neg (by omega), if_neg (by omega)]
    · rw [if_neg (show ¬ (a = row ∧ p + 1 ≤ b ∧ b < p + 1 + (N - p)) by omega), if_neg (show ¬ (a = row ∧ p + 1 ≤ p ∧ p < p + 1 + (N - p)) by omega), if_neg (show ¬ (p = row ∧ p + 1 ≤ b ∧ b < p + 1 + (N - p)) by omega)]
      by_cases q2 : row ≤ a ∧ a < row + (c + 1) ∧ p < b ∧ b ≤ N
      · rw [if_pos (by omega), if_pos q2]
      · rw [if_neg (by omega), if_neg q2]
theorem zrow_val {fb : Nat → Nat} {d : Nat} : ∀ (c p : Nat) (G : Nat → Int64), p + c ≤ 8 → ∀ a b, b < 8 → zrow fb d c p G (8 * a + b) = if a = d ∧ p ≤ b ∧ b < p + c then (if zisf fb d b = true then -1 else 0) else G (8 * a + b)
  | 0, p, G, h1, a, b, hb => by
    rw [zrow, if_neg (by omega)]
  | c + 1, p, G, h1, a, b, hb => by
    rw [zrow, zrow_val c (p + 1) _ (by omega) a b hb]
    unfold vp_updL
    by_cases q : a = d ∧ b = p
    · obtain ⟨rfl, rfl⟩ := q
      rw [if_neg (by omega), if_pos (show 8 * a + b = 8 * a + b from rfl), if_pos (show a = a ∧ b ≤ b ∧ b < b + (c + 1) by omega)]
    · rw [if_neg (show ¬ 8 * a + b = 8 * d + p by omega)]
      by_cases q2 : a = d ∧ p ≤ b ∧ b < p + (c + 1)
      · rw [if_pos q2, if_pos (by omega)]
      · rw [if_neg q2, if_neg (by omega)]
theorem zfa_val {fb : Nat → Nat} {N : Nat} (hN : N ≤ 7) : ∀ (c d : Nat) (G : Nat → Int64), d + c ≤ 8 → ∀ a b, b ≤ N → zfa fb N c d G (8 * a + b) = if d ≤ a ∧ a < d + c then (if a = b then lN (zcnt (zisf fb a) (N + 1) 0) else if zisf fb a b = true then -1 else 0) else G (8 * a + b)
  | 0, d, G, hd, a, b, hb => by
    rw [zfa, if_neg (by omega)]
  | c + 1, d, G, hd, a, b, hb => by
    rw [zfa, zfa_val hN c (d + 1) _ (by omega) a b hb]
    unfold vp_updL
    rw [zrow_val (N + 1) 0 G (by omega) a b (by omega)]
    by_cases q : a = d
    · subst q
      rw [if_neg (by omega), if_pos (show a ≤ a ∧ a < a + (c + 1) by omega), if_pos (show a = a ∧ 0 ≤ b ∧ b < 0 + (N + 1) by omega)]
      by_cases q2 : a = b
      · subst q2
        rw [if_pos rfl, if_pos rfl]
      · rw [if_neg (by omega), if_neg q2]
    · rw [if_neg (show ¬ 8 * a + b = 8 * d + d by omega), if_neg (show ¬ (a = d ∧ 0 ≤ b ∧ b < 0 + (N + 1)) by omega)]
      by_cases q2 : d ≤ a ∧ a < d + (c + 1)
      · rw [if_pos q2, if_pos (by omega)]
      · rw [if_neg q2, if_neg (by omega)]
theorem zcnt_snoc {P : Nat → Bool} : ∀ (c d : Nat), zcnt P (c + 1) d = zcnt P c d + (if P (d + c) = true then 1 else 0)
  | 0, d => by simp [zcnt]
  | c + 1, d => by
    rw [zcnt, zcnt_snoc c (d + 1), zcnt, show d + 1 + c = d + (c + 1) by omega]
    omega
theorem zcnt_rsum {P : Nat → Bool} : ∀ (c : Nat), rsum (fun h => if P h = true then 1 else 0) c = ((zcnt P c 0 : Nat) : Rat)
  | 0 => by simp [rsum, zcnt]
  | c + 1 => by
    rw [rsum, zcnt_rsum c, zcnt_snoc, Nat.zero_add, Rat.natCast_add]
    by_cases q : P c = true
    · simp [q]
    · simp [q]
theorem bdn_le : ∀ k, k ≤ 6 → bdn k ≤ 200000000 := by decide +kernel
theorem bdn_7 : bdn 7 ≤ 20000000000 := by decide +kernel
theorem bdn_le7 (k : Nat) (h : k ≤ 7) : bdn k ≤ 20000000000 := by
  by_cases e : k = 7
  · subst e; exact bdn_7
  · have := bdn_le k (by omega); omega
theorem zdet_val {fb : Nat → Nat} {N : Nat} (hN : N ≤ 7) {A : Nat → Nat → Rat} (hA : A = rlp (zisf fb) N) : ∀ (c k : Nat) (G : Nat → Int64) (dv : Int64), c + k + 1 = N → rpv k A ≠ 0 → (∀ i j, k + i + 1 ≤ N → k + j + 1 ≤ N → ∀ z : Int, (z : Rat) = rpv k A * rit k A i j → G (8 * (k + i + 1) + (k + j + 1)) = lZ z) → (∀ z : Int, (z : Rat) = rpv k A → dv = lZ z) → risi (bdn k) (rpv k A) → ∀ z : Int, (z : Rat) = rdt N A → zdet N c (k + 1) dv G = lZ z
  | 0, k, G, dv, h, hp, hG, hd, hb, z, hz => by
    rw [zdet]
    have : N = k + 1 := by omega
    subst this
    rw [rdt_lead hp] at hz
    have := hG 0 0 (by omega) (by omega) z hz
    rw [show k + 0 + 1 = k + 1 by omega] at this
    exact this
  | c + 1, k, G, dv, h, hp, hG, hd, hb, z, hz => by
    have int : ∀ i j, risi (bdn (k + 1)) (rpv k A * rit k A i j) := fun i j => rit_int hp (fun _ _ _ _ => by rw [hA]; exact rlp_int hN)
    have bk := bdn_le (k + 1) (by omega)
    have bk' := bdn_le7 k (by omega)
    rw [zdet]
    obtain ⟨z0, e0, l0, u0⟩ := int 0 0
    have g0 := hG 0 0 (by omega) (by omega) z0 e0.symm
    rw [show k + 0 + 1 = k + 1 by omega] at g0
    rw [g0]
    have zz : lZ 0 = 0 := rfl
    have q0 : lZ z0 = 0 ↔ z0 = 0 := by
      rw [← zz]
      exact lZ_eq (by omega) (by omega) (by omega) (by omega)
    by_cases q : z0 = 0
    · rw [if_pos (q0.mpr q)]
      rw [q] at e0
      have t1 : rdt (k + 1) A = 0 := by rw [rdt_lead hp, e0]; simp
      rw [hA, rdt_lap (fun _ => 0)] at t1
      have t2 := tcn_none (p := k + 1) (n := N) (by omega) (k + 1) 1 (fun _ => 0) (by omega) t1
      rw [show k + 1 + (N - (k + 1)) = N by omega, ← rdt_lap, ← hA, ← hz] at t2
      have t3 : z = 0 := by
        rw [show (0 : Rat) = ((0 : Int) : Rat) by simp] at t2
        exact Rat.intCast_inj.mp t2
      rw [t3, zz]
    · rw [if_neg (fun w => q (q0.mp w))]
      have r0 : rit k A 0 0 ≠ 0 := fun w => by
        rw [w, Rat.mul_zero] at e0
        rw [show (0 : Rat) = ((0 : Int) : Rat) by simp] at e0
        exact q (Rat.intCast_inj.mp e0.symm)
      have hp' : rpv (k + 1) A ≠ 0 := by
        rw [rpv_s, e0]
        intro w
        rw [show (0 : Rat) = ((0 : Int) : Rat) by simp] at w
        exact q (Rat.intCast_inj.mp w)
      refine zdet_val hN hA c (k + 1) _ (lZ z0) (by omega) hp' ?_ ?_ ?_ z hz
      · intro i j hi hj y hy
        rw [zer_val hN (by omega) _ _ _ (by omega) _ _ (by omega), if_pos (by omega)]
        obtain ⟨y1, e1, l1, u1⟩ := int (i + 1) (j + 1)
        obtain ⟨y2, e2, l2, u2⟩ := int (i + 1) 0
        obtain ⟨y3, e3, l3, u3⟩ := int 0 (j + 1)
        obtain ⟨dd, ed, ld, ud⟩ := hb
        obtain ⟨y', ey, ly, uy⟩ := rit_int (k := k + 1) (r := i) (c := j) hp' (A := A) (fun _ _ _ _ => by rw [hA]; exact rlp_int hN)
        have yy : y' = y := Rat.intCast_inj.mp (by rw [← ey, hy])
        have bk2 := bdn_le7 (k + 1 + 1) (by omega)
        have g1 := hG (i + 1) (j + 1) (by omega) (by omega) y1 e1.symm
        have g2 := hG (i + 1) 0 (by omega) (by omega) y2 e2.symm
        have g3 := hG 0 (j + 1) (by omega) (by omega) y3 e3.symm
        rw [show k + (i + 1) + 1 = k + 1 + i + 1 by omega, show k + (j + 1) + 1 = k + 1 + j + 1 by omega] at g1
        rw [show k + (i + 1) + 1 = k + 1 + i + 1 by omega, show k + 0 + 1 = k + 1 by omega] at g2
        rw [show k + (j + 1) + 1 = k + 1 + j + 1 by omega, show k + 0 + 1 = k + 1 by omega] at g3
        rw [g1, g2, g3, hd dd ed.symm, lZ_mul, lZ_mul, lZ_sub]
        have st := rit_step (r := i) (c := j) hp r0
        rw [e1, e2, e3, e0, ed, ← hy] at st
        rw [← Rat.intCast_mul, ← Rat.intCast_mul, ← Rat.intCast_sub, ← Rat.intCast_mul] at st
        have st := Rat.intCast_inj.mp st
        have m1 := zmulb (a := 200000000) (b := 200000000) (x := y1) (y := z0) (by omega) (by omega) (by omega) (by omega)
        have m2 := zmulb (a := 200000000) (b := 200000000) (x := y2) (y := y3) (by omega) (by omega) (by omega) (by omega)
        refine lZ_div (by omega) (by omega) (by omega) (by omega) (by omega) (by omega) (fun w => hp ?_) st
        rw [ed, w]; simp
      · intro y hy
        rw [rpv_s, e0] at hy
        rw [Rat.intCast_inj.mp hy]
      · rw [rpv_s, e0]
        exact ⟨z0, rfl, l0, u0⟩
/-- the answer of howMany for all trees -/
theorem zdet_all {fb : Nat → Nat} {N : Nat} (hN : N ≤ 7) (hN1 : 1 ≤ N) {G : Nat → Int64} {z : Int} (hz : (z : Rat) = tcn (fun f => ftr N 0 f) (zisf fb) N N 1 (fun _ => 0)) : zdet N (N - 1) 1 1 (zfa fb N N 1 G) = lZ z := by
  refine zdet_val (fb := fb) hN rfl (N - 1) 0 _ 1 (by omega) ?_ ?_ ?_ ?_ z ?_
  · simp [rpv]
  · intro i j hi hj y hy
    rw [zfa_val hN _ _ _ (by omega) _ _ (by omega), if_pos (by omega)]
    simp only [rpv, rit] at hy
    rw [show (1 : Rat) * rlp (zisf fb) N i j = rlp (zisf fb) N i j by grind] at hy
    by_cases q : i = j
    · subst q
      rw [if_pos rfl]
      rw [rlp_diag (by simp [zisf]), zcnt_rsum] at hy
      have : y = ((zcnt (zisf fb (i + 1)) (N + 1) 0 : Nat) : Int) := by
        apply Rat.intCast_inj.mp
        rw [hy]
        exact (Rat.intCast_natCast _).symm
      rw [this, Nat.zero_add]
      unfold lN lZ
      exact Int64.ofInt_eq_ofNat.symm
    · rw [if_neg (by omega)]
      rw [rlp_off (fun w => q w.symm) (by omega)] at hy
      rw [Nat.zero_add, Nat.zero_add]
      by_cases q2 : zisf fb (i + 1) (j + 1) = true
      · rw [if_pos q2] at hy ⊢
        have : y = -1 := by
          apply Rat.intCast_inj.mp
          rw [hy]
          simp
        rw [this]; rfl
      · rw [if_neg q2] at hy ⊢
        have : y = 0 := by
          apply Rat.intCast_inj.mp
          rw [hy]
          simp
        rw [this]; rfl
  · intro y hy
    simp only [rpv] at hy
    have : y = 1 := by
      apply Rat.intCast_inj.mp
      rw [hy]
      simp
    rw [this]; rfl
  · exact ⟨1, by simp [rpv], by simp [bdn], by simp [bdn]⟩
  · rw [hz, rdt_lap]
