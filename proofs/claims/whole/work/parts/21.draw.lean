/-! a Drawing: cells o (object), t (tags), q (heads) -/
section DRAW
variable {h : zH} {o t q N : Nat} {hd tg : Nat → Nat}
theorem s_hasWord {n d : Int32} (hD : h.2.2 o = .inr (3, [.ref t, .ref q, .int n])) : zC 5 [.ref o, .int d] h = some (some (.int (if 1 ≤ d ∧ d ≤ n then 1 else 0)), h) := by
  simp [I_X3_hasWord, E_X3_hasWord, hD, zfok, zfv, zfs', ziok, ziv, zpok, zis', zlok, zlv', zls', zbok, zrok, zrv', zrs', zaok, zan, zcok, zcs', zis, zgv, zgh, zcat, zw_1, zw_21, zw_at, zclr_int, zclr_ref, zclr_null, zclr_none, zclr_long, zclr_clr, zbv_0, zbv_1, zbv_ite, zbv_ite', Value.category]
  by_cases h1 : d < 1
  · rw [if_pos h1, if_neg (fun z => absurd h1 (Int32.not_lt.mpr z.1))]
  · rw [if_neg h1]
    by_cases h2 : n < d
    · rw [if_pos h2, if_neg (fun z => absurd h2 (Int32.not_lt.mpr z.2))]
    · rw [if_neg h2, if_pos ⟨Int32.not_lt.mp h1, Int32.not_lt.mp h2⟩]
theorem s_hasPlace {n d : Int32} (hD : h.2.2 o = .inr (3, [.ref t, .ref q, .int n])) : zC 6 [.ref o, .int d] h = some (some (.int (if 0 ≤ d ∧ d ≤ n then 1 else 0)), h) := by
  simp [I_X3_hasPlace, E_X3_hasPlace, hD, zfok, zfv, zfs', ziok, ziv, zpok, zis', zlok, zlv', zls', zbok, zrok, zrv', zrs', zaok, zan, zcok, zcs', zis, zgv, zgh, zcat, zw_1, zw_21, zw_at, zclr_int, zclr_ref, zclr_null, zclr_none, zclr_long, zclr_clr, zbv_0, zbv_1, zbv_ite, zbv_ite', Value.category]
  by_cases h1 : d < 0
  · rw [if_pos h1, if_neg (fun z => absurd h1 (Int32.not_lt.mpr z.1))]
  · rw [if_neg h1]
    by_cases h2 : n < d
    · rw [if_pos h2, if_neg (fun z => absurd h2 (Int32.not_lt.mpr z.2))]
    · rw [if_neg h2, if_pos ⟨Int32.not_lt.mp h1, Int32.not_lt.mp h2⟩]
theorem s_hasArc {n d p : Int32} (hD : h.2.2 o = .inr (3, [.ref t, .ref q, .int n])) : zC 51 [.ref o, .int p, .int d] h = some (some (.int (if (0 ≤ p ∧ p ≤ n) ∧ (1 ≤ d ∧ d ≤ n) ∧ ¬ p = d then 1 else 0)), h) := by
  simp [I_X3_hasArc, E_X3_hasArc, hD, s_hasPlace hD, s_hasWord hD, zfok, zfv, zfs', ziok, ziv, zpok, zis', zlok, zlv', zls', zbok, zrok, zrv', zrs', zaok, zan, zcok, zcs', zis, zgv, zgh, zcat, zw_1, zw_21, zw_at, zclr_int, zclr_ref, zclr_null, zclr_none, zclr_long, zclr_clr, zbv_0, zbv_1, zbv_ite, zbv_ite', Value.category]
  have b1 : (p < 0) = ¬ (0 ≤ p) := by rw [Int32.not_le]
  have b2 : (n < p) = ¬ (p ≤ n) := by rw [Int32.not_le]
  have b3 : (d < 1) = ¬ (1 ≤ d) := by rw [Int32.not_le]
  have b4 : (n < d) = ¬ (d ≤ n) := by rw [Int32.not_le]
  simp only [b1, b2, b3, b4]
  by_cases a1 : 0 ≤ p <;> by_cases a2 : p ≤ n <;> by_cases a3 : 1 ≤ d <;> by_cases a4 : d ≤ n <;> by_cases a5 : p = d <;> simp only [a1, a2, a3, a4, a5, not_true, not_false_iff, if_true, if_false, and_true, true_and, and_false, false_and, ite_self]
  all_goals first | rfl | (simp; done) | skip
  all_goals done
theorem s_sideOf {p d : Int32} : zC 7 [.int p, .int d] h = some (some (.int (if p < d then 0 else 1)), h) := by
  simp [I_X3_sideOf, E_X3_sideOf, zfok, zfv, zfs', ziok, ziv, zpok, zis', zlok, zlv', zls', zbok, zrok, zrv', zrs', zaok, zan, zcok, zcs', zis, zgv, zgh, zcat, zw_1, zw_21, zw_at, zclr_int, zclr_ref, zclr_null, zclr_none, zclr_long, zclr_clr, zbv_0, zbv_1, zbv_ite, zbv_ite', Value.category]
  by_cases h1 : p < d
  · rw [if_neg (Int32.not_le.mpr h1), if_pos h1]
  · rw [if_pos (Int32.not_lt.mp h1), if_neg h1]
theorem l_placesAbove (hD : h.2.2 o = .inr (3, [.ref t, .ref q, .int (nI N)])) (hq : h.2.2 q = .inl (0, 8, .inl (fun d => nI (hd d)))) (hN : N ≤ 7) (hh : ∀ d, hd d ≤ 7) :
    ∀ (s x m : Nat) (l1 : Option Value), s ≤ N → x ≤ 7 → m < 256 → zD 8 7 [some (.ref o), l1, some (.int (nI m)), some (.int (nI x)), some (.int (nI (N - s)))] [] h = some (some (.int (nI (zpm hd s x m))), h)
  | 0, x, m, l1, hs, hx, hm => by
    rw [E_X3_placesAbove_h7]
    simp [E_X3_placesAbove, hD, zfok, zfv, zfs', ziok, ziv, zpok, zis', zlok, zlv', zls', zbok, zrok, zrv', zrs', zaok, zan, zcok, zcs', zis, zgv, zgh, zcat, zw_1, zw_21, zw_at, zclr_int, zclr_ref, zclr_null, zclr_none, zclr_long, zclr_clr, zbv_0, zbv_1, zbv_ite, zbv_ite', Value.category, zpm]
  | s + 1, x, m, l1, hs, hx, hm => by
    rw [E_X3_placesAbove_h7]
    have e1 : ¬ nI N ≤ nI (N - (s + 1)) := by rw [zle (by omega) (by omega)]; omega
    have e2 : zin (nI x) 8 = true := zin8 (by omega) (by omega)
    have e3 : (nI x).toNatClampNeg = x := zcl7 (by omega)
    have e4 : nI (N - (s + 1)) + 1 = nI (N - s) := by rw [nI_1]; congr 1; omega
    have e5 := zor8 m hm (hd x) (by have := hh x; omega)
    have e6 : (nI (hd x) = 0) ↔ hd x = 0 := by have := hh x; exact zeq (a := hd x) (b := 0) (by omega) (by omega)
    simp [E_X3_placesAbove, hD, hq, zfok, zfv, zfs', ziok, ziv, zpok, zis', zlok, zlv', zls', zbok, zrok, zrv', zrs', zaok, zan, zcok, zcs', zis, zgv, zgh, zcat, zw_1, zw_21, zw_at, zclr_int, zclr_ref, zclr_null, zclr_none, zclr_long, zclr_clr, zbv_0, zbv_1, zbv_ite, zbv_ite', Value.category, e1, e2, e3, e4, e5.1, e6, zpm]
    by_cases e7 : hd x = 0
    · simp [e7]
    · rw [if_neg e7, if_neg e7]
      exact l_placesAbove hD hq hN hh s (hd x) _ _ (by omega) (hh x) e5.2
theorem s_placesAbove (hD : h.2.2 o = .inr (3, [.ref t, .ref q, .int (nI N)])) (hq : h.2.2 q = .inl (0, 8, .inl (fun d => nI (hd d)))) (hN : N ≤ 7) (hh : ∀ d, hd d ≤ 7) {x : Nat} (hx : x ≤ 7) : zC 8 [.ref o, .int (nI x)] h = some (some (.int (nI (zpm hd N x 0))), h) := by
  have e0 := l_placesAbove hD hq hN hh N x 0 (some (.int (nI x))) (Nat.le_refl N) hx (by omega)
  rw [Nat.sub_self] at e0
  simp [I_X3_placesAbove, E_X3_placesAbove, zfok, zfv, zfs', ziok, ziv, zpok, zis', zlok, zlv', zls', zbok, zrok, zrv', zrs', zaok, zan, zcok, zcs', zis, zgv, zgh, zcat, zw_1, zw_21, zw_at, zclr_int, zclr_ref, zclr_null, zclr_none, zclr_long, zclr_clr, zbv_0, zbv_1, zbv_ite, zbv_ite', Value.category]
  exact e0
theorem s_isAbove (hD : h.2.2 o = .inr (3, [.ref t, .ref q, .int (nI N)])) (hq : h.2.2 q = .inl (0, 8, .inl (fun d => nI (hd d)))) (hN : N ≤ 7) (hh : ∀ d, hd d ≤ 7) {a x : Nat} (ha : a ≤ 7) (hx : x ≤ 7) : zC 52 [.ref o, .int (nI a), .int (nI x)] h = some (some (.int (if zab hd N a x = true then 1 else 0)), h) := by
  have e1 := zshr8 (zpm hd N x 0) (zpm_lt hd hh _ _ _ (by omega)) a (by omega)
  simp [I_X3_isAbove, E_X3_isAbove, hD, s_placesAbove hD hq hN hh hx, zfok, zfv, zfs', ziok, ziv, zpok, zis', zlok, zlv', zls', zbok, zrok, zrv', zrs', zaok, zan, zcok, zcs', zis, zgv, zgh, zcat, zw_1, zw_21, zw_at, zclr_int, zclr_ref, zclr_null, zclr_none, zclr_long, zclr_clr, zbv_0, zbv_1, zbv_ite, zbv_ite', Value.category, e1]
  unfold zab
  by_cases e2 : (zpm hd N x 0).testBit a = true
  · simp [e2]
  · simp [e2]
theorem l_isTree (hD : h.2.2 o = .inr (3, [.ref t, .ref q, .int (nI N)])) (hq : h.2.2 q = .inl (0, 8, .inl (fun d => nI (hd d)))) (hN : N ≤ 7) (hh : ∀ d, hd d ≤ 7) :
    ∀ (c d : Nat), c + d = N + 1 → 1 ≤ d → zD 92 2 [some (.ref o), some (.int (nI d))] [] h = some (some (.int (if zall (fun x => zab hd N 0 x) c d = true then 1 else 0)), h)
  | 0, d, hs, h1 => by
    rw [E_X3_isTree_h2]
    have e1 : nI N < nI d := by rw [zlt (by omega) (by omega)]; omega
    simp [E_X3_isTree, hD, zfok, zfv, zfs', ziok, ziv, zpok, zis', zlok, zlv', zls', zbok, zrok, zrv', zrs', zaok, zan, zcok, zcs', zis, zgv, zgh, zcat, zw_1, zw_21, zw_at, zclr_int, zclr_ref, zclr_null, zclr_none, zclr_long, zclr_clr, zbv_0, zbv_1, zbv_ite, zbv_ite', Value.category, zall, e1]
  | c + 1, d, hs, h1 => by
    rw [E_X3_isTree_h2]
    have e1 : ¬ nI N < nI d := by rw [zlt (by omega) (by omega)]; omega
    have e2 : nI d + 1 = nI (d + 1) := nI_1 d
    have e3 := s_isAbove hD hq hN hh (a := 0) (x := d) (by omega) (by omega)
    rw [nI_0] at e3
    simp [E_X3_isTree, hD, zfok, zfv, zfs', ziok, ziv, zpok, zis', zlok, zlv', zls', zbok, zrok, zrv', zrs', zaok, zan, zcok, zcs', zis, zgv, zgh, zcat, zw_1, zw_21, zw_at, zclr_int, zclr_ref, zclr_null, zclr_none, zclr_long, zclr_clr, zbv_0, zbv_1, zbv_ite, zbv_ite', Value.category, zall, e1, e2, e3, zb01]
    by_cases e4 : zab hd N 0 d = true
    · simp [e4]
      exact l_isTree hD hq hN hh c (d + 1) (by omega) (by omega)
    · simp [e4]
theorem s_isTree (hD : h.2.2 o = .inr (3, [.ref t, .ref q, .int (nI N)])) (hq : h.2.2 q = .inl (0, 8, .inl (fun d => nI (hd d)))) (hN : N ≤ 7) (hh : ∀ d, hd d ≤ 7) : zC 92 [.ref o] h = some (some (.int (if zall (fun x => zab hd N 0 x) N 1 = true then 1 else 0)), h) := by
  simp [I_X3_isTree, E_X3_isTree, zfok, zfv, zfs', ziok, ziv, zpok, zis', zlok, zlv', zls', zbok, zrok, zrv', zrs', zaok, zan, zcok, zcs', zis, zgv, zgh, zcat, zw_1, zw_21, zw_at, zclr_int, zclr_ref, zclr_null, zclr_none, zclr_long, zclr_clr, zbv_0, zbv_1, zbv_ite, zbv_ite', Value.category]
  exact l_isTree hD hq hN hh N 1 rfl (Nat.le_refl 1)
end DRAW
