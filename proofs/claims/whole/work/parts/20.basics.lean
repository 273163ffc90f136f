/-! first facts for running my machine by simp -/
theorem zw_1 (h : zH) (a : Nat) (x : zA) : (zw h a x).1 = h.1 := rfl
theorem zw_21 (h : zH) (a : Nat) (x : zA) : (zw h a x).2.1 = h.2.1 := rfl
theorem zw_at (h : zH) (a : Nat) (x : zA) (b : Nat) : (zw h a x).2.2 b = if b = a then x else h.2.2 b := rfl
theorem zin_nI {k n : Nat} (hk : k < 2 ^ 31) : zin (nI k) n = decide (k < n) := by
  unfold zin
  rw [nI_clamp hk]
  simp [nI_pos hk]
theorem zlt1 (d : Int32) : (d < 1) ↔ ¬ (1 ≤ d) := by
  rw [Int32.not_le]
theorem s_hasWord {h : zH} {o t q : Nat} {n d : Int32} (hD : h.2.2 o = .inr (3, [.ref t, .ref q, .int n])) : zC 5 [.ref o, .int d] h = some (some (.int (if 1 ≤ d ∧ d ≤ n then 1 else 0)), h) := by
  simp only [I_X3_hasWord, E_X3_hasWord, hD, zfok, zfv, zfs', ziok, ziv, zpok, zis', zlok, zlv', zls', zbok, zrok, zrv', zrs', zaok, zan, zcok, zcs', zis, zgv, zgh, zcat, zw_1, zw_21, zw_at, zclr, zbv_0, zbv_1, zbv_ite, zbv_ite', Option.toList, Option.isSome, List.length, List.getD_cons_zero, List.getD_cons_succ, List.set, List.map, List.sum_cons, List.sum_nil, Value.category, beq_self_eq_true, Bool.and_true, Bool.true_and, decide_true, List.nil_append, List.cons_append]
  sorry
