/-! Arrays.fill; Drawing's writes; Keys -/
section FILL
variable {h : zH} {a n : Nat} {f : Nat → Int32} {v : Int32}
def zfil (f : Nat → Int32) (v : Int32) (i : Nat) : Nat → Int32 := fun j => if j < i then v else f j
theorem zfil_s (f : Nat → Int32) (v : Int32) (i : Nat) : upd (zfil f v i) i v = zfil f v (i + 1) := by
  funext j
  unfold upd zfil
  by_cases e : j = i
  · subst e; simp
  · rw [if_neg e]
    by_cases e2 : j < i
    · rw [if_pos e2, if_pos (by omega)]
    · rw [if_neg e2, if_neg (by omega)]
theorem zfil_0 (f : Nat → Int32) (v : Int32) : zfil f v 0 = f := by
  funext j; simp [zfil]
theorem l_fill (hn : n < 1000) : ∀ (c i : Nat) (h : zH), c + i = n → h.2.2 a = .inl (0, n, .inl (zfil f v i)) → zD 41 5 [some (.ref a), some (.int v), some (.int (nI i)), some (.int (nI n))] [] h = some (none, zw h a (.inl (0, n, .inl (zfil f v n))))
  | 0, i, h, hs, ha => by
    rw [E_J7_fill_53178_h5]
    have e0 : i = n := by omega
    subst e0
    have e1 : nI i ≤ nI i := Int32.le_refl _
    simp [E_J7_fill_53178, zfok, zfv, zfs', ziok, ziv, zpok, zis', zlok, zlv', zls', zbok, zrok, zrv', zrs', zaok, zan, zcok, zcs', zis, zgv, zgh, zcat, zw_1, zw_21, zw_at, zclr_int, zclr_ref, zclr_null, zclr_none, zclr_long, zclr_clr, zbv_0, zbv_1, zbv_ite, zbv_ite', Value.category]
    rw [zw_id h ha]
  | c + 1, i, h, hs, ha => by
    rw [E_J7_fill_53178_h5]
    have e1 : ¬ nI n ≤ nI i := by rw [zle (by omega) (by omega)]; omega
    have e2 : nI i + 1 = nI (i + 1) := nI_1 i
    have e3 : zin (nI i) n = true := zin8 (by omega) (by omega)
    have e4 : (nI i).toNatClampNeg = i := zcl7 (by omega)
    simp [E_J7_fill_53178, zfok, zfv, zfs', ziok, ziv, zpok, zis', zlok, zlv', zls', zbok, zrok, zrv', zrs', zaok, zan, zcok, zcs', zis, zgv, zgh, zcat, zw_1, zw_21, zw_at, zclr_int, zclr_ref, zclr_null, zclr_none, zclr_long, zclr_clr, zbv_0, zbv_1, zbv_ite, zbv_ite', Value.category, ha, e1, e2, e3, e4, zfil_s]
    rw [l_fill hn c (i + 1) _ (by omega) (by simp [zw_at])]
    rw [zw_w]
theorem s_fill (hn : n < 1000) (ha : h.2.2 a = .inl (0, n, .inl f)) : zC 41 [.ref a, .int v] h = some (none, zw h a (.inl (0, n, .inl (zfil f v n)))) := by
  have e0 := l_fill (f := f) (v := v) (a := a) hn n 0 h (by omega) (by rw [zfil_0]; exact ha)
  simp [I_J7_fill_53178, E_J7_fill_53178, zfok, zfv, zfs', ziok, ziv, zpok, zis', zlok, zlv', zls', zbok, zrok, zrv', zrs', zaok, zan, zcok, zcs', zis, zgv, zgh, zcat, zw_1, zw_21, zw_at, zclr_int, zclr_ref, zclr_null, zclr_none, zclr_long, zclr_clr, zbv_0, zbv_1, zbv_ite, zbv_ite', Value.category, ha]
  exact e0
/-- all zeros -/
def Z0 : Nat → Int32 := fun _ => 0
theorem Z0_nI : Z0 = fun d : Nat => nI ((fun _ => 0) d) := by funext j; rfl
theorem zfil_c {f : Nat → Nat} {n : Nat} (hf : ∀ d, n ≤ d → f d = 0) : zfil (fun d => nI (f d)) 0 n = Z0 := by
  funext j
  show (if j < n then (0 : Int32) else nI (f j)) = 0
  by_cases e : j < n
  · rw [if_pos e]
  · rw [if_neg e, hf j (by omega)]; rfl
theorem zfil_d {f : Nat → Int32} {n : Nat} (hf : ∀ d, n ≤ d → f d = 0) : zfil f 0 n = Z0 := by
  funext j
  show (if j < n then (0 : Int32) else f j) = 0
  by_cases e : j < n
  · rw [if_pos e]
  · rw [if_neg e, hf j (by omega)]
end FILL
section DRAW3
variable {h : zH} {o t q N : Nat} {hd tg : Nat → Nat}
def ztg0 : Nat → Nat := fun d => if d = 0 then 10 else 0
theorem ztg_fill : upd Z0 0 10 = fun d => nI (ztg0 d) := by
  funext j
  unfold upd ztg0
  by_cases e : j = 0
  · simp [e]; rfl
  · simp [e]; rfl
theorem s_drestart {n0 : Int32} {n : Int32} (hD : h.2.2 o = .inr (3, [.ref t, .ref q, .int n0])) (ht : h.2.2 t = .inl (0, 8, .inl (fun d => nI (tg d)))) (hq : h.2.2 q = .inl (0, 8, .inl (fun d => nI (hd d)))) (htg : ∀ d, 8 ≤ d → tg d = 0) (hhd : ∀ d, 8 ≤ d → hd d = 0) (n1 : o ≠ t) (n2 : o ≠ q) (n3 : t ≠ q) :
    zC 49 [.ref o, .int n] h = some (none, zw (zw (zw h t (.inl (0, 8, .inl (fun d => nI (ztg0 d))))) q (.inl (0, 8, .inl Z0))) o (.inr (3, [.ref t, .ref q, .int n]))) := by
  have e1 := s_fill (h := h) (v := 0) (by omega) ht
  rw [zfil_c htg] at e1
  have e2 := s_fill (h := zw h t (.inl (0, 8, .inl Z0))) (a := q) (n := 8) (v := 0) (f := fun d => nI (hd d)) (by omega) (by rw [zw_at, if_neg (Ne.symm n3)]; exact hq)
  rw [zfil_c hhd] at e2
  have e5 : zin 0 8 = true := by decide
  have e6 : (0 : Int32).toNatClampNeg = 0 := by decide
  simp [I_X3_restart, E_X3_restart, hD, zfok, zfv, zfs', ziok, ziv, zpok, zis', zlok, zlv', zls', zbok, zrok, zrv', zrs', zaok, zan, zcok, zcs', zis, zgv, zgh, zcat, zw_1, zw_21, zw_at, zclr_int, zclr_ref, zclr_null, zclr_none, zclr_long, zclr_clr, zbv_0, zbv_1, zbv_ite, zbv_ite', Value.category, e1, e2, e5, e6, n1, n2, n3, Ne.symm n1, Ne.symm n2, Ne.symm n3, ztg_fill, zw_sw _ _ _ _ n3]
theorem zcp8 (f g : Nat → Nat) (hf : ∀ d, 8 ≤ d → f d = 0) (hg : ∀ d, 8 ≤ d → g d = 0) : va_cpy (fun d => nI (f d)) (fun d => nI (g d)) 0 0 8 = fun d => nI (f d) := by
  funext j
  unfold va_cpy
  by_cases e : j < 8
  · rw [if_pos ⟨by omega, by omega⟩]; simp
  · rw [if_neg (by omega)]
    show nI (g j) = nI (f j)
    rw [hf j (by omega), hg j (by omega)]
theorem s_copyFrom {n0 n : Int32} {o2 t2 q2 : Nat} {hd2 tg2 : Nat → Nat} (hD : h.2.2 o = .inr (3, [.ref t, .ref q, .int n0])) (ht : h.2.2 t = .inl (0, 8, .inl (fun d => nI (tg d)))) (hq : h.2.2 q = .inl (0, 8, .inl (fun d => nI (hd d)))) (htg : ∀ d, 8 ≤ d → tg d = 0) (hhd : ∀ d, 8 ≤ d → hd d = 0) (n1 : o ≠ t) (n2 : o ≠ q) (n3 : t ≠ q)
    (hD2 : h.2.2 o2 = .inr (3, [.ref t2, .ref q2, .int n])) (ht2 : h.2.2 t2 = .inl (0, 8, .inl (fun d => nI (tg2 d)))) (hq2 : h.2.2 q2 = .inl (0, 8, .inl (fun d => nI (hd2 d)))) (htg2 : ∀ d, 8 ≤ d → tg2 d = 0) (hhd2 : ∀ d, 8 ≤ d → hd2 d = 0) (m1 : o2 ≠ t) (m2 : o2 ≠ q) (m3 : q2 ≠ t) :
    zC 50 [.ref o, .ref o2] h = some (none, zw (zw (zw h t (.inl (0, 8, .inl (fun d => nI (tg2 d))))) q (.inl (0, 8, .inl (fun d => nI (hd2 d))))) o (.inr (3, [.ref t, .ref q, .int n]))) := by
  have e1 := zcp8 tg2 tg htg2 htg
  have e2 := zcp8 hd2 hd hhd2 hhd
  have e5 : zin 0 8 = true := by decide
  simp [I_X3_copyFrom, E_X3_copyFrom, hD, hD2, ht, ht2, hq, hq2, zfok, zfv, zfs', ziok, ziv, zpok, zis', zlok, zlv', zls', zbok, zrok, zrv', zrs', zaok, zan, zcok, zcs', zis, zgv, zgh, zcat, zw_1, zw_21, zw_at, zclr_int, zclr_ref, zclr_null, zclr_none, zclr_long, zclr_clr, zbv_0, zbv_1, zbv_ite, zbv_ite', Value.category, e1, e2, e5, n1, n2, n3, Ne.symm n1, Ne.symm n2, Ne.symm n3, m1, m2, m3]
theorem s_shiftOf {d : Nat} (hd7 : d ≤ 7) : zC 11 [.int (nI d)] h = some (some (.int (nI (3 * (7 - d)))), h) := by
  have e1 : (3 : Int32) * (7 - nI d) = nI (3 * (7 - d)) := by
    have : (7 : Int32) = nI 7 := rfl
    rw [this, pk_sub hd7]
    exact pk_mul 3 _
  simp [I_X4_shiftOf, E_X4_shiftOf, zfok, zfv, zfs', ziok, ziv, zpok, zis', zlok, zlv', zls', zbok, zrok, zrv', zrs', zaok, zan, zcok, zcs', zis, zgv, zgh, zcat, zw_1, zw_21, zw_at, zclr_int, zclr_ref, zclr_null, zclr_none, zclr_long, zclr_clr, zbv_0, zbv_1, zbv_ite, zbv_ite', Value.category, e1]
end DRAW3
