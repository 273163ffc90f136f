/-! Arcs: cells o (object), w (weights), b (forbidden) -/
section ARCS
variable {h : zH} {o w b N : Nat} {wt : Nat → Int32} {fb : Nat → Nat}
theorem s_slot {p d : Nat} (hp : p ≤ 7) (hd7 : d ≤ 7) : zC 3 [.int (nI p), .int (nI d)] h = some (some (.int (nI (8 * d + p))), h) := by
  have e1 : nI d * 8 + nI p = nI (8 * d + p) := by
    have : (8 : Int32) = nI 8 := rfl
    rw [this, pk_mul, nI_add, Nat.mul_comm]
  simp [I_X2_slot, E_X2_slot, zfok, zfv, zfs', ziok, ziv, zpok, zis', zlok, zlv', zls', zbok, zrok, zrv', zrs', zaok, zan, zcok, zcs', zis, zgv, zgh, zcat, zw_1, zw_21, zw_at, zclr_int, zclr_ref, zclr_null, zclr_none, zclr_long, zclr_clr, zbv_0, zbv_1, zbv_ite, zbv_ite', Value.category, e1]
theorem s_allow (hD : h.2.2 o = .inr (2, [.ref w, .ref b])) (hb : h.2.2 b = .inl (0, 64, .inl (fun k => nI (fb k)))) (hf : ∀ k, fb k ≤ 1) {p d : Nat} (hp : p ≤ 7) (hd7 : d ≤ 7) : zC 48 [.ref o, .int (nI p), .int (nI d)] h = some (some (.int (if fb (8 * d + p) = 0 then 1 else 0)), h) := by
  have e1 := s_slot (h := h) hp hd7
  have e2 : zin (nI (8 * d + p)) 64 = true := zin8 (by omega) (by omega)
  have e3 : (nI (8 * d + p)).toNatClampNeg = 8 * d + p := zcl7 (by omega)
  have e4 : (nI (fb (8 * d + p)) = 0) ↔ fb (8 * d + p) = 0 := by have := hf (8 * d + p); exact zeq (a := fb (8 * d + p)) (b := 0) (by omega) (by omega)
  simp [I_X2_allow, E_X2_allow, hD, hb, zfok, zfv, zfs', ziok, ziv, zpok, zis', zlok, zlv', zls', zbok, zrok, zrv', zrs', zaok, zan, zcok, zcs', zis, zgv, zgh, zcat, zw_1, zw_21, zw_at, zclr_int, zclr_ref, zclr_null, zclr_none, zclr_long, zclr_clr, zbv_0, zbv_1, zbv_ite, zbv_ite', Value.category, e1, e2, e3, e4]
  by_cases e5 : fb (8 * d + p) = 0 <;> simp [e5]
theorem l_allowAll {o2 t q : Nat} {hd : Nat → Nat} (hD : h.2.2 o = .inr (2, [.ref w, .ref b])) (hb : h.2.2 b = .inl (0, 64, .inl (fun k => nI (fb k)))) (hf : ∀ k, fb k ≤ 1) (hD2 : h.2.2 o2 = .inr (3, [.ref t, .ref q, .int (nI N)])) (hq : h.2.2 q = .inl (0, 8, .inl (fun d => nI (hd d)))) (hN : N ≤ 7) (hh : ∀ d, hd d ≤ 7) :
    ∀ (c d : Nat), c + d = N + 1 → 1 ≤ d → zD 88 2 [some (.ref o), some (.ref o2), some (.int (nI d))] [] h = some (some (.int (if zall (fun x => decide (fb (8 * x + hd x) = 0)) c d = true then 1 else 0)), h)
  | 0, d, hs, h1 => by
    rw [E_X2_allowAll_h2]
    have e1 : nI N < nI d := by rw [zlt (by omega) (by omega)]; omega
    simp [E_X2_allowAll, hD2, zfok, zfv, zfs', ziok, ziv, zpok, zis', zlok, zlv', zls', zbok, zrok, zrv', zrs', zaok, zan, zcok, zcs', zis, zgv, zgh, zcat, zw_1, zw_21, zw_at, zclr_int, zclr_ref, zclr_null, zclr_none, zclr_long, zclr_clr, zbv_0, zbv_1, zbv_ite, zbv_ite', Value.category, zall, e1]
  | c + 1, d, hs, h1 => by
    rw [E_X2_allowAll_h2]
    have e1 : ¬ nI N < nI d := by rw [zlt (by omega) (by omega)]; omega
    have e2 : nI d + 1 = nI (d + 1) := nI_1 d
    have e3 : zin (nI d) 8 = true := zin8 (by omega) (by omega)
    have e4 : (nI d).toNatClampNeg = d := zcl7 (by omega)
    have e5 := s_allow hD hb hf (p := hd d) (d := d) (hh d) (by omega)
    simp [E_X2_allowAll, hD, hD2, hq, zfok, zfv, zfs', ziok, ziv, zpok, zis', zlok, zlv', zls', zbok, zrok, zrv', zrs', zaok, zan, zcok, zcs', zis, zgv, zgh, zcat, zw_1, zw_21, zw_at, zclr_int, zclr_ref, zclr_null, zclr_none, zclr_long, zclr_clr, zbv_0, zbv_1, zbv_ite, zbv_ite', Value.category, zall, e1, e2, e3, e4, e5, zb01]
    by_cases e6 : fb (8 * d + hd d) = 0
    · simp [e6]
      have := l_allowAll hD hb hf hD2 hq hN hh c (d + 1) (by omega) (by omega)
      simpa using this
    · simp [e6]
theorem s_allowAll {o2 t q : Nat} {hd : Nat → Nat} (hD : h.2.2 o = .inr (2, [.ref w, .ref b])) (hb : h.2.2 b = .inl (0, 64, .inl (fun k => nI (fb k)))) (hf : ∀ k, fb k ≤ 1) (hD2 : h.2.2 o2 = .inr (3, [.ref t, .ref q, .int (nI N)])) (hq : h.2.2 q = .inl (0, 8, .inl (fun d => nI (hd d)))) (hN : N ≤ 7) (hh : ∀ d, hd d ≤ 7) : zC 88 [.ref o, .ref o2] h = some (some (.int (if zall (fun x => decide (fb (8 * x + hd x) = 0)) N 1 = true then 1 else 0)), h) := by
  have := l_allowAll hD hb hf hD2 hq hN hh N 1 rfl (Nat.le_refl 1)
  simp only [I_X2_allowAll, E_X2_allowAll]
  simp only [zclr_ref]
  exact this
theorem s_key (hD : h.2.2 o = .inr (2, [.ref w, .ref b])) (hw : h.2.2 w = .inl (0, 64, .inl wt)) {p d : Nat} (hp : p ≤ 7) (hd7 : d ≤ 7) : zC 89 [.ref o, .int (nI p), .int (nI d)] h = some (some (.long (lZ (zka (wt (8 * d + p)).toInt p d))), h) := by
  have e1 := s_slot (h := h) hp hd7
  have e2 : zin (nI (8 * d + p)) 64 = true := zin8 (by omega) (by omega)
  have e3 : (nI (8 * d + p)).toNatClampNeg = 8 * d + p := zcl7 (by omega)
  have e4 := s_ofArc (h := h) (w := wt (8 * d + p)) hp hd7
  simp [I_X2_key, E_X2_key, hD, hw, zfok, zfv, zfs', ziok, ziv, zpok, zis', zlok, zlv', zls', zbok, zrok, zrv', zrs', zaok, zan, zcok, zcs', zis, zgv, zgh, zcat, zw_1, zw_21, zw_at, zclr_int, zclr_ref, zclr_null, zclr_none, zclr_long, zclr_clr, zbv_0, zbv_1, zbv_ite, zbv_ite', Value.category, e1, e2, e3, e4]
/-- c values from d on, added up -/
def zsm (f : Nat → Int) : Nat → Nat → Int
  | 0, _ => 0
  | c + 1, d => f d + zsm f c (d + 1)
theorem l_keyOf {o2 t q : Nat} {hd : Nat → Nat} (hD : h.2.2 o = .inr (2, [.ref w, .ref b])) (hw : h.2.2 w = .inl (0, 64, .inl wt)) (hD2 : h.2.2 o2 = .inr (3, [.ref t, .ref q, .int (nI N)])) (hq : h.2.2 q = .inl (0, 8, .inl (fun d => nI (hd d)))) (hN : N ≤ 7) (hh : ∀ d, hd d ≤ 7) :
    ∀ (c d : Nat) (z : Int) (l3 : Option Value), c + d = N + 1 → 1 ≤ d → zD 129 5 [some (.ref o), some (.ref o2), some (.long (lZ z)), l3, some (.int (nI d))] [] h = some (some (.long (lZ (z + zsm (fun x => zka (wt (8 * x + hd x)).toInt (hd x) x) c d))), h)
  | 0, d, z, l3, hs, h1 => by
    rw [E_X2_keyOf_h5]
    have e1 : nI N < nI d := by rw [zlt (by omega) (by omega)]; omega
    simp [E_X2_keyOf, hD2, zfok, zfv, zfs', ziok, ziv, zpok, zis', zlok, zlv', zls', zbok, zrok, zrv', zrs', zaok, zan, zcok, zcs', zis, zgv, zgh, zcat, zw_1, zw_21, zw_at, zclr_int, zclr_ref, zclr_null, zclr_none, zclr_long, zclr_clr, zbv_0, zbv_1, zbv_ite, zbv_ite', Value.category, zsm, e1]
  | c + 1, d, z, l3, hs, h1 => by
    rw [E_X2_keyOf_h5]
    have e1 : ¬ nI N < nI d := by rw [zlt (by omega) (by omega)]; omega
    have e2 : nI d + 1 = nI (d + 1) := nI_1 d
    have e3 : zin (nI d) 8 = true := zin8 (by omega) (by omega)
    have e4 : (nI d).toNatClampNeg = d := zcl7 (by omega)
    have e5 := s_key hD hw (p := hd d) (d := d) (hh d) (by omega)
    simp [E_X2_keyOf, hD, hD2, hq, zfok, zfv, zfs', ziok, ziv, zpok, zis', zlok, zlv', zls', zbok, zrok, zrv', zrs', zaok, zan, zcok, zcs', zis, zgv, zgh, zcat, zw_1, zw_21, zw_at, zclr_int, zclr_ref, zclr_null, zclr_none, zclr_long, zclr_clr, zbv_0, zbv_1, zbv_ite, zbv_ite', Value.category, zsm, e1, e2, e3, e4, e5, lZ_add]
    have := l_keyOf hD hw hD2 hq hN hh c (d + 1) (z + zka (wt (8 * d + hd d)).toInt (hd d) d) none (by omega) (by omega)
    rw [Int.add_assoc] at this
    exact this
theorem s_keyOf {o2 t q : Nat} {hd : Nat → Nat} (hD : h.2.2 o = .inr (2, [.ref w, .ref b])) (hw : h.2.2 w = .inl (0, 64, .inl wt)) (hD2 : h.2.2 o2 = .inr (3, [.ref t, .ref q, .int (nI N)])) (hq : h.2.2 q = .inl (0, 8, .inl (fun d => nI (hd d)))) (hN : N ≤ 7) (hh : ∀ d, hd d ≤ 7) : zC 129 [.ref o, .ref o2] h = some (some (.long (lZ (zsm (fun x => zka (wt (8 * x + hd x)).toInt (hd x) x) N 1))), h) := by
  have := l_keyOf hD hw hD2 hq hN hh N 1 0 none rfl (Nat.le_refl 1)
  rw [Int.zero_add] at this
  simp only [I_X2_keyOf, E_X2_keyOf, zclr_ref, zclr_none]
  exact this
theorem l_howManyF (hb : h.2.2 b = .inl (0, 64, .inl (fun k => nI (fb k)))) (hf : ∀ k, fb k ≤ 1) :
    ∀ (c i m : Nat) (l5 : Option Value), c + i = 64 → m + c ≤ 1000 → zD 4 13 [some (.ref o), some (.int (nI m)), some (.ref b), some (.int (nI 64)), some (.int (nI i)), l5] [] h = some (some (.int (nI (m + zcnt (fun k => decide (fb k = 1)) c i))), h)
  | 0, i, m, l5, hs, hm => by
    rw [E_X2_howManyForbidden_h13]
    have e0 : i = 64 := by omega
    subst e0
    simp [E_X2_howManyForbidden, zfok, zfv, zfs', ziok, ziv, zpok, zis', zlok, zlv', zls', zbok, zrok, zrv', zrs', zaok, zan, zcok, zcs', zis, zgv, zgh, zcat, zw_1, zw_21, zw_at, zclr_int, zclr_ref, zclr_null, zclr_none, zclr_long, zclr_clr, zbv_0, zbv_1, zbv_ite, zbv_ite', Value.category, zcnt]
  | c + 1, i, m, l5, hs, hm => by
    rw [E_X2_howManyForbidden_h13]
    have e1 : ¬ nI 64 ≤ nI i := by rw [zle (by omega) (by omega)]; omega
    have e2 : nI i + 1 = nI (i + 1) := nI_1 i
    have e3 : zin (nI i) 64 = true := zin8 (by omega) (by omega)
    have e4 : (nI i).toNatClampNeg = i := zcl7 (by omega)
    simp [E_X2_howManyForbidden, hb, zfok, zfv, zfs', ziok, ziv, zpok, zis', zlok, zlv', zls', zbok, zrok, zrv', zrs', zaok, zan, zcok, zcs', zis, zgv, zgh, zcat, zw_1, zw_21, zw_at, zclr_int, zclr_ref, zclr_null, zclr_none, zclr_long, zclr_clr, zbv_0, zbv_1, zbv_ite, zbv_ite', Value.category, zcnt, e1, e2, e3, e4, nI_add]
    have h1 := hf i
    by_cases e5 : fb i = 1
    · simp [e5]
      rw [l_howManyF hb hf c (i + 1) (m + 1) _ (by omega) (by omega), Nat.add_assoc]
    · have e6 : fb i = 0 := by omega
      simp [e6]
      rw [l_howManyF hb hf c (i + 1) m _ (by omega) (by omega)]
theorem s_howManyForbidden (hD : h.2.2 o = .inr (2, [.ref w, .ref b])) (hb : h.2.2 b = .inl (0, 64, .inl (fun k => nI (fb k)))) (hf : ∀ k, fb k ≤ 1) : zC 4 [.ref o] h = some (some (.int (nI (zcnt (fun k => decide (fb k = 1)) 64 0))), h) := by
  have := l_howManyF (o := o) hb hf 64 0 0 none rfl (by omega)
  rw [Nat.zero_add] at this
  simp [I_X2_howManyForbidden, E_X2_howManyForbidden, hD, hb, zfok, zfv, zfs', ziok, ziv, zpok, zis', zlok, zlv', zls', zbok, zrok, zrv', zrs', zaok, zan, zcok, zcs', zis, zgv, zgh, zcat, zw_1, zw_21, zw_at, zclr_int, zclr_ref, zclr_null, zclr_none, zclr_long, zclr_clr, zbv_0, zbv_1, zbv_ite, zbv_ite', Value.category]
  exact this
theorem s_arestart (hD : h.2.2 o = .inr (2, [.ref w, .ref b])) (hw : h.2.2 w = .inl (0, 64, .inl wt)) (hb : h.2.2 b = .inl (0, 64, .inl (fun k => nI (fb k)))) (hwz : ∀ k, 64 ≤ k → wt k = 0) (hfz : ∀ k, 64 ≤ k → fb k = 0) (n1 : o ≠ w) (n2 : b ≠ w) :
    zC 47 [.ref o] h = some (none, zw (zw h w (.inl (0, 64, .inl Z0))) b (.inl (0, 64, .inl Z0))) := by
  have e1 := s_fill (h := h) (v := 0) (by omega) hw
  rw [zfil_d hwz] at e1
  have e2 := s_fill (h := zw h w (.inl (0, 64, .inl Z0))) (a := b) (n := 64) (v := 0) (f := fun d => nI (fb d)) (by omega) (by rw [zw_at, if_neg n2]; exact hb)
  rw [zfil_c hfz] at e2
  simp [I_X2_restart, E_X2_restart, hD, zfok, zfv, zfs', ziok, ziv, zpok, zis', zlok, zlv', zls', zbok, zrok, zrv', zrs', zaok, zan, zcok, zcs', zis, zgv, zgh, zcat, zw_1, zw_21, zw_at, zclr_int, zclr_ref, zclr_null, zclr_none, zclr_long, zclr_clr, zbv_0, zbv_1, zbv_ite, zbv_ite', Value.category, e1, e2, n1, n2]
end ARCS
