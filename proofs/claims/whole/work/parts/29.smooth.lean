/-! SmoothTrees: counting. cells os (object), rw (rows), sp (spanWays), mw (meetingWays) -/
section SMC
variable {h : zH} {o w b N os rw sp mw : Nat} {fb : Nat → Nat} {P Q : Nat → Int64}
theorem zabs8 : ∀ a, a < 8 → ∀ b, b < 8 → (if 0 ≤ nI b - nI a then nI b - nI a else nI a - nI b) = nI (max a b - min a b) := by decide +kernel
def zfar (a b far : Nat) : Nat := if a < b then a + far else a - far
def zmc (a b : Nat) : Nat := 8 * min a b + max a b
theorem s_farthest {a b far : Nat} (ha : a ≤ 7) (hb : b ≤ 7) (hf : far ≤ max a b - min a b) : zC 16 [.int (nI a), .int (nI b), .int (nI far)] h = some (some (.int (nI (zfar a b far))), h) := by
  have e1 : (nI b ≤ nI a) ↔ b ≤ a := zle (by omega) (by omega)
  have e2 : nI a + nI far = nI (a + far) := nI_add _ _
  simp [I_X6_farthest, E_X6_farthest, zfok, zfv, zfs', ziok, ziv, zpok, zis', zlok, zlv', zls', zbok, zrok, zrv', zrs', zaok, zan, zcok, zcs', zis, zgv, zgh, zcat, zw_1, zw_21, zw_at, zclr_int, zclr_ref, zclr_null, zclr_none, zclr_long, zclr_clr, zbv_0, zbv_1, zbv_ite, zbv_ite', Value.category, e1, e2, zfar]
  by_cases c : a < b
  · rw [if_neg (by omega), if_pos c]
  · have e3 : nI a - nI far = nI (a - far) := pk_sub (by omega)
    rw [if_pos (by omega), if_neg c, e3]
theorem s_meetingCell {a b : Nat} (ha : a ≤ 7) (hb : b ≤ 7) : zC 62 [.int (nI a), .int (nI b)] h = some (some (.int (nI (zmc a b))), h) := by
  have e1 := zminI (a := a) (b := b) (by omega) (by omega)
  have e2 := zmaxI (a := a) (b := b) (by omega) (by omega)
  have e3 := s_cell6 (h := h) (p := min a b) (d := max a b) (by omega) (by omega)
  simp [I_X6_meetingCell, E_X6_meetingCell, zfok, zfv, zfs', ziok, ziv, zpok, zis', zlok, zlv', zls', zbok, zrok, zrv', zrs', zaok, zan, zcok, zcs', zis, zgv, zgh, zcat, zw_1, zw_21, zw_at, zclr_int, zclr_ref, zclr_null, zclr_none, zclr_long, zclr_clr, zbv_0, zbv_1, zbv_ite, zbv_ite', Value.category, e1, e2, e3, zmc]
def zwm (P : Nat → Int64) (i j : Nat) : Nat → Nat → Int64 → Int64
  | 0, _, a => a
  | c + 1, l, a => zwm P i j c (l + 1) (a + P (8 * i + l) * P (8 * j + (l + 1)))
theorem l_wtm {i j : Nat} (hi : i ≤ 7) (hj : j ≤ 7) (hD : h.2.2 os = .inr (5, [.ref rw, .ref sp, .ref mw])) (hP : h.2.2 sp = .inl (1, 64, .inr (.inl P))) :
    ∀ (c l : Nat) (a : Int64), c + l = j → zD 60 5 [some (.ref os), some (.int (nI i)), some (.int (nI j)), some (.long a), none, some (.int (nI l))] [] h = some (some (.long (zwm P i j c l a)), h)
  | 0, l, a, hs => by
    rw [E_X6_waysToMeet_h5]
    have e1 : nI j ≤ nI l := by rw [zle (by omega) (by omega)]; omega
    simp [E_X6_waysToMeet, zfok, zfv, zfs', ziok, ziv, zpok, zis', zlok, zlv', zls', zbok, zrok, zrv', zrs', zaok, zan, zcok, zcs', zis, zgv, zgh, zcat, zw_1, zw_21, zw_at, zclr_int, zclr_ref, zclr_null, zclr_none, zclr_long, zclr_clr, zbv_0, zbv_1, zbv_ite, zbv_ite', Value.category, e1, zwm]
  | c + 1, l, a, hs => by
    rw [E_X6_waysToMeet_h5]
    have e1 : ¬ nI j ≤ nI l := by rw [zle (by omega) (by omega)]; omega
    have e7 : nI l + 1 = nI (l + 1) := nI_1 l
    have e2 := s_cell6 (h := h) (p := i) (d := l) (by omega) (by omega)
    have e3 : zin (nI (8 * i + l)) 64 = true := zin8 (by omega) (by omega)
    have e4 : (nI (8 * i + l)).toNatClampNeg = 8 * i + l := zcl7 (by omega)
    have e2b := s_cell6 (h := h) (p := j) (d := l + 1) (by omega) (by omega)
    have e3b : zin (nI (8 * j + (l + 1))) 64 = true := zin8 (by omega) (by omega)
    have e4b : (nI (8 * j + (l + 1))).toNatClampNeg = 8 * j + (l + 1) := zcl7 (by omega)
    simp [E_X6_waysToMeet, hD, hP, zfok, zfv, zfs', ziok, ziv, zpok, zis', zlok, zlv', zls', zbok, zrok, zrv', zrs', zaok, zan, zcok, zcs', zis, zgv, zgh, zcat, zw_1, zw_21, zw_at, zclr_int, zclr_ref, zclr_null, zclr_none, zclr_long, zclr_clr, zbv_0, zbv_1, zbv_ite, zbv_ite', Value.category, e1, e2, e3, e4, e2b, e3b, e4b, e7, zwm]
    exact l_wtm hi hj hD hP c (l + 1) _ (by omega)
theorem s_waysToMeet {i j : Nat} (hi : i ≤ j) (hj : j ≤ 7) (hD : h.2.2 os = .inr (5, [.ref rw, .ref sp, .ref mw])) (hP : h.2.2 sp = .inl (1, 64, .inr (.inl P))) : zC 60 [.ref os, .int (nI i), .int (nI j)] h = some (some (.long (zwm P i j (j - i) i 0)), h) := by
  have := l_wtm (i := i) (by omega) hj hD hP (j - i) i 0 (by omega)
  simp only [I_X6_waysToMeet, E_X6_waysToMeet, zclr_int, zclr_none]
  exact this
def zws' (fb : Nat → Nat) (P Q : Nat → Int64) (a b : Nat) : Nat → Nat → Int64 → Int64
  | 0, _, s => s
  | c + 1, f, s => zws' fb P Q a b c (f + 1) (if fb (8 * zfar a b f + a) = 0 then s + Q (zmc a (zfar a b f)) * P (8 * zfar a b f + b) else s)
theorem l_wts {a e : Nat} (ha : a ≤ 7) (he : e ≤ 7) (hf : ∀ k, fb k ≤ 1) (hD : h.2.2 os = .inr (5, [.ref rw, .ref sp, .ref mw])) (hP : h.2.2 sp = .inl (1, 64, .inr (.inl P))) (hQ : h.2.2 mw = .inl (1, 64, .inr (.inl Q))) (hA : h.2.2 o = .inr (2, [.ref w, .ref b])) (hb : h.2.2 b = .inl (0, 64, .inl (fun k => nI (fb k)))) :
    ∀ (c f : Nat) (s : Int64) (l7 : Option Value), c + f = max a e - min a e + 1 → 1 ≤ f → zD 99 6 [some (.ref os), some (.ref o), some (.int (nI a)), some (.int (nI e)), some (.long s), none, some (.int (nI f)), l7] [] h = some (some (.long (zws' fb P Q a e c f s)), h)
  | 0, f, s, l7, hs, h1 => by
    rw [E_X6_waysToSpread_h6]
    have e0 := zabs8 a (by omega) e (by omega)
    have e1 : nI (max a e - min a e) < nI f := by rw [zlt (by omega) (by omega)]; omega
    simp [E_X6_waysToSpread, zfok, zfv, zfs', ziok, ziv, zpok, zis', zlok, zlv', zls', zbok, zrok, zrv', zrs', zaok, zan, zcok, zcs', zis, zgv, zgh, zcat, zw_1, zw_21, zw_at, zclr_int, zclr_ref, zclr_null, zclr_none, zclr_long, zclr_clr, zbv_0, zbv_1, zbv_ite, zbv_ite', Value.category, e0, e1, zws']
  | c + 1, f, s, l7, hs, h1 => by
    rw [E_X6_waysToSpread_h6]
    have e0 := zabs8 a (by omega) e (by omega)
    have e1 : ¬ nI (max a e - min a e) < nI f := by rw [zlt (by omega) (by omega)]; omega
    have e7 : nI f + 1 = nI (f + 1) := nI_1 f
    have e2 := s_farthest (h := h) (a := a) (b := e) (far := f) ha he (by omega)
    have hz : zfar a e f ≤ 7 := by unfold zfar; split <;> omega
    have e5 := s_allow hA hb hf (p := a) (d := zfar a e f) ha hz
    have e6 := s_meetingCell (h := h) (a := a) (b := zfar a e f) ha hz
    have e3 : zin (nI (zmc a (zfar a e f))) 64 = true := by unfold zmc; exact zin8 (by omega) (by omega)
    have e4 : (nI (zmc a (zfar a e f))).toNatClampNeg = zmc a (zfar a e f) := by unfold zmc; exact zcl7 (by omega)
    have e2b := s_cell6 (h := h) (p := zfar a e f) (d := e) (by omega) (by omega)
    have e3b : zin (nI (8 * zfar a e f + e)) 64 = true := zin8 (by omega) (by omega)
    have e4b : (nI (8 * zfar a e f + e)).toNatClampNeg = 8 * zfar a e f + e := zcl7 (by omega)
    simp [E_X6_waysToSpread, hD, hP, hQ, hA, zfok, zfv, zfs', ziok, ziv, zpok, zis', zlok, zlv', zls', zbok, zrok, zrv', zrs', zaok, zan, zcok, zcs', zis, zgv, zgh, zcat, zw_1, zw_21, zw_at, zclr_int, zclr_ref, zclr_null, zclr_none, zclr_long, zclr_clr, zbv_0, zbv_1, zbv_ite, zbv_ite', Value.category, e0, e1, e2, e3, e4, e5, e6, e2b, e3b, e4b, e7, zws', zb01]
    by_cases q : fb (8 * zfar a e f + a) = 0
    · simp [q]
      exact l_wts ha he hf hD hP hQ hA hb c (f + 1) _ _ (by omega) (by omega)
    · simp [q]
      exact l_wts ha he hf hD hP hQ hA hb c (f + 1) _ _ (by omega) (by omega)
theorem s_waysToSpread {a e : Nat} (ha : a ≤ 7) (he : e ≤ 7) (hf : ∀ k, fb k ≤ 1) (hD : h.2.2 os = .inr (5, [.ref rw, .ref sp, .ref mw])) (hP : h.2.2 sp = .inl (1, 64, .inr (.inl P))) (hQ : h.2.2 mw = .inl (1, 64, .inr (.inl Q))) (hA : h.2.2 o = .inr (2, [.ref w, .ref b])) (hb : h.2.2 b = .inl (0, 64, .inl (fun k => nI (fb k)))) : zC 99 [.ref os, .ref o, .int (nI a), .int (nI e)] h = some (some (.long (zws' fb P Q a e (max a e - min a e) 1 0)), h) := by
  have := l_wts ha he hf hD hP hQ hA hb (max a e - min a e) 1 0 none (by omega) (by omega)
  simp only [I_X6_waysToSpread, E_X6_waysToSpread, zclr_int, zclr_none]
  exact this
/-- one pair of places: meeting, the span, and the span back -/
def zst1 (fb : Nat → Nat) (i len : Nat) (S : (Nat → Int64) × (Nat → Int64)) : (Nat → Int64) × (Nat → Int64) :=
  let Q1 := vp_updL S.2 (zmc i (i + len)) (zwm S.1 i (i + len) len i 0)
  let P1 := vp_updL S.1 (8 * i + (i + len)) (zws' fb S.1 Q1 i (i + len) len 1 0)
  (if 0 < i then vp_updL P1 (8 * (i + len) + i) (zws' fb P1 Q1 (i + len) i len 1 0) else P1, Q1)
def zst2 (fb : Nat → Nat) (len : Nat) : Nat → Nat → (Nat → Int64) × (Nat → Int64) → (Nat → Int64) × (Nat → Int64)
  | 0, _, S => S
  | c + 1, i, S => zst2 fb len c (i + 1) (zst1 fb i len S)
def zst3 (fb : Nat → Nat) (N : Nat) : Nat → Nat → (Nat → Int64) × (Nat → Int64) → (Nat → Int64) × (Nat → Int64)
  | 0, _, S => S
  | c + 1, len, S => zst3 fb N c (len + 1) (zst2 fb len (N + 1 - len) 0 S)
def zst0 : Nat → Nat → (Nat → Int64) → (Nat → Int64)
  | 0, _, P => P
  | c + 1, i, P => zst0 c (i + 1) (vp_updL P (8 * i + i) 1)
def zhp (h : zH) (sp mw : Nat) (S : (Nat → Int64) × (Nat → Int64)) : zH := zw (zw h sp (.inl (1, 64, .inr (.inl S.1)))) mw (.inl (1, 64, .inr (.inl S.2)))
theorem zhp_s {S : (Nat → Int64) × (Nat → Int64)} (n : sp ≠ mw) : (zhp h sp mw S).2.2 sp = .inl (1, 64, .inr (.inl S.1)) := by
  unfold zhp
  rw [zw_at, if_neg n, zw_at, if_pos rfl]
theorem zhp_m {S : (Nat → Int64) × (Nat → Int64)} : (zhp h sp mw S).2.2 mw = .inl (1, 64, .inr (.inl S.2)) := by
  unfold zhp
  rw [zw_at, if_pos rfl]
theorem zhp_o {S : (Nat → Int64) × (Nat → Int64)} {c : Nat} (h1 : c ≠ sp) (h2 : c ≠ mw) : (zhp h sp mw S).2.2 c = h.2.2 c := by
  unfold zhp
  rw [zw_at, if_neg h2, zw_at, if_neg h1]
theorem zhp_zhp {S T : (Nat → Int64) × (Nat → Int64)} (n : sp ≠ mw) : zhp (zhp h sp mw S) sp mw T = zhp h sp mw T := by
  unfold zhp
  rw [zw_sw _ _ _ _ n, zw_w]
theorem zhp_id {S : (Nat → Int64) × (Nat → Int64)} (hP : h.2.2 sp = .inl (1, 64, .inr (.inl S.1))) (hQ : h.2.2 mw = .inl (1, 64, .inr (.inl S.2))) : zhp h sp mw S = h := by
  unfold zhp
  rw [zw_id h hP, zw_id h hQ]
theorem zhp_wm {S : (Nat → Int64) × (Nat → Int64)} {x : Nat → Int64} : zw (zhp h sp mw S) mw (.inl (1, 64, .inr (.inl x))) = zhp h sp mw (S.1, x) := by
  unfold zhp
  rw [zw_w]
theorem zhp_ws {S : (Nat → Int64) × (Nat → Int64)} {x : Nat → Int64} (n : sp ≠ mw) : zw (zhp h sp mw S) sp (.inl (1, 64, .inr (.inl x))) = zhp h sp mw (x, S.2) := by
  unfold zhp
  rw [zw_sw _ _ _ _ n]
section SM3
variable (hN : N ≤ 7) (hf : ∀ k, fb k ≤ 1) (n0 : sp ≠ mw) (n1 : os ≠ sp) (n2 : os ≠ mw) (n3 : o ≠ sp) (n4 : o ≠ mw) (n5 : b ≠ sp) (n6 : b ≠ mw)
theorem l_shm3 (hN : N ≤ 7) (hf : ∀ k, fb k ≤ 1) (n0 : sp ≠ mw) (n1 : os ≠ sp) (n2 : os ≠ mw) (n3 : o ≠ sp) (n4 : o ≠ mw) (n5 : b ≠ sp) (n6 : b ≠ mw) {len : Nat} (hlen : 1 ≤ len) (hlen2 : len ≤ N) :
    ∀ (c i : Nat) (h : zH) (S : (Nat → Int64) × (Nat → Int64)) (l5 : Option Value), c + i = N + 1 - len → h.2.2 os = .inr (5, [.ref rw, .ref sp, .ref mw]) → h.2.2 o = .inr (2, [.ref w, .ref b]) → h.2.2 b = .inl (0, 64, .inl (fun k => nI (fb k))) → h.2.2 sp = .inl (1, 64, .inr (.inl S.1)) → h.2.2 mw = .inl (1, 64, .inr (.inl S.2)) →
      ∃ l4' l5', zD 133 34 [some (.ref os), some (.ref o), some (.int (nI N)), some (.int (nI len)), some (.int (nI i)), l5] [] h = zD 133 26 [some (.ref os), some (.ref o), some (.int (nI N)), some (.int (nI (len + 1))), l4', l5'] [] (zhp h sp mw (zst2 fb len c i S))
  | 0, i, h, S, l5, hs, hD, hA, hb, hP, hQ => by
    refine ⟨some (.int (nI i)), l5, ?_⟩
    rw [E_X6_howMany_h34]
    have e0 : nI i + nI len = nI (i + len) := nI_add _ _
    have e1 : nI N < nI (i + len) := by rw [zlt (by omega) (by omega)]; omega
    have e2 : nI len + 1 = nI (len + 1) := nI_1 len
    simp [E_X6_howMany, zfok, zfv, zfs', ziok, ziv, zpok, zis', zlok, zlv', zls', zbok, zrok, zrv', zrs', zaok, zan, zcok, zcs', zis, zgv, zgh, zcat, zw_1, zw_21, zw_at, zclr_int, zclr_ref, zclr_null, zclr_none, zclr_long, zclr_clr, zbv_0, zbv_1, zbv_ite, zbv_ite', Value.category, e0, e1, e2, zst2, zhp_id hP hQ]
  | c + 1, i, h, S, l5, hs, hD, hA, hb, hP, hQ => by
    obtain ⟨l4', l5', k1⟩ := l_shm3 hN hf n0 n1 n2 n3 n4 n5 n6 hlen hlen2 c (i + 1) (zhp h sp mw (zst1 fb i len S)) (zst1 fb i len S) (some (.int (nI (i + len)))) (by omega) (by rw [zhp_o n1 n2]; exact hD) (by rw [zhp_o n3 n4]; exact hA) (by rw [zhp_o n5 n6]; exact hb) (zhp_s n0) zhp_m
    refine ⟨l4', l5', ?_⟩
    rw [E_X6_howMany_h34]
    have e0 : nI i + nI len = nI (i + len) := nI_add _ _
    have e1 : ¬ nI N < nI (i + len) := by rw [zlt (by omega) (by omega)]; omega
    have e2 : nI i + 1 = nI (i + 1) := nI_1 i
    have e3 : (nI i ≤ 0) ↔ i = 0 := by rw [show (0 : Int32) = nI 0 from rfl, zle (by omega) (by omega)]; omega
    have mm1 : max i (i + len) - min i (i + len) = len := by omega
    have mm2 : max (i + len) i - min (i + len) i = len := by omega
    have c1 := fun H : zH => s_meetingCell (h := H) (a := i) (b := i + len) (by omega) (by omega)
    have c1a : zin (nI (zmc i (i + len))) 64 = true := by unfold zmc; exact zin8 (by omega) (by omega)
    have c1b : (nI (zmc i (i + len))).toNatClampNeg = zmc i (i + len) := by unfold zmc; exact zcl7 (by omega)
    have w1 := s_waysToMeet (i := i) (j := i + len) (by omega) (by omega) hD hP
    rw [show i + len - i = len by omega] at w1
    generalize hQ1 : vp_updL S.2 (zmc i (i + len)) (zwm S.1 i (i + len) len i 0) = Q1
    have c2 := fun H : zH => s_cell6 (h := H) (p := i) (d := i + len) (by omega) (by omega)
    have c2a : zin (nI (8 * i + (i + len))) 64 = true := zin8 (by omega) (by omega)
    have c2b : (nI (8 * i + (i + len))).toNatClampNeg = 8 * i + (i + len) := zcl7 (by omega)
    have w2 := s_waysToSpread (h := zw h mw (.inl (1, 64, .inr (.inl Q1)))) (a := i) (e := i + len) (P := S.1) (Q := Q1) (by omega) (by omega) hf (by rw [zw_at, if_neg n2]; exact hD) (by rw [zw_at, if_neg n0]; exact hP) (by rw [zw_at, if_pos rfl]) (by rw [zw_at, if_neg n4]; exact hA) (by rw [zw_at, if_neg n6]; exact hb)
    rw [mm1] at w2
    generalize hP1 : vp_updL S.1 (8 * i + (i + len)) (zws' fb S.1 Q1 i (i + len) len 1 0) = P1
    have c3 := fun H : zH => s_cell6 (h := H) (p := i + len) (d := i) (by omega) (by omega)
    have c3a : zin (nI (8 * (i + len) + i)) 64 = true := zin8 (by omega) (by omega)
    have c3b : (nI (8 * (i + len) + i)).toNatClampNeg = 8 * (i + len) + i := zcl7 (by omega)
    have w3 := s_waysToSpread (h := zw (zw h mw (.inl (1, 64, .inr (.inl Q1)))) sp (.inl (1, 64, .inr (.inl P1)))) (a := i + len) (e := i) (P := P1) (Q := Q1) (by omega) (by omega) hf (by rw [zw_at, if_neg n1, zw_at, if_neg n2]; exact hD) (by rw [zw_at, if_pos rfl]) (by rw [zw_at, if_neg (Ne.symm n0), zw_at, if_pos rfl]) (by rw [zw_at, if_neg n3, zw_at, if_neg n4]; exact hA) (by rw [zw_at, if_neg n5, zw_at, if_neg n6]; exact hb)
    rw [mm2] at w3
    have fin1 : i = 0 → zhp h sp mw (zst1 fb i len S) = zw (zw h mw (.inl (1, 64, .inr (.inl Q1)))) sp (.inl (1, 64, .inr (.inl P1))) := by
      intro q
      unfold zhp zst1
      dsimp only
      rw [hQ1, hP1, if_neg (by omega), zw_com _ _ _ n0]
    have fin2 : ¬ i = 0 → zhp h sp mw (zst1 fb i len S) = zw (zw h mw (.inl (1, 64, .inr (.inl Q1)))) sp (.inl (1, 64, .inr (.inl (vp_updL P1 (8 * (i + len) + i) (zws' fb P1 Q1 (i + len) i len 1 0))))) := by
      intro q
      unfold zhp zst1
      dsimp only
      rw [hQ1, hP1, if_pos (by omega), zw_com _ _ _ n0]
    by_cases q : i = 0
    · rw [zhp_zhp n0, fin1 q] at k1
      simp [E_X6_howMany, hD, hP, hQ, hA, zfok, zfv, zfs', ziok, ziv, zpok, zis', zlok, zlv', zls', zbok, zrok, zrv', zrs', zaok, zan, zcok, zcs', zis, zgv, zgh, zcat, zw_1, zw_21, zw_at, zclr_int, zclr_ref, zclr_null, zclr_none, zclr_long, zclr_clr, zbv_0, zbv_1, zbv_ite, zbv_ite', Value.category, c1, c1a, c1b, w1, hQ1, c2, c2a, c2b, w2, hP1, e0, e1, e2, e3.mpr q, n0, n1, n2, n3, n4, n5, n6, Ne.symm n0]
      exact k1
    · rw [zhp_zhp n0, fin2 q] at k1
      simp [E_X6_howMany, hD, hP, hQ, hA, zfok, zfv, zfs', ziok, ziv, zpok, zis', zlok, zlv', zls', zbok, zrok, zrv', zrs', zaok, zan, zcok, zcs', zis, zgv, zgh, zcat, zw_1, zw_21, zw_at, zclr_int, zclr_ref, zclr_null, zclr_none, zclr_long, zclr_clr, zbv_0, zbv_1, zbv_ite, zbv_ite', Value.category, c1, c1a, c1b, w1, hQ1, c2, c2a, c2b, w2, hP1, c3, c3a, c3b, w3, e0, e1, e2, e3, n0, n1, n2, n3, n4, n5, n6, Ne.symm n0, q, zw_w]
      exact k1
theorem l_shm2 (hN : N ≤ 7) (hf : ∀ k, fb k ≤ 1) (n0 : sp ≠ mw) (n1 : os ≠ sp) (n2 : os ≠ mw) (n3 : o ≠ sp) (n4 : o ≠ mw) (n5 : b ≠ sp) (n6 : b ≠ mw) :
    ∀ (c len : Nat) (h : zH) (S : (Nat → Int64) × (Nat → Int64)) (l4 l5 : Option Value), c + len = N + 1 → 1 ≤ len → h.2.2 os = .inr (5, [.ref rw, .ref sp, .ref mw]) → h.2.2 o = .inr (2, [.ref w, .ref b]) → h.2.2 b = .inl (0, 64, .inl (fun k => nI (fb k))) → h.2.2 sp = .inl (1, 64, .inr (.inl S.1)) → h.2.2 mw = .inl (1, 64, .inr (.inl S.2)) →
      zD 133 26 [some (.ref os), some (.ref o), some (.int (nI N)), some (.int (nI len)), l4, l5] [] h = some (some (.long ((zst3 fb N c len S).1 N)), zhp h sp mw (zst3 fb N c len S))
  | 0, len, h, S, l4, l5, hs, h1, hD, hA, hb, hP, hQ => by
    rw [E_X6_howMany_h26]
    have e1 : nI N < nI len := by rw [zlt (by omega) (by omega)]; omega
    have e2 := fun H : zH => s_cell6 (h := H) (p := 0) (d := N) (by omega) (by omega)
    rw [show 8 * 0 + N = N by omega, nI_0] at e2
    have e3 : zin (nI N) 64 = true := zin8 (by omega) (by omega)
    have e4 : (nI N).toNatClampNeg = N := zcl7 (by omega)
    simp [E_X6_howMany, hD, hP, zfok, zfv, zfs', ziok, ziv, zpok, zis', zlok, zlv', zls', zbok, zrok, zrv', zrs', zaok, zan, zcok, zcs', zis, zgv, zgh, zcat, zw_1, zw_21, zw_at, zclr_int, zclr_ref, zclr_null, zclr_none, zclr_long, zclr_clr, zbv_0, zbv_1, zbv_ite, zbv_ite', Value.category, e1, e2, e3, e4, zst3, zhp_id hP hQ]
  | c + 1, len, h, S, l4, l5, hs, h1, hD, hA, hb, hP, hQ => by
    rw [E_X6_howMany_h26]
    have e1 : ¬ nI N < nI len := by rw [zlt (by omega) (by omega)]; omega
    obtain ⟨l4', l5', k1⟩ := l_shm3 hN hf n0 n1 n2 n3 n4 n5 n6 h1 (by omega : len ≤ N) (N + 1 - len) 0 h S l5 (by omega) hD hA hb hP hQ
    have k2 := l_shm2 hN hf n0 n1 n2 n3 n4 n5 n6 c (len + 1) (zhp h sp mw (zst2 fb len (N + 1 - len) 0 S)) (zst2 fb len (N + 1 - len) 0 S) l4' l5' (by omega) (by omega) (by rw [zhp_o n1 n2]; exact hD) (by rw [zhp_o n3 n4]; exact hA) (by rw [zhp_o n5 n6]; exact hb) (zhp_s n0) zhp_m
    rw [zhp_zhp n0] at k2
    rw [nI_0] at k1
    simp [E_X6_howMany, zfok, zfv, zfs', ziok, ziv, zpok, zis', zlok, zlv', zls', zbok, zrok, zrv', zrs', zaok, zan, zcok, zcs', zis, zgv, zgh, zcat, zw_1, zw_21, zw_at, zclr_int, zclr_ref, zclr_null, zclr_none, zclr_long, zclr_clr, zbv_0, zbv_1, zbv_ite, zbv_ite', Value.category, e1]
    rw [k1, k2]
    rfl
theorem l_shm1 (hN : N ≤ 7) (n0 : sp ≠ mw) (n1 : os ≠ sp) (n2 : os ≠ mw) :
    ∀ (c i : Nat) (h : zH) (S : (Nat → Int64) × (Nat → Int64)) (l4 l5 : Option Value), c + i = N + 1 → h.2.2 os = .inr (5, [.ref rw, .ref sp, .ref mw]) → h.2.2 sp = .inl (1, 64, .inr (.inl S.1)) → h.2.2 mw = .inl (1, 64, .inr (.inl S.2)) →
      ∃ l4' l5', zD 133 2 [some (.ref os), some (.ref o), some (.int (nI N)), some (.int (nI i)), l4, l5] [] h = zD 133 26 [some (.ref os), some (.ref o), some (.int (nI N)), some (.int (nI 1)), l4', l5'] [] (zhp h sp mw (zst0 c i S.1, S.2))
  | 0, i, h, S, l4, l5, hs, hD, hP, hQ => by
    refine ⟨l4, l5, ?_⟩
    rw [E_X6_howMany_h2]
    have e1 : nI N < nI i := by rw [zlt (by omega) (by omega)]; omega
    have e2 := zhp_id (S := (S.1, S.2)) hP hQ
    simp [E_X6_howMany, zfok, zfv, zfs', ziok, ziv, zpok, zis', zlok, zlv', zls', zbok, zrok, zrv', zrs', zaok, zan, zcok, zcs', zis, zgv, zgh, zcat, zw_1, zw_21, zw_at, zclr_int, zclr_ref, zclr_null, zclr_none, zclr_long, zclr_clr, zbv_0, zbv_1, zbv_ite, zbv_ite', Value.category, e1, zst0, e2, nI_lit1]
  | c + 1, i, h, S, l4, l5, hs, hD, hP, hQ => by
    have k0 := l_shm1 hN n0 n1 n2 c (i + 1) (zhp h sp mw (vp_updL S.1 (8 * i + i) 1, S.2)) (vp_updL S.1 (8 * i + i) 1, S.2) l4 l5 (by omega) (by rw [zhp_o n1 n2]; exact hD) (zhp_s n0) zhp_m
    obtain ⟨l4', l5', k1⟩ := k0
    refine ⟨l4', l5', ?_⟩
    rw [E_X6_howMany_h2]
    have e1 : ¬ nI N < nI i := by rw [zlt (by omega) (by omega)]; omega
    have e2 := fun H : zH => s_cell6 (h := H) (p := i) (d := i) (by omega) (by omega)
    have e3 : zin (nI (8 * i + i)) 64 = true := zin8 (by omega) (by omega)
    have e4 : (nI (8 * i + i)).toNatClampNeg = 8 * i + i := zcl7 (by omega)
    have e5 : nI i + 1 = nI (i + 1) := nI_1 i
    have e6 : zhp h sp mw (vp_updL S.1 (8 * i + i) 1, S.2) = zw h sp (.inl (1, 64, .inr (.inl (vp_updL S.1 (8 * i + i) 1)))) := by
      unfold zhp
      rw [zw_com _ _ _ n0, zw_id h hQ]
    rw [zhp_zhp n0, e6] at k1
    simp [E_X6_howMany, hD, hP, zfok, zfv, zfs', ziok, ziv, zpok, zis', zlok, zlv', zls', zbok, zrok, zrv', zrs', zaok, zan, zcok, zcs', zis, zgv, zgh, zcat, zw_1, zw_21, zw_at, zclr_int, zclr_ref, zclr_null, zclr_none, zclr_long, zclr_clr, zbv_0, zbv_1, zbv_ite, zbv_ite', Value.category, e1, e2, e3, e4, e5]
    exact k1
theorem s_howMany6 (hN : N ≤ 7) (hf : ∀ k, fb k ≤ 1) (n0 : sp ≠ mw) (n1 : os ≠ sp) (n2 : os ≠ mw) (n3 : o ≠ sp) (n4 : o ≠ mw) (n5 : b ≠ sp) (n6 : b ≠ mw) {S : (Nat → Int64) × (Nat → Int64)} (hD : h.2.2 os = .inr (5, [.ref rw, .ref sp, .ref mw])) (hA : h.2.2 o = .inr (2, [.ref w, .ref b])) (hb : h.2.2 b = .inl (0, 64, .inl (fun k => nI (fb k)))) (hP : h.2.2 sp = .inl (1, 64, .inr (.inl S.1))) (hQ : h.2.2 mw = .inl (1, 64, .inr (.inl S.2))) :
    zC 133 [.ref os, .ref o, .int (nI N)] h = some (some (.long ((zst3 fb N N 1 (zst0 (N + 1) 0 S.1, S.2)).1 N)), zhp h sp mw (zst3 fb N N 1 (zst0 (N + 1) 0 S.1, S.2))) := by
  obtain ⟨l4', l5', k1⟩ := l_shm1 (o := o) hN n0 n1 n2 (N + 1) 0 h S none none (by omega) hD hP hQ
  have k2 := l_shm2 hN hf n0 n1 n2 n3 n4 n5 n6 N 1 (zhp h sp mw (zst0 (N + 1) 0 S.1, S.2)) (zst0 (N + 1) 0 S.1, S.2) l4' l5' (by omega) (by omega) (by rw [zhp_o n1 n2]; exact hD) (by rw [zhp_o n3 n4]; exact hA) (by rw [zhp_o n5 n6]; exact hb) (zhp_s n0) zhp_m
  rw [zhp_zhp n0] at k2
  rw [k2, nI_0] at k1
  simp only [I_X6_howMany, E_X6_howMany, zclr_int, zclr_none]
  exact k1
end SM3
end SMC
