/-! SmoothTrees.first -/
set_option linter.unusedSectionVars false
def smt (i j : Nat) : Nat → Nat → rS → rS
  | 0, _, R => R
  | c + 1, l, R => smt i j c (l + 1) (rset R (64 + zmc i j) (R (64 + zmc i j)).1 (tpair (R (64 + zmc i j)).1 (R (8 * j + (l + 1))).2.1 (R (8 * i + l)).2.2 (R (8 * j + (l + 1))).2.2 0 (R (8 * i + l)).2.1 0 (R (64 + zmc i j)).2))
def ssp (fb : Nat → Nat) (wt : Nat → Int32) (a e : Nat) : Nat → Nat → rS → rS
  | 0, _, R => R
  | c + 1, f, R => ssp fb wt a e c (f + 1) (if fb (8 * zfar a e f + a) = 0 then rset R (8 * a + e) (R (8 * a + e)).1 (tpair (R (8 * a + e)).1 (R (8 * zfar a e f + e)).2.1 (R (64 + zmc a (zfar a e f))).2.2 (R (8 * zfar a e f + e)).2.2 (lZ (zka (wt (8 * zfar a e f + a)).toInt a (zfar a e f))) (R (64 + zmc a (zfar a e f))).2.1 0 (R (8 * a + e)).2) else R)
theorem smt_ok {i j : Nat} : ∀ (c l : Nat) (R : rS), rok R → rok (smt i j c l R)
  | 0, _, R, hR => hR
  | c + 1, l, R, hR => by
    unfold smt
    exact smt_ok c _ _ (rok_set hR (tpair_le _ _ _ (hR _).1) (hR _).2.1 (hR _).2.2)
theorem ssp_ok {fb : Nat → Nat} {wt : Nat → Int32} {a e : Nat} : ∀ (c l : Nat) (R : rS), rok R → rok (ssp fb wt a e c l R)
  | 0, _, R, hR => hR
  | c + 1, l, R, hR => by
    unfold ssp
    split
    · exact ssp_ok c _ _ (rok_set hR (tpair_le _ _ _ (hR _).1) (hR _).2.1 (hR _).2.2)
    · exact ssp_ok c _ _ hR
def rres (R : rS) (i lim : Nat) : rS := rset R i lim (0, (R i).2.2)
def sf1 (fb : Nat → Nat) (wt : Nat → Int32) (lim i len : Nat) (R : rS) : rS :=
  if 0 < i then ssp fb wt (i + len) i len 1 (rres (ssp fb wt i (i + len) len 1 (rres (smt i (i + len) len i (rres R (64 + zmc i (i + len)) lim)) (8 * i + (i + len)) lim)) (8 * (i + len) + i) lim) else ssp fb wt i (i + len) len 1 (rres (smt i (i + len) len i (rres R (64 + zmc i (i + len)) lim)) (8 * i + (i + len)) lim)
def sf2 (fb : Nat → Nat) (wt : Nat → Int32) (lim len : Nat) : Nat → Nat → rS → rS
  | 0, _, R => R
  | c + 1, i, R => sf2 fb wt lim len c (i + 1) (sf1 fb wt lim i len R)
def sf3 (fb : Nat → Nat) (wt : Nat → Int32) (N lim : Nat) : Nat → Nat → rS → rS
  | 0, _, R => R
  | c + 1, len, R => sf3 fb wt N lim c (len + 1) (sf2 fb wt lim len (N + 1 - len) 0 R)
def sf0 (lim : Nat) : Nat → Nat → rS → rS
  | 0, _, R => R
  | c + 1, i, R => sf0 lim c (i + 1) (rset R (8 * i + i) lim (toff lim (0, (R (8 * i + i)).2.2) 0).2)
theorem rres_ok {R : rS} {i lim : Nat} (hR : rok R) (h1 : 1 ≤ lim) (h2 : lim ≤ 31) : rok (rres R i lim) := rok_set hR (Nat.zero_le _) h1 h2
theorem sf1_ok {fb : Nat → Nat} {wt : Nat → Int32} {lim i len : Nat} {R : rS} (h1 : 1 ≤ lim) (h2 : lim ≤ 31) (hR : rok R) : rok (sf1 fb wt lim i len R) := by
  have r1 := ssp_ok (fb := fb) (wt := wt) (a := i) (e := i + len) len 1 _ (rres_ok (i := 8 * i + (i + len)) (smt_ok (i := i) (j := i + len) len i _ (rres_ok (i := 64 + zmc i (i + len)) hR h1 h2)) h1 h2)
  unfold sf1
  split
  · exact ssp_ok _ _ _ (rres_ok r1 h1 h2)
  · exact r1
theorem sf2_ok {fb : Nat → Nat} {wt : Nat → Int32} {lim len : Nat} (h1 : 1 ≤ lim) (h2 : lim ≤ 31) : ∀ (c i : Nat) (R : rS), rok R → rok (sf2 fb wt lim len c i R)
  | 0, _, R, hR => hR
  | c + 1, i, R, hR => by
    unfold sf2
    exact sf2_ok h1 h2 c _ _ (sf1_ok h1 h2 hR)
theorem sf3_ok {fb : Nat → Nat} {wt : Nat → Int32} {N lim : Nat} (h1 : 1 ≤ lim) (h2 : lim ≤ 31) : ∀ (c i : Nat) (R : rS), rok R → rok (sf3 fb wt N lim c i R)
  | 0, _, R, hR => hR
  | c + 1, i, R, hR => by
    unfold sf3
    exact sf3_ok h1 h2 c _ _ (sf2_ok h1 h2 _ _ _ hR)
theorem sf0_ok {lim : Nat} (h1 : 1 ≤ lim) (h2 : lim ≤ 31) : ∀ (c i : Nat) (R : rS), rok R → rok (sf0 lim c i R)
  | 0, _, R, hR => hR
  | c + 1, i, R, hR => by
    unfold sf0
    exact sf0_ok h1 h2 c _ _ (rok_set hR (toff_le (Nat.zero_le _)) h1 h2)
section SFIRST
variable {h : zH} {N os sp mw o w b : Nat} {fb : Nat → Nat} {wt : Nat → Int32} {rf : Nat → Option Nat}
theorem zs_span (hA : h.2.2 os = .inr (5, [.ref 8, .ref sp, .ref mw])) (hr : h.2.2 8 = .inl (3, 128, .inr (.inr (.inr (.inr rf))))) (hrf : ∀ i, i < 128 → rf i = some (9 + 2 * i)) (oA : os < 9 ∨ 265 ≤ os) {R : rS} {p d : Nat} (hp : p ≤ 7) (hd : d ≤ 7) : zC 61 [.ref os, .int (nI p), .int (nI d)] (zrh h R) = some (some (.ref (9 + 2 * (8 * p + d))), zrh h R) :=
  s_span (h := zrh h R) (sp := sp) (mw := mw) (by rw [zrh_o oA]; exact hA) (by rw [zrh_o (by omega)]; exact hr) hrf hp hd
theorem zs_meeting (hA : h.2.2 os = .inr (5, [.ref 8, .ref sp, .ref mw])) (hr : h.2.2 8 = .inl (3, 128, .inr (.inr (.inr (.inr rf))))) (hrf : ∀ i, i < 128 → rf i = some (9 + 2 * i)) (oA : os < 9 ∨ 265 ≤ os) {R : rS} {p d : Nat} (hp : p ≤ 7) (hd : d ≤ 7) : zC 100 [.ref os, .int (nI p), .int (nI d)] (zrh h R) = some (some (.ref (9 + 2 * (64 + zmc p d))), zrh h R) :=
  s_meeting (h := zrh h R) (sp := sp) (mw := mw) (by rw [zrh_o oA]; exact hA) (by rw [zrh_o (by omega)]; exact hr) hrf hp hd
theorem zs_pairs {R : rS} (hR : rok R) {i j k : Nat} {y : Int64} (hi : i < 128) (hj : j < 128) (hk : k < 128) (n1 : j ≠ i) (n2 : k ≠ i) : zC 103 [.ref (9 + 2 * i), .ref (9 + 2 * j), .ref (9 + 2 * k), .long y] (zrh h R) = some (none, zrh h (rset R i (R i).1 (tpair (R i).1 (R k).2.1 (R j).2.2 (R k).2.2 y (R j).2.1 0 (R i).2))) := by
  have := s_offerPairs (h := zrh h R) (a := 9 + 2 * i) (k := 10 + 2 * i) (c1 := 9 + 2 * j) (kc := 10 + 2 * j) (b := 9 + 2 * k) (kb := 10 + 2 * k) (lim := (R i).1) (n1 := (R j).2.1) (n2 := (R k).2.1) (S := (R i).2) (g := (R k).2.2) (g1 := (R j).2.2) (y := y) (by omega) (hR i).2.1 (hR i).2.2 (by have := hR j; omega) (by have := hR k; omega) (by omega) (by omega) (by omega) (by omega) (by omega) (by omega) (by omega) (by omega) (hR i).1 (zrh_a hi) (zrh_k hi) (zrh_a hk) (zrh_k hk) (zrh_a hj) (zrh_k hj)
  rw [zrh_set hi] at this
  exact this
theorem l_meet (hA : h.2.2 os = .inr (5, [.ref 8, .ref sp, .ref mw])) (hr : h.2.2 8 = .inl (3, 128, .inr (.inr (.inr (.inr rf))))) (hrf : ∀ i, i < 128 → rf i = some (9 + 2 * i)) (oA : os < 9 ∨ 265 ≤ os) {lim : Nat} {i j : Nat} (hi : i < j) (hj : j ≤ 7) : ∀ (c l : Nat) (R : rS), c + l = j → i ≤ l → rok R → zD 131 17 [some (.ref os), some (.int (nI i)), some (.int (nI j)), some (.int (nI lim)), some (.ref (9 + 2 * (64 + zmc i j))), some (.int (nI l))] [] (zrh h R) = some (none, zrh h (smt i j c l R))
  | 0, l, R, hs, hl, hR => by
    rw [E_X6_meet_h17]
    have e1 : nI j ≤ nI l := by rw [zle (by omega) (by omega)]; omega
    simp [E_X6_meet, zfok, zfv, zfs', ziok, ziv, zpok, zis', zlok, zlv', zls', zbok, zrok, zrv', zrs', zaok, zan, zcok, zcs', zis, zgv, zgh, zcat, zw_1, zw_21, zw_at, zclr_int, zclr_ref, zclr_null, zclr_none, zclr_long, zclr_clr, zbv_0, zbv_1, zbv_ite, zbv_ite', Value.category, e1, smt]
  | c + 1, l, R, hs, hl, hR => by
    rw [E_X6_meet_h17]
    have e1 : ¬ nI j ≤ nI l := by rw [zle (by omega) (by omega)]; omega
    have e2 : nI l + 1 = nI (l + 1) := nI_1 l
    have f1 : (zrh h R).2.2 os = .inr (5, [.ref 8, .ref sp, .ref mw]) := by rw [zrh_o oA]; exact hA
    have hm : 64 + zmc i j < 128 ∧ 64 ≤ 64 + zmc i j := by unfold zmc; omega
    have f7 := zrh_a (h := h) (R := R) hm.1
    have g1 := zs_span hA hr hrf oA (R := R) (p := i) (d := l) (by omega) (by omega)
    have g2 := zs_span hA hr hrf oA (R := R) (p := j) (d := l + 1) (by omega) (by omega)
    have g3 := zs_pairs (h := h) hR (i := 64 + zmc i j) (j := 8 * i + l) (k := 8 * j + (l + 1)) (y := 0) hm.1 (by omega) (by omega) (by omega) (by omega)
    have r1 : rok (rset R (64 + zmc i j) (R (64 + zmc i j)).1 (tpair (R (64 + zmc i j)).1 (R (8 * j + (l + 1))).2.1 (R (8 * i + l)).2.2 (R (8 * j + (l + 1))).2.2 0 (R (8 * i + l)).2.1 0 (R (64 + zmc i j)).2)) := rok_set hR (tpair_le _ _ _ (hR _).1) (hR _).2.1 (hR _).2.2
    have k1 := l_meet hA hr hrf oA (lim := lim) hi hj c (l + 1) _ (by omega) (by omega) r1
    simp [E_X6_meet, zfok, zfv, zfs', ziok, ziv, zpok, zis', zlok, zlv', zls', zbok, zrok, zrv', zrs', zaok, zan, zcok, zcs', zis, zgv, zgh, zcat, zw_1, zw_21, zw_at, zclr_int, zclr_ref, zclr_null, zclr_none, zclr_long, zclr_clr, zbv_0, zbv_1, zbv_ite, zbv_ite', Value.category, e1, e2, f1, f7, g1, g2, g3]
    rw [k1]
    rfl
theorem s_meet (hA : h.2.2 os = .inr (5, [.ref 8, .ref sp, .ref mw])) (hr : h.2.2 8 = .inl (3, 128, .inr (.inr (.inr (.inr rf))))) (hrf : ∀ i, i < 128 → rf i = some (9 + 2 * i)) (oA : os < 9 ∨ 265 ≤ os) {lim : Nat} (hl1 : 1 ≤ lim) (hl2 : lim ≤ 31) {i j : Nat} (hi : i < j) (hj : j ≤ 7) {R : rS} (hR : rok R) : zC 131 [.ref os, .int (nI i), .int (nI j), .int (nI lim)] (zrh h R) = some (none, zrh h (smt i j (j - i) i (rres R (64 + zmc i j) lim))) := by
  have hm : 64 + zmc i j < 128 ∧ 64 ≤ 64 + zmc i j := by unfold zmc; omega
  have f1 : (zrh h R).2.2 os = .inr (5, [.ref 8, .ref sp, .ref mw]) := by rw [zrh_o oA]; exact hA
  have g1 := zs_meeting hA hr hrf oA (R := R) (p := i) (d := j) (by omega) (by omega)
  have e2 := s_trestartN (h := zrh h R) (n := lim) (zrh_a hm.1) hl1 hl2
  rw [zrh_res hm.1] at e2
  have f7 := zrh_a (h := h) (R := R) hm.1
  have k1 := l_meet hA hr hrf oA (lim := lim) hi hj (j - i) i (rres R (64 + zmc i j) lim) (by omega) (by omega) (rres_ok hR hl1 hl2)
  unfold rres at k1 ⊢
  simp [I_X6_meet, E_X6_meet, zfok, zfv, zfs', ziok, ziv, zpok, zis', zlok, zlv', zls', zbok, zrok, zrv', zrs', zaok, zan, zcok, zcs', zis, zgv, zgh, zcat, zw_1, zw_21, zw_at, zclr_int, zclr_ref, zclr_null, zclr_none, zclr_long, zclr_clr, zbv_0, zbv_1, zbv_ite, zbv_ite', Value.category, f1, f7, g1, e2]
  exact k1
theorem l_spread (hf : ∀ k, fb k ≤ 1) (hA : h.2.2 os = .inr (5, [.ref 8, .ref sp, .ref mw])) (hr : h.2.2 8 = .inl (3, 128, .inr (.inr (.inr (.inr rf))))) (hrf : ∀ i, i < 128 → rf i = some (9 + 2 * i)) (hD : h.2.2 o = .inr (2, [.ref w, .ref b])) (hb : h.2.2 b = .inl (0, 64, .inl (fun k => nI (fb k)))) (hw : h.2.2 w = .inl (0, 64, .inl wt)) (oA : os < 9 ∨ 265 ≤ os) (oD : o < 9 ∨ 265 ≤ o) (oB : b < 9 ∨ 265 ≤ b) (oW : w < 9 ∨ 265 ≤ w) {lim : Nat} {a e : Nat} (ha : a ≤ 7) (he : e ≤ 7) (hae : a ≠ e) : ∀ (c f : Nat) (R : rS) (l7 : Option Value), c + f = max a e - min a e + 1 → 1 ≤ f → rok R → zD 132 18 [some (.ref os), some (.ref o), some (.int (nI a)), some (.int (nI e)), some (.int (nI lim)), some (.ref (9 + 2 * (8 * a + e))), some (.int (nI f)), l7] [] (zrh h R) = some (none, zrh h (ssp fb wt a e c f R))
  | 0, f, R, l7, hs, h1, hR => by
    rw [E_X6_spread_h18]
    have e0 := zabs8 a (by omega) e (by omega)
    have e1 : nI (max a e - min a e) < nI f := by rw [zlt (by omega) (by omega)]; omega
    simp [E_X6_spread, zfok, zfv, zfs', ziok, ziv, zpok, zis', zlok, zlv', zls', zbok, zrok, zrv', zrs', zaok, zan, zcok, zcs', zis, zgv, zgh, zcat, zw_1, zw_21, zw_at, zclr_int, zclr_ref, zclr_null, zclr_none, zclr_long, zclr_clr, zbv_0, zbv_1, zbv_ite, zbv_ite', Value.category, e0, e1, ssp]
  | c + 1, f, R, l7, hs, h1, hR => by
    rw [E_X6_spread_h18]
    have e0 := zabs8 a (by omega) e (by omega)
    have e1 : ¬ nI (max a e - min a e) < nI f := by rw [zlt (by omega) (by omega)]; omega
    have e7 : nI f + 1 = nI (f + 1) := nI_1 f
    have e2 := s_farthest (h := zrh h R) (a := a) (b := e) (far := f) ha he (by omega)
    have hz : zfar a e f ≤ 7 ∧ zfar a e f ≠ a := by unfold zfar; split <;> omega
    have hm : 64 + zmc a (zfar a e f) < 128 ∧ 64 ≤ 64 + zmc a (zfar a e f) := by unfold zmc; omega
    have e5 := s_allow (h := zrh h R) (o := o) (w := w) (b := b) (by rw [zrh_o oD]; exact hD) (by rw [zrh_o oB]; exact hb) hf (p := a) (d := zfar a e f) ha hz.1
    have e4 := s_key (h := zrh h R) (o := o) (w := w) (b := b) (wt := wt) (by rw [zrh_o oD]; exact hD) (by rw [zrh_o oW]; exact hw) (p := a) (d := zfar a e f) ha hz.1
    have f1 : (zrh h R).2.2 os = .inr (5, [.ref 8, .ref sp, .ref mw]) := by rw [zrh_o oA]; exact hA
    have f6 : (zrh h R).2.2 o = .inr (2, [.ref w, .ref b]) := by rw [zrh_o oD]; exact hD
    have f7 := zrh_a (h := h) (R := R) (i := 8 * a + e) (by omega)
    have g1 := zs_meeting hA hr hrf oA (R := R) (p := a) (d := zfar a e f) ha hz.1
    have g2 := zs_span hA hr hrf oA (R := R) (p := zfar a e f) (d := e) hz.1 he
    have g3 := zs_pairs (h := h) hR (i := 8 * a + e) (j := 64 + zmc a (zfar a e f)) (k := 8 * zfar a e f + e) (y := lZ (zka (wt (8 * zfar a e f + a)).toInt a (zfar a e f))) (by omega) hm.1 (by omega) (by omega) (by omega)
    simp [E_X6_spread, zfok, zfv, zfs', ziok, ziv, zpok, zis', zlok, zlv', zls', zbok, zrok, zrv', zrs', zaok, zan, zcok, zcs', zis, zgv, zgh, zcat, zw_1, zw_21, zw_at, zclr_int, zclr_ref, zclr_null, zclr_none, zclr_long, zclr_clr, zbv_0, zbv_1, zbv_ite, zbv_ite', Value.category, e0, e1, e2, e4, e5, e7, f1, f6, f7, g1, g2, g3, ssp, zb01]
    by_cases q : fb (8 * zfar a e f + a) = 0
    · simp [q]
      exact l_spread hf hA hr hrf hD hb hw oA oD oB oW ha he hae c (f + 1) _ _ (by omega) (by omega) (rok_set hR (tpair_le _ _ _ (hR _).1) (hR _).2.1 (hR _).2.2)
    · simp [q]
      exact l_spread hf hA hr hrf hD hb hw oA oD oB oW ha he hae c (f + 1) _ _ (by omega) (by omega) hR
theorem s_spread (hf : ∀ k, fb k ≤ 1) (hA : h.2.2 os = .inr (5, [.ref 8, .ref sp, .ref mw])) (hr : h.2.2 8 = .inl (3, 128, .inr (.inr (.inr (.inr rf))))) (hrf : ∀ i, i < 128 → rf i = some (9 + 2 * i)) (hD : h.2.2 o = .inr (2, [.ref w, .ref b])) (hb : h.2.2 b = .inl (0, 64, .inl (fun k => nI (fb k)))) (hw : h.2.2 w = .inl (0, 64, .inl wt)) (oA : os < 9 ∨ 265 ≤ os) (oD : o < 9 ∨ 265 ≤ o) (oB : b < 9 ∨ 265 ≤ b) (oW : w < 9 ∨ 265 ≤ w) {lim : Nat} (hl1 : 1 ≤ lim) (hl2 : lim ≤ 31) {a e : Nat} (ha : a ≤ 7) (he : e ≤ 7) (hae : a ≠ e) {R : rS} (hR : rok R) : zC 132 [.ref os, .ref o, .int (nI a), .int (nI e), .int (nI lim)] (zrh h R) = some (none, zrh h (ssp fb wt a e (max a e - min a e) 1 (rres R (8 * a + e) lim))) := by
  have f1 : (zrh h R).2.2 os = .inr (5, [.ref 8, .ref sp, .ref mw]) := by rw [zrh_o oA]; exact hA
  have g1 := zs_span hA hr hrf oA (R := R) (p := a) (d := e) ha he
  have hm : 8 * a + e < 128 := by omega
  have e2 := s_trestartN (h := zrh h R) (n := lim) (zrh_a hm) hl1 hl2
  rw [zrh_res hm] at e2
  have f7 := zrh_a (h := h) (R := R) hm
  have k1 := l_spread (lim := lim) hf hA hr hrf hD hb hw oA oD oB oW ha he hae (max a e - min a e) 1 (rres R (8 * a + e) lim) none (by omega) (by omega) (rres_ok hR hl1 hl2)
  unfold rres at k1 ⊢
  rw [show nI 1 = 1 from rfl] at k1
  simp [I_X6_spread, E_X6_spread, zfok, zfv, zfs', ziok, ziv, zpok, zis', zlok, zlv', zls', zbok, zrok, zrv', zrs', zaok, zan, zcok, zcs', zis, zgv, zgh, zcat, zw_1, zw_21, zw_at, zclr_int, zclr_ref, zclr_null, zclr_none, zclr_long, zclr_clr, zbv_0, zbv_1, zbv_ite, zbv_ite', Value.category, f1, f7, g1, e2]
  exact k1
theorem l_sf3 (hN : N ≤ 7) (hf : ∀ k, fb k ≤ 1) (hA : h.2.2 os = .inr (5, [.ref 8, .ref sp, .ref mw])) (hr : h.2.2 8 = .inl (3, 128, .inr (.inr (.inr (.inr rf))))) (hrf : ∀ i, i < 128 → rf i = some (9 + 2 * i)) (hD : h.2.2 o = .inr (2, [.ref w, .ref b])) (hb : h.2.2 b = .inl (0, 64, .inl (fun k => nI (fb k)))) (hw : h.2.2 w = .inl (0, 64, .inl wt)) (oA : os < 9 ∨ 265 ≤ os) (oD : o < 9 ∨ 265 ≤ o) (oB : b < 9 ∨ 265 ≤ b) (oW : w < 9 ∨ 265 ≤ w) {lim : Nat} (hl1 : 1 ≤ lim) (hl2 : lim ≤ 31) {len : Nat} (hlen : 1 ≤ len) (hlen2 : len ≤ N) : ∀ (c i : Nat) (R : rS) (l6 : Option Value), c + i = N + 1 - len → rok R → ∃ l5' l6', zD 152 39 [some (.ref os), some (.ref o), some (.int (nI N)), some (.int (nI lim)), some (.int (nI len)), some (.int (nI i)), l6] [] (zrh h R) = zD 152 30 [some (.ref os), some (.ref o), some (.int (nI N)), some (.int (nI lim)), some (.int (nI (len + 1))), l5', l6'] [] (zrh h (sf2 fb wt lim len c i R))
  | 0, i, R, l6, hs, hR => by
    refine ⟨some (.int (nI i)), l6, ?_⟩
    rw [E_X6_first_h39]
    have e0 : nI i + nI len = nI (i + len) := nI_add _ _
    have e1 : nI N < nI (i + len) := by rw [zlt (by omega) (by omega)]; omega
    have e2 : nI len + 1 = nI (len + 1) := nI_1 len
    simp [E_X6_first, zfok, zfv, zfs', ziok, ziv, zpok, zis', zlok, zlv', zls', zbok, zrok, zrv', zrs', zaok, zan, zcok, zcs', zis, zgv, zgh, zcat, zw_1, zw_21, zw_at, zclr_int, zclr_ref, zclr_null, zclr_none, zclr_long, zclr_clr, zbv_0, zbv_1, zbv_ite, zbv_ite', Value.category, e0, e1, e2, sf2]
  | c + 1, i, R, l6, hs, hR => by
    obtain ⟨l5', l6', k1⟩ := l_sf3 hN hf hA hr hrf hD hb hw oA oD oB oW hl1 hl2 hlen hlen2 c (i + 1) (sf1 fb wt lim i len R) (some (.int (nI (i + len)))) (by omega) (sf1_ok hl1 hl2 hR)
    refine ⟨l5', l6', ?_⟩
    rw [E_X6_first_h39]
    have e0 : nI i + nI len = nI (i + len) := nI_add _ _
    have e1 : ¬ nI N < nI (i + len) := by rw [zlt (by omega) (by omega)]; omega
    have e2 : nI i + 1 = nI (i + 1) := nI_1 i
    have e3 : (nI i ≤ 0) ↔ i = 0 := by rw [show (0 : Int32) = nI 0 from rfl, zle (by omega) (by omega)]; omega
    have f1 : ∀ R : rS, (zrh h R).2.2 os = .inr (5, [.ref 8, .ref sp, .ref mw]) := fun R => by rw [zrh_o oA]; exact hA
    have g1 := s_meet hA hr hrf oA hl1 hl2 (i := i) (j := i + len) (by omega) (by omega) hR
    rw [show i + len - i = len by omega] at g1
    have r1 : rok (smt i (i + len) len i (rres R (64 + zmc i (i + len)) lim)) := smt_ok _ _ _ (rres_ok hR hl1 hl2)
    have g2 := s_spread hf hA hr hrf hD hb hw oA oD oB oW hl1 hl2 (a := i) (e := i + len) (by omega) (by omega) (by omega) r1
    rw [show max i (i + len) - min i (i + len) = len by omega] at g2
    have r2 : rok (ssp fb wt i (i + len) len 1 (rres (smt i (i + len) len i (rres R (64 + zmc i (i + len)) lim)) (8 * i + (i + len)) lim)) := ssp_ok _ _ _ (rres_ok r1 hl1 hl2)
    have g3 := s_spread hf hA hr hrf hD hb hw oA oD oB oW hl1 hl2 (a := i + len) (e := i) (by omega) (by omega) (by omega) r2
    rw [show max (i + len) i - min (i + len) i = len by omega] at g3
    by_cases q : i = 0
    · rw [sf2, sf1, if_neg (by omega)]
      rw [sf1, if_neg (by omega)] at k1
      simp [E_X6_first, zfok, zfv, zfs', ziok, ziv, zpok, zis', zlok, zlv', zls', zbok, zrok, zrv', zrs', zaok, zan, zcok, zcs', zis, zgv, zgh, zcat, zw_1, zw_21, zw_at, zclr_int, zclr_ref, zclr_null, zclr_none, zclr_long, zclr_clr, zbv_0, zbv_1, zbv_ite, zbv_ite', Value.category, e0, e1, e2, e3.mpr q, f1, g1, g2]
      exact k1
    · rw [sf2, sf1, if_pos (by omega)]
      rw [sf1, if_pos (by omega)] at k1
      simp [E_X6_first, zfok, zfv, zfs', ziok, ziv, zpok, zis', zlok, zlv', zls', zbok, zrok, zrv', zrs', zaok, zan, zcok, zcs', zis, zgv, zgh, zcat, zw_1, zw_21, zw_at, zclr_int, zclr_ref, zclr_null, zclr_none, zclr_long, zclr_clr, zbv_0, zbv_1, zbv_ite, zbv_ite', Value.category, e0, e1, e2, e3, q, f1, g1, g2, g3]
      exact k1
theorem l_sf2 (hN : N ≤ 7) (hf : ∀ k, fb k ≤ 1) (hA : h.2.2 os = .inr (5, [.ref 8, .ref sp, .ref mw])) (hr : h.2.2 8 = .inl (3, 128, .inr (.inr (.inr (.inr rf))))) (hrf : ∀ i, i < 128 → rf i = some (9 + 2 * i)) (hD : h.2.2 o = .inr (2, [.ref w, .ref b])) (hb : h.2.2 b = .inl (0, 64, .inl (fun k => nI (fb k)))) (hw : h.2.2 w = .inl (0, 64, .inl wt)) (oA : os < 9 ∨ 265 ≤ os) (oD : o < 9 ∨ 265 ≤ o) (oB : b < 9 ∨ 265 ≤ b) (oW : w < 9 ∨ 265 ≤ w) {lim : Nat} (hl1 : 1 ≤ lim) (hl2 : lim ≤ 31) : ∀ (c len : Nat) (R : rS) (l5 l6 : Option Value), c + len = N + 1 → 1 ≤ len → rok R → zD 152 30 [some (.ref os), some (.ref o), some (.int (nI N)), some (.int (nI lim)), some (.int (nI len)), l5, l6] [] (zrh h R) = some (some (.ref (9 + 2 * N)), zrh h (sf3 fb wt N lim c len R))
  | 0, len, R, l5, l6, hs, h1, hR => by
    rw [E_X6_first_h30]
    have e1 : nI N < nI len := by rw [zlt (by omega) (by omega)]; omega
    have f1 : ∀ R : rS, (zrh h R).2.2 os = .inr (5, [.ref 8, .ref sp, .ref mw]) := fun R => by rw [zrh_o oA]; exact hA
    have g2 := zs_span hA hr hrf oA (R := R) (p := 0) (d := N) (by omega) hN
    rw [show 8 * 0 + N = N by omega, nI_0] at g2
    simp [E_X6_first, zfok, zfv, zfs', ziok, ziv, zpok, zis', zlok, zlv', zls', zbok, zrok, zrv', zrs', zaok, zan, zcok, zcs', zis, zgv, zgh, zcat, zw_1, zw_21, zw_at, zclr_int, zclr_ref, zclr_null, zclr_none, zclr_long, zclr_clr, zbv_0, zbv_1, zbv_ite, zbv_ite', Value.category, e1, f1, g2, sf3]
  | c + 1, len, R, l5, l6, hs, h1, hR => by
    rw [E_X6_first_h30]
    have e1 : ¬ nI N < nI len := by rw [zlt (by omega) (by omega)]; omega
    obtain ⟨l5', l6', k1⟩ := l_sf3 hN hf hA hr hrf hD hb hw oA oD oB oW hl1 hl2 h1 (by omega : len ≤ N) (N + 1 - len) 0 R l6 (by omega) hR
    have k2 := l_sf2 hN hf hA hr hrf hD hb hw oA oD oB oW hl1 hl2 c (len + 1) _ l5' l6' (by omega) (by omega) (sf2_ok (fb := fb) (wt := wt) (len := len) hl1 hl2 (N + 1 - len) 0 R hR)
    rw [nI_0] at k1
    simp [E_X6_first, zfok, zfv, zfs', ziok, ziv, zpok, zis', zlok, zlv', zls', zbok, zrok, zrv', zrs', zaok, zan, zcok, zcs', zis, zgv, zgh, zcat, zw_1, zw_21, zw_at, zclr_int, zclr_ref, zclr_null, zclr_none, zclr_long, zclr_clr, zbv_0, zbv_1, zbv_ite, zbv_ite', Value.category, e1]
    rw [k1, k2]
    rfl
theorem l_sf1 (hN : N ≤ 7) (hf : ∀ k, fb k ≤ 1) (hA : h.2.2 os = .inr (5, [.ref 8, .ref sp, .ref mw])) (hr : h.2.2 8 = .inl (3, 128, .inr (.inr (.inr (.inr rf))))) (hrf : ∀ i, i < 128 → rf i = some (9 + 2 * i)) (hD : h.2.2 o = .inr (2, [.ref w, .ref b])) (hb : h.2.2 b = .inl (0, 64, .inl (fun k => nI (fb k)))) (hw : h.2.2 w = .inl (0, 64, .inl wt)) (oA : os < 9 ∨ 265 ≤ os) (oD : o < 9 ∨ 265 ≤ o) (oB : b < 9 ∨ 265 ≤ b) (oW : w < 9 ∨ 265 ≤ w) {lim : Nat} (hl1 : 1 ≤ lim) (hl2 : lim ≤ 31) : ∀ (c i : Nat) (R : rS) (l5 l6 : Option Value), c + i = N + 1 → rok R → ∃ l5' l6', zD 152 3 [some (.ref os), some (.ref o), some (.int (nI N)), some (.int (nI lim)), some (.int (nI i)), l5, l6] [] (zrh h R) = zD 152 30 [some (.ref os), some (.ref o), some (.int (nI N)), some (.int (nI lim)), some (.int (nI 1)), l5', l6'] [] (zrh h (sf0 lim c i R))
  | 0, i, R, l5, l6, hs, hR => by
    refine ⟨l5, l6, ?_⟩
    rw [E_X6_first_h3]
    have e1 : nI N < nI i := by rw [zlt (by omega) (by omega)]; omega
    simp [E_X6_first, zfok, zfv, zfs', ziok, ziv, zpok, zis', zlok, zlv', zls', zbok, zrok, zrv', zrs', zaok, zan, zcok, zcs', zis, zgv, zgh, zcat, zw_1, zw_21, zw_at, zclr_int, zclr_ref, zclr_null, zclr_none, zclr_long, zclr_clr, zbv_0, zbv_1, zbv_ite, zbv_ite', Value.category, e1, sf0, nI_lit1]
  | c + 1, i, R, l5, l6, hs, hR => by
    obtain ⟨l5', l6', k1⟩ := l_sf1 hN hf hA hr hrf hD hb hw oA oD oB oW hl1 hl2 c (i + 1) _ l5 l6 (by omega) (rok_set (R := R) (i := 8 * i + i) (lim := lim) (S := (toff lim (0, (R (8 * i + i)).2.2) 0).2) hR (toff_le (Nat.zero_le _)) hl1 hl2)
    refine ⟨l5', l6', ?_⟩
    rw [E_X6_first_h3]
    have e1 : ¬ nI N < nI i := by rw [zlt (by omega) (by omega)]; omega
    have e2 : nI i + 1 = nI (i + 1) := nI_1 i
    have hm : 8 * i + i < 128 := by omega
    have f1 : ∀ R : rS, (zrh h R).2.2 os = .inr (5, [.ref 8, .ref sp, .ref mw]) := fun R => by rw [zrh_o oA]; exact hA
    have g1 := zs_span hA hr hrf oA (R := R) (p := i) (d := i) (by omega) (by omega)
    have g2 := s_restartBare (h := zrh h R) (n := lim) (f := (R (8 * i + i)).2.2) (zrh_a hm) (zrh_k hm) (by omega) hl1 hl2
    rw [zrh_set hm] at g2
    have f7 := zrh_a (h := h) (R := R) hm
    simp [E_X6_first, zfok, zfv, zfs', ziok, ziv, zpok, zis', zlok, zlv', zls', zbok, zrok, zrv', zrs', zaok, zan, zcok, zcs', zis, zgv, zgh, zcat, zw_1, zw_21, zw_at, zclr_int, zclr_ref, zclr_null, zclr_none, zclr_long, zclr_clr, zbv_0, zbv_1, zbv_ite, zbv_ite', Value.category, e1, e2, f1, g1, g2, f7]
    exact k1
theorem s_first6 (hN : N ≤ 7) (hf : ∀ k, fb k ≤ 1) (hA : h.2.2 os = .inr (5, [.ref 8, .ref sp, .ref mw])) (hr : h.2.2 8 = .inl (3, 128, .inr (.inr (.inr (.inr rf))))) (hrf : ∀ i, i < 128 → rf i = some (9 + 2 * i)) (hD : h.2.2 o = .inr (2, [.ref w, .ref b])) (hb : h.2.2 b = .inl (0, 64, .inl (fun k => nI (fb k)))) (hw : h.2.2 w = .inl (0, 64, .inl wt)) (oA : os < 9 ∨ 265 ≤ os) (oD : o < 9 ∨ 265 ≤ o) (oB : b < 9 ∨ 265 ≤ b) (oW : w < 9 ∨ 265 ≤ w) {lim : Nat} (hl1 : 1 ≤ lim) (hl2 : lim ≤ 31) {R : rS} (hR : rok R) : zC 152 [.ref os, .ref o, .int (nI N), .int (nI lim)] (zrh h R) = some (some (.ref (9 + 2 * N)), zrh h (sf3 fb wt N lim N 1 (sf0 lim (N + 1) 0 R))) := by
  obtain ⟨l5', l6', k1⟩ := l_sf1 hN hf hA hr hrf hD hb hw oA oD oB oW hl1 hl2 (N + 1) 0 R none none (by omega) hR
  have k2 := l_sf2 hN hf hA hr hrf hD hb hw oA oD oB oW hl1 hl2 N 1 (sf0 lim (N + 1) 0 R) l5' l6' (by omega) (by omega) (sf0_ok hl1 hl2 _ _ _ hR)
  rw [k2, nI_0] at k1
  simp only [I_X6_first, E_X6_first, zclr_none]
  exact k1
end SFIRST
