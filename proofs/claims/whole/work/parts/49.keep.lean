/-! keep -/
/-- a new drawing behind all -/
def xH (h : zH) (n : Int32) (tg hd : Nat → Int32) : zH := (h.1 + 3, h.2.1 + 19, fun x => if x = h.1 then .inr (3, [.ref (h.1 + 1), .ref (h.1 + 2), .int n]) else if x = h.1 + 1 then .inl (0, 8, .inl tg) else if x = h.1 + 2 then .inl (0, 8, .inl hd) else h.2.2 x)
def xH1 (h : zH) : zH := (h.1 + 2, h.2.1 + 11, fun x => if x = h.1 then .inr (3, [.ref (h.1 + 1), .null, .int 0]) else if x = h.1 + 1 then .inl (0, 8, .inl (fun _ => 0)) else h.2.2 x)
section XH
variable {h : zH} {n n' : Int32} {tg hd tg' hd' : Nat → Int32}
theorem znew_1 (h : zH) (k : Nat) (x : zA) : (znew h k x).1 = h.1 + 1 := rfl
theorem znew_at (h : zH) (k : Nat) (x : zA) (b : Nat) : (znew h k x).2.2 b = if b = h.1 then x else h.2.2 b := rfl
theorem xH1_1 : (xH1 h).1 = h.1 + 2 := rfl
theorem xH1_o : (xH1 h).2.2 h.1 = .inr (3, [.ref (h.1 + 1), .null, .int 0]) := by
  show (if h.1 = h.1 then _ else _) = _
  rw [if_pos rfl]
theorem xH_1 : (xH h n tg hd).1 = h.1 + 3 := rfl
theorem xH_o : (xH h n tg hd).2.2 h.1 = .inr (3, [.ref (h.1 + 1), .ref (h.1 + 2), .int n]) := by
  show (if h.1 = h.1 then _ else _) = _
  rw [if_pos rfl]
theorem xH_t : (xH h n tg hd).2.2 (h.1 + 1) = .inl (0, 8, .inl tg) := by
  show (if h.1 + 1 = h.1 then _ else if h.1 + 1 = h.1 + 1 then _ else _) = _
  rw [if_neg (by omega), if_pos rfl]
theorem xH_q : (xH h n tg hd).2.2 (h.1 + 2) = .inl (0, 8, .inl hd) := by
  show (if h.1 + 2 = h.1 then _ else if h.1 + 2 = h.1 + 1 then _ else if h.1 + 2 = h.1 + 2 then _ else _) = _
  rw [if_neg (by omega), if_neg (by omega), if_pos rfl]
theorem xH_e {a : Nat} (ha : a < h.1) : (xH h n tg hd).2.2 a = h.2.2 a := by
  show (if a = h.1 then _ else if a = h.1 + 1 then _ else if a = h.1 + 2 then _ else _) = _
  rw [if_neg (by omega), if_neg (by omega), if_neg (by omega)]
theorem xH_r1 : zw (znew (znew h 3 (.inr (3, [.null, .null, .int 0]))) 8 (.inl (0, 8, .inl (fun _ => 0)))) h.1 (.inr (3, [.ref (h.1 + 1), .null, .int 0])) = xH1 h := by
  unfold zw znew xH1 zup
  dsimp only
  congr 2
  funext a
  by_cases e : a = h.1
  · rw [if_pos e, if_pos e]
  · rw [if_neg e, if_neg e, if_neg e]
theorem xH_r2 : zw (znew (xH1 h) 8 (.inl (0, 8, .inl (fun _ => 0)))) h.1 (.inr (3, [.ref (h.1 + 1), .ref (h.1 + 2), .int 0])) = xH h 0 (fun _ => 0) (fun _ => 0) := by
  unfold zw znew xH1 xH zup
  dsimp only
  congr 2
  funext a
  by_cases e : a = h.1
  · simp [e]
  · by_cases e1 : a = h.1 + 1
    · simp [e1]
    · by_cases e2 : a = h.1 + 2
      · simp [e2]
      · simp [e, e1, e2]
theorem xH_r3 : zw (zw (zw (xH h n tg hd) (h.1 + 1) (.inl (0, 8, .inl tg'))) (h.1 + 2) (.inl (0, 8, .inl hd'))) h.1 (.inr (3, [.ref (h.1 + 1), .ref (h.1 + 2), .int n'])) = xH h n' tg' hd' := by
  unfold zw xH zup
  dsimp only
  congr 2
  funext a
  by_cases e : a = h.1
  · simp [e]
  · by_cases e1 : a = h.1 + 1
    · simp [e1]
    · by_cases e2 : a = h.1 + 2
      · simp [e2]
      · simp [e, e1, e2]
theorem znok8 : znok 8 = true := by decide
theorem zcl8 : (8 : Int32).toNatClampNeg = 8 := by decide
theorem s_dinit : zC 90 [.ref h.1] (znew h 3 (.inr (3, [.null, .null, .int 0]))) = some (none, xH h 1 (fun d => nI (ztg0 d)) Z0) := by
  have e := s_drestart (h := xH h 0 (fun _ => 0) (fun _ => 0)) (o := h.1) (t := h.1 + 1) (q := h.1 + 2) (tg := fun _ => 0) (hd := fun _ => 0) (n := 1) xH_o (by rw [xH_t]; rfl) (by rw [xH_q]; rfl) (fun _ _ => rfl) (fun _ _ => rfl) (by omega) (by omega) (by omega)
  rw [xH_r3] at e
  simp [I_X3_init, E_X3_init, zfok, zfv, zfs', ziok, ziv, zpok, zis', zlok, zlv', zls', zbok, zrok, zrv', zrs', zaok, zan, zcok, zcs', zis, zgv, zgh, zcat, zw_1, zw_21, zw_at, zclr_int, zclr_ref, zclr_null, zclr_none, zclr_long, zclr_clr, zbv_0, zbv_1, zbv_ite, zbv_ite', Value.category, znok8, zcl8, znew_1, znew_at, xH_r1, xH1_1, xH1_o, xH_r2, xH_o, e]
end XH
section KEEP
variable {L s : Nat} {xs : Nat → Int32} {C : xC} {M : xM} {σ : xS} {ca : Nat → (Nat → Int32) → (Nat → Nat) → (Nat → Int64) → (Nat → Int32) → (Nat → Int32) → (Nat → Int32) → Prop}
theorem xH_W {n : Int32} {tg hd : Nat → Int32} : xH (xW L xs s C M) n tg hd = xW L xs (s + 19) (xC.mk C.N C.tg C.hd C.wt C.fb C.R C.G C.P C.Q C.E C.kr C.ct C.tt C.A C.qs C.qx C.qy C.vs C.lo C.hg C.ab C.fo C.pk (C.K + 1) ((fun j => if j = C.K then (n, tg, hd) else C.kd j))) M := by
  unfold xH xW
  dsimp only [xC_K_mk]
  refine Prod.ext (by show 303 + 3 * C.K + 3 = 303 + 3 * (C.K + 1); omega) (Prod.ext rfl ?_)
  funext a
  show (if a = 303 + 3 * C.K then _ else if a = 303 + 3 * C.K + 1 then _ else if a = 303 + 3 * C.K + 2 then _ else _) = xcl L xs _ M a
  unfold xcl
  by_cases e0 : a < 303
  · rw [if_neg (by omega), if_neg (by omega), if_neg (by omega)]
    by_cases e1 : a < 9
    · rw [if_pos e1, if_pos e1]; rfl
    · rw [if_neg e1, if_neg e1]
      by_cases e2 : a < 265
      · rw [if_pos e2, if_pos e2]; rfl
      · rw [if_neg e2, if_neg e2]
        by_cases e3 : a < 283
        · rw [if_pos e3, if_pos e3]; rfl
        · rw [if_neg e3, if_neg e3, if_pos e0, if_pos e0]
  · rw [if_neg (show ¬ a < 9 by omega), if_neg (show ¬ a < 265 by omega), if_neg (show ¬ a < 283 by omega), if_neg e0, if_neg (show ¬ a < 9 by omega), if_neg (show ¬ a < 265 by omega), if_neg (show ¬ a < 283 by omega), if_neg e0]
    have hx : xkc (xC.mk C.N C.tg C.hd C.wt C.fb C.R C.G C.P C.Q C.E C.kr C.ct C.tt C.A C.qs C.qx C.qy C.vs C.lo C.hg C.ab C.fo C.pk (C.K + 1) ((fun j => if j = C.K then (n, tg, hd) else C.kd j))) a = if (a - 303) / 3 < C.K + 1 then (if (a - 303) % 3 = 0 then .inr (3, [.ref (a + 1), .ref (a + 2), .int (if (a - 303) / 3 = C.K then (n, tg, hd) else C.kd ((a - 303) / 3)).1]) else if (a - 303) % 3 = 1 then .inl (0, 8, .inl (if (a - 303) / 3 = C.K then (n, tg, hd) else C.kd ((a - 303) / 3)).2.1) else .inl (0, 8, .inl (if (a - 303) / 3 = C.K then (n, tg, hd) else C.kd ((a - 303) / 3)).2.2)) else zdead := rfl
    rw [hx]
    unfold xkc
    by_cases f0 : a = 303 + 3 * C.K
    · have g1 : (a - 303) / 3 = C.K := by omega
      have g2 : (a - 303) % 3 = 0 := by omega
      simp [g1, g2]
      simp [f0]
    · by_cases f1 : a = 303 + 3 * C.K + 1
      · have g1 : (a - 303) / 3 = C.K := by omega
        have g2 : (a - 303) % 3 = 1 := by omega
        simp [g1, g2]
        simp [f1]
      · by_cases f2 : a = 303 + 3 * C.K + 2
        · have g1 : (a - 303) / 3 = C.K := by omega
          have g2 : (a - 303) % 3 = 2 := by omega
          simp [g1, g2]
          simp [f2]
        · by_cases f3 : (a - 303) / 3 < C.K
          · have g3 : (a - 303) / 3 < C.K + 1 := by omega
            have g4 : ¬ (a - 303) / 3 = C.K := by omega
            simp only [if_neg f0, if_neg f1, if_neg f2, if_pos f3, if_pos g3, if_neg g4]
          · have g3 : ¬ (a - 303) / 3 < C.K + 1 := by omega
            simp only [if_neg f0, if_neg f1, if_neg f2, if_neg f3, if_neg g3]
theorem x_add (ok : xOk σ) (rc : xRC σ C) (hE : σ.E < 20) : zC 128 [.ref 270, .ref 2] (xW L xs s C M) = some (some (.int (nI σ.E)), xW L xs (s + 19) (xC.mk C.N C.tg C.hd C.wt C.fb C.R C.G C.P C.Q (nI (σ.E + 1)) (va_up C.kr σ.E (some (303 + 3 * σ.E))) C.ct C.tt C.A C.qs C.qx C.qy C.vs C.lo C.hg C.ab C.fo C.pk (C.K + 1) ((fun j => if j = C.K then (nI σ.N, (fun d => nI (σ.tg d)), (fun d => nI (σ.hd d))) else C.kd j))) M) := by
  have e1 : nI σ.E < 20 := (zlt (b := 20) (by omega) (by omega)).mpr hE
  have e2 : zin (nI σ.E) 20 = true := zin8 (by omega) (by omega)
  have e3 : (nI σ.E).toNatClampNeg = σ.E := zcl7 (by omega)
  have e4 : nI σ.E + 1 = nI (σ.E + 1) := nI_1 _
  have e5 : nI (σ.E + 1) - 1 = nI σ.E := nI_pred _
  have k1 : (xW L xs s C M).1 = 303 + 3 * σ.E := by rw [xW1, rc.K]
  have i1 := s_dinit (h := xW L xs s C M)
  have z7 := ok.d.n7
  have c1 := s_copyFrom (h := xH (xW L xs s C M) 1 (fun d => nI (ztg0 d)) Z0) (o := (xW L xs s C M).1) (t := (xW L xs s C M).1 + 1) (q := (xW L xs s C M).1 + 2) (tg := ztg0) (hd := fun _ => 0) (o2 := 2) (t2 := 3) (q2 := 4) (tg2 := σ.tg) (hd2 := σ.hd) (n := nI σ.N) xH_o xH_t (by rw [xH_q]; rfl) (fun d h => by unfold ztg0; rw [if_neg (by omega)]) (fun d _ => rfl) (by omega) (by omega) (by omega) (by rw [xH_e (by omega), xr2, rc.N]) (by rw [xH_e (by omega), xr3, rc.tg]) (by rw [xH_e (by omega), xr4, rc.hd]) (fun d h => ok.d.tz d (by omega)) (fun d h => ok.d.hz d (by omega)) (by omega) (by omega) (by omega)
  rw [xH_r3] at c1
  have o1 : (xH (xW L xs s C M) 1 (fun d => nI (ztg0 d)) Z0).2.2 (xW L xs s C M).1 = _ := xH_o
  rw [xH_W (n := nI σ.N)] at c1
  rw [k1] at i1 o1 c1
  have o2 := xk0 (L := L) (xs := xs) (s := s + 19) (M := M) (C := (xC.mk C.N C.tg C.hd C.wt C.fb C.R C.G C.P C.Q C.E C.kr C.ct C.tt C.A C.qs C.qx C.qy C.vs C.lo C.hg C.ab C.fo C.pk (C.K + 1) ((fun j => if j = C.K then (nI σ.N, (fun d => nI (σ.tg d)), (fun d => nI (σ.hd d))) else C.kd j)))) (j := σ.E) (by rw [xC_K_mk, rc.K]; omega)
  rw [rc.E] at o2
  simp [I_X1_add, E_X1_add, zfok, zfv, zfs', ziok, ziv, zpok, zis', zlok, zlv', zls', zbok, zrok, zrv', zrs', zaok, zan, zcok, zcs', zis, zgv, zgh, zcat, zw_1, zw_21, zw_at, zclr_int, zclr_ref, zclr_null, zclr_none, zclr_long, zclr_clr, zbv_0, zbv_1, zbv_ite, zbv_ite', Value.category, xr0, xr1, xr2, xr3, xr4, xr5, xr6, xr7, xr8, xr265, xr266, xr267, xr268, xr269, xr270, xr271, xr272, xr273, xr274, xr275, xr276, xr277, xr278, xr279, xr280, xr281, xr282, xr283, xr284, xr285, xr286, xr287, xr288, xr289, xr290, xr291, xr292, xr293, xr294, xr295, xr296, xr297, xr298, xr299, xr300, xr301, xr302, xv2, xv3, xv4, xv6, xv7, xv266, xv268, xv269, xv270, xv271, xv273, xv274, xv275, xv276, xv277, xv278, xv279, xv280, xv281, xv282, xv283, xv284, xv285, xv286, xv287, xv288, xv289, xv290, xv291, xv292, xv293, xv294, xv295, xv296, xv297, xv298, xv299, xv300, xv301, xv302, znar0, znar1, znarI, zfitb, zfitb1, xC_N_mk, xC_tg_mk, xC_hd_mk, xC_wt_mk, xC_fb_mk, xC_R_mk, xC_G_mk, xC_P_mk, xC_Q_mk, xC_E_mk, xC_kr_mk, xC_ct_mk, xC_tt_mk, xC_A_mk, xC_qs_mk, xC_qx_mk, xC_qy_mk, xC_vs_mk, xC_lo_mk, xC_hg_mk, xC_ab_mk, xC_fo_mk, xC_pk_mk, xC_K_mk, xC_kd_mk, xM_n_mk, xM_tg_mk, xM_hd_mk, xM_wt_mk, xM_fb_mk, xM_kn_mk, xM_mn_mk, xM_rk_mk, xM_rs_mk, xM_rh_mk, xM_E_mk, xM_gn_mk, xM_ks_mk, xM_kt_mk, xM_kh_mk, xM_A_mk, xM_qs_mk, xM_qx_mk, xM_qy_mk, xM_rw_mk, xM_wo_mk, xM_ia_mk, xM_fo_mk, xM_pr_mk, xM_h_mk, xS_N_mk, xS_tg_mk, xS_hd_mk, xS_wt_mk, xS_fb_mk, xS_E_mk, xS_gn_mk, xS_ks_mk, xS_kt_mk, xS_kh_mk, xS_A_mk, xS_qs_mk, xS_qx_mk, xS_qy_mk, xC_eta, xM_eta, xS_eta, rc.E, e1, i1, o1, o2, c1, e2, e3, e4, e5, k1, zrel, zel]
theorem l_mkeep {E N : Nat} (hE : E < 20) (hN : N ≤ 7) : ∀ (c d : Nat) (M : xM), c + d = N + 1 → 1 ≤ d → M.n = nI N → M.E = nI E → zD 120 37 [some (.ref 283), some (.int (nI d))] [] (xW L xs s C M) = some (some (.int (nI E)), xW L xs s C (xM.mk M.n M.tg M.hd M.wt M.fb M.kn M.mn M.rk M.rs M.rh (nI (E + 1)) M.gn M.ks ((fun i => if 8 * E + d ≤ i ∧ i ≤ 8 * E + N then M.tg (i - 8 * E) else M.kt i)) ((fun i => if 8 * E + d ≤ i ∧ i ≤ 8 * E + N then M.hd (i - 8 * E) else M.kh i)) M.A M.qs M.qx M.qy M.rw M.wo M.ia M.fo M.pr M.h))
  | 0, d, M, h, h1, hn, he => by
    have e1 : nI N < nI d := by rw [zlt (by omega) (by omega)]; omega
    have e2 : nI E + 1 = nI (E + 1) := nI_1 _
    have e3 : nI (E + 1) - 1 = nI E := nI_pred _
    have u1 : (fun i => if 8 * E + d ≤ i ∧ i ≤ 8 * E + N then M.tg (i - 8 * E) else M.kt i) = M.kt := by
      funext i; rw [if_neg (by omega)]
    have u2 : (fun i => if 8 * E + d ≤ i ∧ i ≤ 8 * E + N then M.hd (i - 8 * E) else M.kh i) = M.kh := by
      funext i; rw [if_neg (by omega)]
    rw [← hn] at e1
    rw [E_X10_keep_h37]
    rw [← he] at e2
    simp [E_X10_keep, zfok, zfv, zfs', ziok, ziv, zpok, zis', zlok, zlv', zls', zbok, zrok, zrv', zrs', zaok, zan, zcok, zcs', zis, zgv, zgh, zcat, zw_1, zw_21, zw_at, zclr_int, zclr_ref, zclr_null, zclr_none, zclr_long, zclr_clr, zbv_0, zbv_1, zbv_ite, zbv_ite', Value.category, xr0, xr1, xr2, xr3, xr4, xr5, xr6, xr7, xr8, xr265, xr266, xr267, xr268, xr269, xr270, xr271, xr272, xr273, xr274, xr275, xr276, xr277, xr278, xr279, xr280, xr281, xr282, xr283, xr284, xr285, xr286, xr287, xr288, xr289, xr290, xr291, xr292, xr293, xr294, xr295, xr296, xr297, xr298, xr299, xr300, xr301, xr302, xv2, xv3, xv4, xv6, xv7, xv266, xv268, xv269, xv270, xv271, xv273, xv274, xv275, xv276, xv277, xv278, xv279, xv280, xv281, xv282, xv283, xv284, xv285, xv286, xv287, xv288, xv289, xv290, xv291, xv292, xv293, xv294, xv295, xv296, xv297, xv298, xv299, xv300, xv301, xv302, znar0, znar1, znarI, zfitb, zfitb1, xC_N_mk, xC_tg_mk, xC_hd_mk, xC_wt_mk, xC_fb_mk, xC_R_mk, xC_G_mk, xC_P_mk, xC_Q_mk, xC_E_mk, xC_kr_mk, xC_ct_mk, xC_tt_mk, xC_A_mk, xC_qs_mk, xC_qx_mk, xC_qy_mk, xC_vs_mk, xC_lo_mk, xC_hg_mk, xC_ab_mk, xC_fo_mk, xC_pk_mk, xC_K_mk, xC_kd_mk, xM_n_mk, xM_tg_mk, xM_hd_mk, xM_wt_mk, xM_fb_mk, xM_kn_mk, xM_mn_mk, xM_rk_mk, xM_rs_mk, xM_rh_mk, xM_E_mk, xM_gn_mk, xM_ks_mk, xM_kt_mk, xM_kh_mk, xM_A_mk, xM_qs_mk, xM_qx_mk, xM_qy_mk, xM_rw_mk, xM_wo_mk, xM_ia_mk, xM_fo_mk, xM_pr_mk, xM_h_mk, xS_N_mk, xS_tg_mk, xS_hd_mk, xS_wt_mk, xS_fb_mk, xS_E_mk, xS_gn_mk, xS_ks_mk, xS_kt_mk, xS_kh_mk, xS_A_mk, xS_qs_mk, xS_qx_mk, xS_qy_mk, xC_eta, xM_eta, xS_eta, e1, u1, u2, e2, e3]
  | c + 1, d, M, h, h1, hn, he => by
    have e1 : ¬ nI N < nI d := by rw [zlt (by omega) (by omega)]; omega
    have e2 : zin (nI d) 8 = true := zin8 (by omega) (by omega)
    have e3 : (nI d).toNatClampNeg = d := zcl7 (by omega)
    have e4 : zin (nI (8 * E + d)) 160 = true := zin8 (by omega) (by omega)
    have e5 : (nI (8 * E + d)).toNatClampNeg = 8 * E + d := zcl7 (by omega)
    have e6 : nI d + 1 = nI (d + 1) := nI_1 d
    have e7 : 8 * nI E + nI d = nI (8 * E + d) := z8 _ _
    have k1 := l_mkeep hE hN c (d + 1) (xM.mk M.n M.tg M.hd M.wt M.fb M.kn M.mn M.rk M.rs M.rh M.E M.gn M.ks (upd M.kt (8 * E + d) (M.tg d)) (upd M.kh (8 * E + d) (M.hd d)) M.A M.qs M.qx M.qy M.rw M.wo M.ia M.fo M.pr M.h) (by omega) (by omega) hn he
    have u : ∀ (f g : Nat → Int32), (fun i => if 8 * E + (d + 1) ≤ i ∧ i ≤ 8 * E + N then g (i - 8 * E) else upd f (8 * E + d) (g d) i) = fun i => if 8 * E + d ≤ i ∧ i ≤ 8 * E + N then g (i - 8 * E) else f i := by
      intro f g
      funext i
      unfold upd
      by_cases q : i = 8 * E + d
      · subst q; rw [if_neg (by omega), if_pos rfl, if_pos (by omega), show 8 * E + d - 8 * E = d by omega]
      · by_cases q2 : 8 * E + d ≤ i ∧ i ≤ 8 * E + N
        · rw [if_pos (by omega), if_pos q2]
        · rw [if_neg (by omega), if_neg q, if_neg q2]
    simp only [xC_N_mk, xC_tg_mk, xC_hd_mk, xC_wt_mk, xC_fb_mk, xC_R_mk, xC_G_mk, xC_P_mk, xC_Q_mk, xC_E_mk, xC_kr_mk, xC_ct_mk, xC_tt_mk, xC_A_mk, xC_qs_mk, xC_qx_mk, xC_qy_mk, xC_vs_mk, xC_lo_mk, xC_hg_mk, xC_ab_mk, xC_fo_mk, xC_pk_mk, xC_K_mk, xC_kd_mk, xM_n_mk, xM_tg_mk, xM_hd_mk, xM_wt_mk, xM_fb_mk, xM_kn_mk, xM_mn_mk, xM_rk_mk, xM_rs_mk, xM_rh_mk, xM_E_mk, xM_gn_mk, xM_ks_mk, xM_kt_mk, xM_kh_mk, xM_A_mk, xM_qs_mk, xM_qx_mk, xM_qy_mk, xM_rw_mk, xM_wo_mk, xM_ia_mk, xM_fo_mk, xM_pr_mk, xM_h_mk, xS_N_mk, xS_tg_mk, xS_hd_mk, xS_wt_mk, xS_fb_mk, xS_E_mk, xS_gn_mk, xS_ks_mk, xS_kt_mk, xS_kh_mk, xS_A_mk, xS_qs_mk, xS_qx_mk, xS_qy_mk, xC_eta, xM_eta, xS_eta, u] at k1
    rw [← hn] at e1
    rw [← he] at e7
    rw [E_X10_keep_h37]
    simp [E_X10_keep, zfok, zfv, zfs', ziok, ziv, zpok, zis', zlok, zlv', zls', zbok, zrok, zrv', zrs', zaok, zan, zcok, zcs', zis, zgv, zgh, zcat, zw_1, zw_21, zw_at, zclr_int, zclr_ref, zclr_null, zclr_none, zclr_long, zclr_clr, zbv_0, zbv_1, zbv_ite, zbv_ite', Value.category, xr0, xr1, xr2, xr3, xr4, xr5, xr6, xr7, xr8, xr265, xr266, xr267, xr268, xr269, xr270, xr271, xr272, xr273, xr274, xr275, xr276, xr277, xr278, xr279, xr280, xr281, xr282, xr283, xr284, xr285, xr286, xr287, xr288, xr289, xr290, xr291, xr292, xr293, xr294, xr295, xr296, xr297, xr298, xr299, xr300, xr301, xr302, xv2, xv3, xv4, xv6, xv7, xv266, xv268, xv269, xv270, xv271, xv273, xv274, xv275, xv276, xv277, xv278, xv279, xv280, xv281, xv282, xv283, xv284, xv285, xv286, xv287, xv288, xv289, xv290, xv291, xv292, xv293, xv294, xv295, xv296, xv297, xv298, xv299, xv300, xv301, xv302, znar0, znar1, znarI, zfitb, zfitb1, xC_N_mk, xC_tg_mk, xC_hd_mk, xC_wt_mk, xC_fb_mk, xC_R_mk, xC_G_mk, xC_P_mk, xC_Q_mk, xC_E_mk, xC_kr_mk, xC_ct_mk, xC_tt_mk, xC_A_mk, xC_qs_mk, xC_qx_mk, xC_qy_mk, xC_vs_mk, xC_lo_mk, xC_hg_mk, xC_ab_mk, xC_fo_mk, xC_pk_mk, xC_K_mk, xC_kd_mk, xM_n_mk, xM_tg_mk, xM_hd_mk, xM_wt_mk, xM_fb_mk, xM_kn_mk, xM_mn_mk, xM_rk_mk, xM_rs_mk, xM_rh_mk, xM_E_mk, xM_gn_mk, xM_ks_mk, xM_kt_mk, xM_kh_mk, xM_A_mk, xM_qs_mk, xM_qx_mk, xM_qy_mk, xM_rw_mk, xM_wo_mk, xM_ia_mk, xM_fo_mk, xM_pr_mk, xM_h_mk, xS_N_mk, xS_tg_mk, xS_hd_mk, xS_wt_mk, xS_fb_mk, xS_E_mk, xS_gn_mk, xS_ks_mk, xS_kt_mk, xS_kh_mk, xS_A_mk, xS_qs_mk, xS_qx_mk, xS_qy_mk, xC_eta, xM_eta, xS_eta, e1, e2, e3, e4, e5, e6, e7]
    exact k1
def σkeep (σ : xS) : xS := (xS.mk σ.N σ.tg σ.hd σ.wt σ.fb (σ.E + 1) (zupd σ.gn σ.E 0) (zupd σ.ks σ.E σ.N) ((fun j => if j = σ.E then σ.tg else σ.kt j)) ((fun j => if j = σ.E then σ.hd else σ.kh j)) σ.A σ.qs σ.qx σ.qy)
theorem ok_keep (ok : xOk σ) (hE : σ.E < 20) (hT : zTr σ.hd σ.N = true) : xOk (σkeep σ) := by
  refine (xOk.mk ok.d ok.w1 ok.wz ok.f1 ok.fz hE ?_ ?_ ?_ ok.A6 ok.q4)
  · intro j
    show zupd σ.gn σ.E 0 j ≤ 1
    unfold zupd
    split
    · omega
    · exact ok.g1 j
  · intro j hj
    have hj : j < σ.E + 1 := hj
    show dOk (zupd σ.ks σ.E σ.N j) (if j = σ.E then σ.tg else σ.kt j) (if j = σ.E then σ.hd else σ.kh j)
    unfold zupd
    by_cases q : j = σ.E
    · simp only [q, if_true]; exact ok.d
    · simp only [q, if_false]; exact ok.kd j (by omega)
  · intro j hj x
    have hj : j < σ.E + 1 := hj
    show zit (if j = σ.E then σ.hd else σ.kh j) 7 x = 0
    by_cases q : j = σ.E
    · simp only [q, if_true]
      exact zit_up ok.d.h0 (zTr_all ok.d.hn ok.d.h0 ok.d.hz hT ok.d.n1 x) ok.d.n7
    · simp only [q, if_false]; exact ok.ktr j (by omega) x
theorem x_cn (σ : xS) (a b sd : Nat) : xcn (σkeep σ) a b sd = xcn σ a b sd + kcn σ.N σ.tg σ.hd a b sd := by
  show ksum (zupd σ.gn σ.E 0) (fun j => kcn (zupd σ.ks σ.E σ.N j) (if j = σ.E then σ.tg else σ.kt j) (if j = σ.E then σ.hd else σ.kh j) a b sd) (σ.E + 1) 0 = _
  rw [ksum_snoc]
  unfold xcn
  rw [ksum_congr σ.E 0 (gn' := σ.gn) (g' := fun j => kcn (σ.ks j) (σ.kt j) (σ.kh j) a b sd)]
  · simp [zupd]
  · intro i _ hi
    have q : ¬ i = σ.E := by omega
    simp [zupd, q]
theorem x_tn (σ : xS) (b : Nat) : xtn (σkeep σ) b = xtn σ b + kbn σ.N σ.tg b := by
  show ksum (zupd σ.gn σ.E 0) (fun j => kbn (zupd σ.ks σ.E σ.N j) (if j = σ.E then σ.tg else σ.kt j) b) (σ.E + 1) 0 = _
  rw [ksum_snoc]
  unfold xtn
  rw [ksum_congr σ.E 0 (gn' := σ.gn) (g' := fun j => kbn (σ.ks j) (σ.kt j) b)]
  · simp [zupd]
  · intro i _ hi
    have q : ¬ i = σ.E := by omega
    simp [zupd, q]
theorem c_keep (ok : xOk σ) (rc : xRC σ C) (rm : xRM ca σ M) : xOut ca 156 120 [] [] L xs s C M σ := by
  have t1 := x_ctree (L := L) (s := s) (xs := xs) (M := M) ok rc
  have t2 := fun C s => x_mtree (L := L) (s := s) (xs := xs) (C := C) ok rm
  have n7 := ok.d.n7
  by_cases hT : zTr σ.hd σ.N = true
  · rw [if_pos hT] at t1
    have t2 := fun C s => (t2 C s).trans (by rw [if_pos hT])
    by_cases hE : σ.E < 20
    · have a1 := x_add (L := L) (s := s) (xs := xs) (M := M) ok rc hE
      have e0 : ¬ nI σ.E < 0 := zge0 (by omega)
      have e1 : ¬ nI σ.E = 20 := fun z => absurd ((zeq (b := 20) (by omega) (by omega)).mp z) (by omega)
      have e2 : zin (nI σ.E) 20 = true := zin8 (by omega) (by omega)
      have e3 : (nI σ.E).toNatClampNeg = σ.E := zcl7 (by omega)
      have r1 := s_record (L := L) (xs := xs) (s := s + 19) (M := M) (C := (xC.mk C.N C.tg C.hd C.wt C.fb C.R C.G C.P C.Q (nI (σ.E + 1)) (va_up C.kr σ.E (some (303 + 3 * σ.E))) C.ct C.tt C.A C.qs C.qx C.qy C.vs C.lo C.hg C.ab C.fo C.pk (C.K + 1) ((fun j => if j = C.K then (nI σ.N, (fun d => nI (σ.tg d)), (fun d => nI (σ.hd d))) else C.kd j)))) (o := 2) (t := 3) (q := 4) (st := 1) ok.d (fun ct tt => by rw [xr2]; simp only [xC_N_mk, xC_tg_mk, xC_hd_mk, xC_wt_mk, xC_fb_mk, xC_R_mk, xC_G_mk, xC_P_mk, xC_Q_mk, xC_E_mk, xC_kr_mk, xC_ct_mk, xC_tt_mk, xC_A_mk, xC_qs_mk, xC_qx_mk, xC_qy_mk, xC_vs_mk, xC_lo_mk, xC_hg_mk, xC_ab_mk, xC_fo_mk, xC_pk_mk, xC_K_mk, xC_kd_mk, xM_n_mk, xM_tg_mk, xM_hd_mk, xM_wt_mk, xM_fb_mk, xM_kn_mk, xM_mn_mk, xM_rk_mk, xM_rs_mk, xM_rh_mk, xM_E_mk, xM_gn_mk, xM_ks_mk, xM_kt_mk, xM_kh_mk, xM_A_mk, xM_qs_mk, xM_qx_mk, xM_qy_mk, xM_rw_mk, xM_wo_mk, xM_ia_mk, xM_fo_mk, xM_pr_mk, xM_h_mk, xS_N_mk, xS_tg_mk, xS_hd_mk, xS_wt_mk, xS_fb_mk, xS_E_mk, xS_gn_mk, xS_ks_mk, xS_kt_mk, xS_kh_mk, xS_A_mk, xS_qs_mk, xS_qx_mk, xS_qy_mk, xC_eta, xM_eta, xS_eta]; rw [rc.N]) (fun ct tt => by rw [xr3]; simp only [xC_N_mk, xC_tg_mk, xC_hd_mk, xC_wt_mk, xC_fb_mk, xC_R_mk, xC_G_mk, xC_P_mk, xC_Q_mk, xC_E_mk, xC_kr_mk, xC_ct_mk, xC_tt_mk, xC_A_mk, xC_qs_mk, xC_qx_mk, xC_qy_mk, xC_vs_mk, xC_lo_mk, xC_hg_mk, xC_ab_mk, xC_fo_mk, xC_pk_mk, xC_K_mk, xC_kd_mk, xM_n_mk, xM_tg_mk, xM_hd_mk, xM_wt_mk, xM_fb_mk, xM_kn_mk, xM_mn_mk, xM_rk_mk, xM_rs_mk, xM_rh_mk, xM_E_mk, xM_gn_mk, xM_ks_mk, xM_kt_mk, xM_kh_mk, xM_A_mk, xM_qs_mk, xM_qx_mk, xM_qy_mk, xM_rw_mk, xM_wo_mk, xM_ia_mk, xM_fo_mk, xM_pr_mk, xM_h_mk, xS_N_mk, xS_tg_mk, xS_hd_mk, xS_wt_mk, xS_fb_mk, xS_E_mk, xS_gn_mk, xS_ks_mk, xS_kt_mk, xS_kh_mk, xS_A_mk, xS_qs_mk, xS_qx_mk, xS_qy_mk, xC_eta, xM_eta, xS_eta]; rw [rc.tg]) (fun ct tt => by rw [xr4]; simp only [xC_N_mk, xC_tg_mk, xC_hd_mk, xC_wt_mk, xC_fb_mk, xC_R_mk, xC_G_mk, xC_P_mk, xC_Q_mk, xC_E_mk, xC_kr_mk, xC_ct_mk, xC_tt_mk, xC_A_mk, xC_qs_mk, xC_qx_mk, xC_qy_mk, xC_vs_mk, xC_lo_mk, xC_hg_mk, xC_ab_mk, xC_fo_mk, xC_pk_mk, xC_K_mk, xC_kd_mk, xM_n_mk, xM_tg_mk, xM_hd_mk, xM_wt_mk, xM_fb_mk, xM_kn_mk, xM_mn_mk, xM_rk_mk, xM_rs_mk, xM_rh_mk, xM_E_mk, xM_gn_mk, xM_ks_mk, xM_kt_mk, xM_kh_mk, xM_A_mk, xM_qs_mk, xM_qx_mk, xM_qy_mk, xM_rw_mk, xM_wo_mk, xM_ia_mk, xM_fo_mk, xM_pr_mk, xM_h_mk, xS_N_mk, xS_tg_mk, xS_hd_mk, xS_wt_mk, xS_fb_mk, xS_E_mk, xS_gn_mk, xS_ks_mk, xS_kt_mk, xS_kh_mk, xS_A_mk, xS_qs_mk, xS_qx_mk, xS_qy_mk, xC_eta, xM_eta, xS_eta]; rw [rc.hd])
      simp only [xC_N_mk, xC_tg_mk, xC_hd_mk, xC_wt_mk, xC_fb_mk, xC_R_mk, xC_G_mk, xC_P_mk, xC_Q_mk, xC_E_mk, xC_kr_mk, xC_ct_mk, xC_tt_mk, xC_A_mk, xC_qs_mk, xC_qx_mk, xC_qy_mk, xC_vs_mk, xC_lo_mk, xC_hg_mk, xC_ab_mk, xC_fo_mk, xC_pk_mk, xC_K_mk, xC_kd_mk, xM_n_mk, xM_tg_mk, xM_hd_mk, xM_wt_mk, xM_fb_mk, xM_kn_mk, xM_mn_mk, xM_rk_mk, xM_rs_mk, xM_rh_mk, xM_E_mk, xM_gn_mk, xM_ks_mk, xM_kt_mk, xM_kh_mk, xM_A_mk, xM_qs_mk, xM_qx_mk, xM_qy_mk, xM_rw_mk, xM_wo_mk, xM_ia_mk, xM_fo_mk, xM_pr_mk, xM_h_mk, xS_N_mk, xS_tg_mk, xS_hd_mk, xS_wt_mk, xS_fb_mk, xS_E_mk, xS_gn_mk, xS_ks_mk, xS_kt_mk, xS_kh_mk, xS_A_mk, xS_qs_mk, xS_qx_mk, xS_qy_mk, xC_eta, xM_eta, xS_eta] at r1
      refine ⟨.int (nI σ.E), σkeep σ, s + 19, (xC.mk C.N C.tg C.hd C.wt C.fb C.R C.G C.P C.Q (nI (σ.E + 1)) (va_up C.kr σ.E (some (303 + 3 * σ.E))) (zct σ.tg σ.hd 1 σ.N 1 C.ct) (ztt σ.tg 1 σ.N 1 C.tt) C.A C.qs C.qx C.qy C.vs C.lo C.hg C.ab C.fo C.pk (C.K + 1) ((fun j => if j = C.K then (nI σ.N, (fun d => nI (σ.tg d)), (fun d => nI (σ.hd d))) else C.kd j))), (xM.mk M.n M.tg M.hd M.wt M.fb M.kn M.mn M.rk M.rs M.rh (nI (σ.E + 1)) M.gn (upd M.ks σ.E M.n) ((fun i => if 8 * σ.E + 1 ≤ i ∧ i ≤ 8 * σ.E + σ.N then M.tg (i - 8 * σ.E) else M.kt i)) ((fun i => if 8 * σ.E + 1 ≤ i ∧ i ≤ 8 * σ.E + σ.N then M.hd (i - 8 * σ.E) else M.kh i)) M.A M.qs M.qx M.qy ((fun d => nI (σ.hd d))) M.wo M.ia M.fo M.pr M.h), ?_, ?_, ok_keep ok hE hT, ?_, ?_, ?_⟩
      · simp [I_X9_keep, E_X9_keep, zfok, zfv, zfs', ziok, ziv, zpok, zis', zlok, zlv', zls', zbok, zrok, zrv', zrs', zaok, zan, zcok, zcs', zis, zgv, zgh, zcat, zw_1, zw_21, zw_at, zclr_int, zclr_ref, zclr_null, zclr_none, zclr_long, zclr_clr, zbv_0, zbv_1, zbv_ite, zbv_ite', Value.category, xr0, xr1, xr2, xr3, xr4, xr5, xr6, xr7, xr8, xr265, xr266, xr267, xr268, xr269, xr270, xr271, xr272, xr273, xr274, xr275, xr276, xr277, xr278, xr279, xr280, xr281, xr282, xr283, xr284, xr285, xr286, xr287, xr288, xr289, xr290, xr291, xr292, xr293, xr294, xr295, xr296, xr297, xr298, xr299, xr300, xr301, xr302, xv2, xv3, xv4, xv6, xv7, xv266, xv268, xv269, xv270, xv271, xv273, xv274, xv275, xv276, xv277, xv278, xv279, xv280, xv281, xv282, xv283, xv284, xv285, xv286, xv287, xv288, xv289, xv290, xv291, xv292, xv293, xv294, xv295, xv296, xv297, xv298, xv299, xv300, xv301, xv302, znar0, znar1, znarI, zfitb, zfitb1, xC_N_mk, xC_tg_mk, xC_hd_mk, xC_wt_mk, xC_fb_mk, xC_R_mk, xC_G_mk, xC_P_mk, xC_Q_mk, xC_E_mk, xC_kr_mk, xC_ct_mk, xC_tt_mk, xC_A_mk, xC_qs_mk, xC_qx_mk, xC_qy_mk, xC_vs_mk, xC_lo_mk, xC_hg_mk, xC_ab_mk, xC_fo_mk, xC_pk_mk, xC_K_mk, xC_kd_mk, xM_n_mk, xM_tg_mk, xM_hd_mk, xM_wt_mk, xM_fb_mk, xM_kn_mk, xM_mn_mk, xM_rk_mk, xM_rs_mk, xM_rh_mk, xM_E_mk, xM_gn_mk, xM_ks_mk, xM_kt_mk, xM_kh_mk, xM_A_mk, xM_qs_mk, xM_qx_mk, xM_qy_mk, xM_rw_mk, xM_wo_mk, xM_ia_mk, xM_fo_mk, xM_pr_mk, xM_h_mk, xS_N_mk, xS_tg_mk, xS_hd_mk, xS_wt_mk, xS_fb_mk, xS_E_mk, xS_gn_mk, xS_ks_mk, xS_kt_mk, xS_kh_mk, xS_A_mk, xS_qs_mk, xS_qx_mk, xS_qy_mk, xC_eta, xM_eta, xS_eta, t1, a1, e0, r1]
      · have m3 := l_mkeep (L := L) (s := s + 19) (xs := xs) (C := (xC.mk C.N C.tg C.hd C.wt C.fb C.R C.G C.P C.Q (nI (σ.E + 1)) (va_up C.kr σ.E (some (303 + 3 * σ.E))) (zct σ.tg σ.hd 1 σ.N 1 C.ct) (ztt σ.tg 1 σ.N 1 C.tt) C.A C.qs C.qx C.qy C.vs C.lo C.hg C.ab C.fo C.pk (C.K + 1) ((fun j => if j = C.K then (nI σ.N, (fun d => nI (σ.tg d)), (fun d => nI (σ.hd d))) else C.kd j)))) hE n7 σ.N 1 (xM.mk M.n M.tg M.hd M.wt M.fb M.kn M.mn M.rk M.rs M.rh M.E M.gn (upd M.ks σ.E M.n) M.kt M.kh M.A M.qs M.qx M.qy ((fun d => nI (σ.hd d))) M.wo M.ia M.fo M.pr M.h) (by omega) (by omega) rm.N rm.E
        simp only [xC_N_mk, xC_tg_mk, xC_hd_mk, xC_wt_mk, xC_fb_mk, xC_R_mk, xC_G_mk, xC_P_mk, xC_Q_mk, xC_E_mk, xC_kr_mk, xC_ct_mk, xC_tt_mk, xC_A_mk, xC_qs_mk, xC_qx_mk, xC_qy_mk, xC_vs_mk, xC_lo_mk, xC_hg_mk, xC_ab_mk, xC_fo_mk, xC_pk_mk, xC_K_mk, xC_kd_mk, xM_n_mk, xM_tg_mk, xM_hd_mk, xM_wt_mk, xM_fb_mk, xM_kn_mk, xM_mn_mk, xM_rk_mk, xM_rs_mk, xM_rh_mk, xM_E_mk, xM_gn_mk, xM_ks_mk, xM_kt_mk, xM_kh_mk, xM_A_mk, xM_qs_mk, xM_qx_mk, xM_qy_mk, xM_rw_mk, xM_wo_mk, xM_ia_mk, xM_fo_mk, xM_pr_mk, xM_h_mk, xS_N_mk, xS_tg_mk, xS_hd_mk, xS_wt_mk, xS_fb_mk, xS_E_mk, xS_gn_mk, xS_ks_mk, xS_kt_mk, xS_kh_mk, xS_A_mk, xS_qs_mk, xS_qx_mk, xS_qy_mk, xC_eta, xM_eta, xS_eta] at m3
        rw [show nI 1 = 1 from rfl] at m3
        have he := rm.E
        rw [← he] at e1 e2 e3
        simp [I_X10_keep, E_X10_keep, zfok, zfv, zfs', ziok, ziv, zpok, zis', zlok, zlv', zls', zbok, zrok, zrv', zrs', zaok, zan, zcok, zcs', zis, zgv, zgh, zcat, zw_1, zw_21, zw_at, zclr_int, zclr_ref, zclr_null, zclr_none, zclr_long, zclr_clr, zbv_0, zbv_1, zbv_ite, zbv_ite', Value.category, xr0, xr1, xr2, xr3, xr4, xr5, xr6, xr7, xr8, xr265, xr266, xr267, xr268, xr269, xr270, xr271, xr272, xr273, xr274, xr275, xr276, xr277, xr278, xr279, xr280, xr281, xr282, xr283, xr284, xr285, xr286, xr287, xr288, xr289, xr290, xr291, xr292, xr293, xr294, xr295, xr296, xr297, xr298, xr299, xr300, xr301, xr302, xv2, xv3, xv4, xv6, xv7, xv266, xv268, xv269, xv270, xv271, xv273, xv274, xv275, xv276, xv277, xv278, xv279, xv280, xv281, xv282, xv283, xv284, xv285, xv286, xv287, xv288, xv289, xv290, xv291, xv292, xv293, xv294, xv295, xv296, xv297, xv298, xv299, xv300, xv301, xv302, znar0, znar1, znarI, zfitb, zfitb1, xC_N_mk, xC_tg_mk, xC_hd_mk, xC_wt_mk, xC_fb_mk, xC_R_mk, xC_G_mk, xC_P_mk, xC_Q_mk, xC_E_mk, xC_kr_mk, xC_ct_mk, xC_tt_mk, xC_A_mk, xC_qs_mk, xC_qx_mk, xC_qy_mk, xC_vs_mk, xC_lo_mk, xC_hg_mk, xC_ab_mk, xC_fo_mk, xC_pk_mk, xC_K_mk, xC_kd_mk, xM_n_mk, xM_tg_mk, xM_hd_mk, xM_wt_mk, xM_fb_mk, xM_kn_mk, xM_mn_mk, xM_rk_mk, xM_rs_mk, xM_rh_mk, xM_E_mk, xM_gn_mk, xM_ks_mk, xM_kt_mk, xM_kh_mk, xM_A_mk, xM_qs_mk, xM_qx_mk, xM_qy_mk, xM_rw_mk, xM_wo_mk, xM_ia_mk, xM_fo_mk, xM_pr_mk, xM_h_mk, xS_N_mk, xS_tg_mk, xS_hd_mk, xS_wt_mk, xS_fb_mk, xS_E_mk, xS_gn_mk, xS_ks_mk, xS_kt_mk, xS_kh_mk, xS_A_mk, xS_qs_mk, xS_qx_mk, xS_qy_mk, xC_eta, xM_eta, xS_eta, t2, e1, e2, e3]
        exact m3
      · refine (xRC.mk rc.N rc.tg rc.hd rc.wt rc.fb rc.R rfl ?_ ?_ ?_ ?_ ?_ rc.A rc.q)
        · show C.K + 1 = σ.E + 1
          rw [rc.K]
        · intro j hj
          have hj : j < σ.E + 1 := hj
          show va_up C.kr σ.E (some (303 + 3 * σ.E)) j = if zupd σ.gn σ.E 0 j = 0 then some (303 + 3 * j) else none
          unfold va_up zupd
          by_cases q : j = σ.E
          · simp [q]
          · simp only [q, if_false]; exact rc.kr j (by omega)
        · intro j hj
          have hj : j < σ.E + 1 := hj
          show (if j = C.K then (nI σ.N, (fun d => nI (σ.tg d)), (fun d => nI (σ.hd d))) else C.kd j) = (nI (zupd σ.ks σ.E σ.N j), (fun d => nI ((if j = σ.E then σ.tg else σ.kt j) d)), (fun d => nI ((if j = σ.E then σ.hd else σ.kh j) d)))
          rw [rc.K]
          unfold zupd
          by_cases q : j = σ.E
          · simp [q]
          · simp only [q, if_false]; exact rc.kd j (by omega)
        · intro a b sd ha hb hs
          show zct σ.tg σ.hd 1 σ.N 1 C.ct _ = _
          rw [zct_kcn ok.d hb hs, rc.ct a b sd ha hb hs, x_cn, ← nI_add]
          grind
        · intro b hb
          show ztt σ.tg 1 σ.N 1 C.tt b = _
          rw [ztt_val, rc.tt b hb, x_tn, ← nI_add]
          unfold kbn
          grind
      · refine (xRM.mk (rm_rw ok rm).N (rm_rw ok rm).tg (rm_rw ok rm).hd (rm_rw ok rm).wt (rm_rw ok rm).fb (rm_rw ok rm).kn rfl ?_ ?_ (rm_rw ok rm).A (rm_rw ok rm).q (rm_rw ok rm).rw)
        · intro j hj
          have hj : j < σ.E + 1 := hj
          show M.gn j = nI (zupd σ.gn σ.E 0 j) ∧ upd M.ks σ.E M.n j = nI (zupd σ.ks σ.E σ.N j) ∧ ∀ d, 1 ≤ d → d < 8 → (if 8 * σ.E + 1 ≤ 8 * j + d ∧ 8 * j + d ≤ 8 * σ.E + σ.N then M.tg (8 * j + d - 8 * σ.E) else M.kt (8 * j + d)) = nI ((if j = σ.E then σ.tg else σ.kt j) d) ∧ (if 8 * σ.E + 1 ≤ 8 * j + d ∧ 8 * j + d ≤ 8 * σ.E + σ.N then M.hd (8 * j + d - 8 * σ.E) else M.kh (8 * j + d)) = nI ((if j = σ.E then σ.hd else σ.kh j) d)
          unfold zupd upd
          by_cases q : j = σ.E
          · subst q
            have kz := rm.kz σ.E (Nat.le_refl _) hE
            simp only [if_true]
            refine ⟨kz.1, rm.N, fun d h1 h8 => ?_⟩
            by_cases q2 : d ≤ σ.N
            · rw [if_pos (by omega), if_pos (by omega), show 8 * σ.E + d - 8 * σ.E = d by omega, rm.tg, rm.hd]
              exact ⟨by show (if d = 0 then 0 else nI (σ.tg d)) = _; rw [if_neg (by omega)], rfl⟩
            · rw [if_neg (by omega), if_neg (by omega), (kz.2 d h1 h8).1, (kz.2 d h1 h8).2, ok.d.tz d (by omega), ok.d.hz d (by omega)]
              exact ⟨rfl, rfl⟩
          · simp only [q, if_false]
            have k := rm.k j (by omega)
            refine ⟨k.1, k.2.1, fun d h1 h8 => ?_⟩
            rw [if_neg (by omega), if_neg (by omega)]
            exact k.2.2 d h1 h8
        · intro j hj h20
          have hj : σ.E + 1 ≤ j := hj
          show M.gn j = 0 ∧ ∀ d, 1 ≤ d → d < 8 → (if 8 * σ.E + 1 ≤ 8 * j + d ∧ 8 * j + d ≤ 8 * σ.E + σ.N then M.tg (8 * j + d - 8 * σ.E) else M.kt (8 * j + d)) = 0 ∧ (if 8 * σ.E + 1 ≤ 8 * j + d ∧ 8 * j + d ≤ 8 * σ.E + σ.N then M.hd (8 * j + d - 8 * σ.E) else M.kh (8 * j + d)) = 0
          have k := rm.kz j (by omega) h20
          refine ⟨k.1, fun d h1 h8 => ?_⟩
          rw [if_neg (by omega), if_neg (by omega)]
          exact k.2 d h1 h8
      · show (s + 19 + 19 * σ.E, true) = (s + 19 * (σ.E + 1), true)
        congr 1
        omega
    · have e1 : σ.E = 20 := by have := ok.E20; omega
      have e2 : ¬ nI σ.E < 20 := by rw [e1]; decide
      have e3 : nI σ.E = 20 := by rw [e1]; rfl
      refine ⟨.int (-104), σ, s, C, (xM.mk M.n M.tg M.hd M.wt M.fb M.kn M.mn M.rk M.rs M.rh M.E M.gn M.ks M.kt M.kh M.A M.qs M.qx M.qy (fun d => nI (σ.hd d)) M.wo M.ia M.fo M.pr M.h), ?_, ?_, ok, rc, rm_rw ok rm, rfl⟩
      · simp [I_X9_keep, E_X9_keep, zfok, zfv, zfs', ziok, ziv, zpok, zis', zlok, zlv', zls', zbok, zrok, zrv', zrs', zaok, zan, zcok, zcs', zis, zgv, zgh, zcat, zw_1, zw_21, zw_at, zclr_int, zclr_ref, zclr_null, zclr_none, zclr_long, zclr_clr, zbv_0, zbv_1, zbv_ite, zbv_ite', Value.category, xr0, xr1, xr2, xr3, xr4, xr5, xr6, xr7, xr8, xr265, xr266, xr267, xr268, xr269, xr270, xr271, xr272, xr273, xr274, xr275, xr276, xr277, xr278, xr279, xr280, xr281, xr282, xr283, xr284, xr285, xr286, xr287, xr288, xr289, xr290, xr291, xr292, xr293, xr294, xr295, xr296, xr297, xr298, xr299, xr300, xr301, xr302, xv2, xv3, xv4, xv6, xv7, xv266, xv268, xv269, xv270, xv271, xv273, xv274, xv275, xv276, xv277, xv278, xv279, xv280, xv281, xv282, xv283, xv284, xv285, xv286, xv287, xv288, xv289, xv290, xv291, xv292, xv293, xv294, xv295, xv296, xv297, xv298, xv299, xv300, xv301, xv302, znar0, znar1, znarI, zfitb, zfitb1, xC_N_mk, xC_tg_mk, xC_hd_mk, xC_wt_mk, xC_fb_mk, xC_R_mk, xC_G_mk, xC_P_mk, xC_Q_mk, xC_E_mk, xC_kr_mk, xC_ct_mk, xC_tt_mk, xC_A_mk, xC_qs_mk, xC_qx_mk, xC_qy_mk, xC_vs_mk, xC_lo_mk, xC_hg_mk, xC_ab_mk, xC_fo_mk, xC_pk_mk, xC_K_mk, xC_kd_mk, xM_n_mk, xM_tg_mk, xM_hd_mk, xM_wt_mk, xM_fb_mk, xM_kn_mk, xM_mn_mk, xM_rk_mk, xM_rs_mk, xM_rh_mk, xM_E_mk, xM_gn_mk, xM_ks_mk, xM_kt_mk, xM_kh_mk, xM_A_mk, xM_qs_mk, xM_qx_mk, xM_qy_mk, xM_rw_mk, xM_wo_mk, xM_ia_mk, xM_fo_mk, xM_pr_mk, xM_h_mk, xS_N_mk, xS_tg_mk, xS_hd_mk, xS_wt_mk, xS_fb_mk, xS_E_mk, xS_gn_mk, xS_ks_mk, xS_kt_mk, xS_kh_mk, xS_A_mk, xS_qs_mk, xS_qx_mk, xS_qy_mk, xC_eta, xM_eta, xS_eta, t1, I_X1_add, E_X1_add, rc.E, e2]
      · have he := rm.E
        rw [← he] at e3
        simp [I_X10_keep, E_X10_keep, zfok, zfv, zfs', ziok, ziv, zpok, zis', zlok, zlv', zls', zbok, zrok, zrv', zrs', zaok, zan, zcok, zcs', zis, zgv, zgh, zcat, zw_1, zw_21, zw_at, zclr_int, zclr_ref, zclr_null, zclr_none, zclr_long, zclr_clr, zbv_0, zbv_1, zbv_ite, zbv_ite', Value.category, xr0, xr1, xr2, xr3, xr4, xr5, xr6, xr7, xr8, xr265, xr266, xr267, xr268, xr269, xr270, xr271, xr272, xr273, xr274, xr275, xr276, xr277, xr278, xr279, xr280, xr281, xr282, xr283, xr284, xr285, xr286, xr287, xr288, xr289, xr290, xr291, xr292, xr293, xr294, xr295, xr296, xr297, xr298, xr299, xr300, xr301, xr302, xv2, xv3, xv4, xv6, xv7, xv266, xv268, xv269, xv270, xv271, xv273, xv274, xv275, xv276, xv277, xv278, xv279, xv280, xv281, xv282, xv283, xv284, xv285, xv286, xv287, xv288, xv289, xv290, xv291, xv292, xv293, xv294, xv295, xv296, xv297, xv298, xv299, xv300, xv301, xv302, znar0, znar1, znarI, zfitb, zfitb1, xC_N_mk, xC_tg_mk, xC_hd_mk, xC_wt_mk, xC_fb_mk, xC_R_mk, xC_G_mk, xC_P_mk, xC_Q_mk, xC_E_mk, xC_kr_mk, xC_ct_mk, xC_tt_mk, xC_A_mk, xC_qs_mk, xC_qx_mk, xC_qy_mk, xC_vs_mk, xC_lo_mk, xC_hg_mk, xC_ab_mk, xC_fo_mk, xC_pk_mk, xC_K_mk, xC_kd_mk, xM_n_mk, xM_tg_mk, xM_hd_mk, xM_wt_mk, xM_fb_mk, xM_kn_mk, xM_mn_mk, xM_rk_mk, xM_rs_mk, xM_rh_mk, xM_E_mk, xM_gn_mk, xM_ks_mk, xM_kt_mk, xM_kh_mk, xM_A_mk, xM_qs_mk, xM_qx_mk, xM_qy_mk, xM_rw_mk, xM_wo_mk, xM_ia_mk, xM_fo_mk, xM_pr_mk, xM_h_mk, xS_N_mk, xS_tg_mk, xS_hd_mk, xS_wt_mk, xS_fb_mk, xS_E_mk, xS_gn_mk, xS_ks_mk, xS_kt_mk, xS_kh_mk, xS_A_mk, xS_qs_mk, xS_qx_mk, xS_qy_mk, xC_eta, xM_eta, xS_eta, t2, e3]
  · rw [if_neg hT] at t1
    have t2 := fun C s => (t2 C s).trans (by rw [if_neg hT])
    refine ⟨.int (-103), σ, s, C, (xM.mk M.n M.tg M.hd M.wt M.fb M.kn M.mn M.rk M.rs M.rh M.E M.gn M.ks M.kt M.kh M.A M.qs M.qx M.qy (fun d => nI (σ.hd d)) M.wo M.ia M.fo M.pr M.h), ?_, ?_, ok, rc, rm_rw ok rm, rfl⟩
    · simp [I_X9_keep, E_X9_keep, zfok, zfv, zfs', ziok, ziv, zpok, zis', zlok, zlv', zls', zbok, zrok, zrv', zrs', zaok, zan, zcok, zcs', zis, zgv, zgh, zcat, zw_1, zw_21, zw_at, zclr_int, zclr_ref, zclr_null, zclr_none, zclr_long, zclr_clr, zbv_0, zbv_1, zbv_ite, zbv_ite', Value.category, xr0, xr1, xr2, xr3, xr4, xr5, xr6, xr7, xr8, xr265, xr266, xr267, xr268, xr269, xr270, xr271, xr272, xr273, xr274, xr275, xr276, xr277, xr278, xr279, xr280, xr281, xr282, xr283, xr284, xr285, xr286, xr287, xr288, xr289, xr290, xr291, xr292, xr293, xr294, xr295, xr296, xr297, xr298, xr299, xr300, xr301, xr302, xv2, xv3, xv4, xv6, xv7, xv266, xv268, xv269, xv270, xv271, xv273, xv274, xv275, xv276, xv277, xv278, xv279, xv280, xv281, xv282, xv283, xv284, xv285, xv286, xv287, xv288, xv289, xv290, xv291, xv292, xv293, xv294, xv295, xv296, xv297, xv298, xv299, xv300, xv301, xv302, znar0, znar1, znarI, zfitb, zfitb1, xC_N_mk, xC_tg_mk, xC_hd_mk, xC_wt_mk, xC_fb_mk, xC_R_mk, xC_G_mk, xC_P_mk, xC_Q_mk, xC_E_mk, xC_kr_mk, xC_ct_mk, xC_tt_mk, xC_A_mk, xC_qs_mk, xC_qx_mk, xC_qy_mk, xC_vs_mk, xC_lo_mk, xC_hg_mk, xC_ab_mk, xC_fo_mk, xC_pk_mk, xC_K_mk, xC_kd_mk, xM_n_mk, xM_tg_mk, xM_hd_mk, xM_wt_mk, xM_fb_mk, xM_kn_mk, xM_mn_mk, xM_rk_mk, xM_rs_mk, xM_rh_mk, xM_E_mk, xM_gn_mk, xM_ks_mk, xM_kt_mk, xM_kh_mk, xM_A_mk, xM_qs_mk, xM_qx_mk, xM_qy_mk, xM_rw_mk, xM_wo_mk, xM_ia_mk, xM_fo_mk, xM_pr_mk, xM_h_mk, xS_N_mk, xS_tg_mk, xS_hd_mk, xS_wt_mk, xS_fb_mk, xS_E_mk, xS_gn_mk, xS_ks_mk, xS_kt_mk, xS_kh_mk, xS_A_mk, xS_qs_mk, xS_qx_mk, xS_qy_mk, xC_eta, xM_eta, xS_eta, t1]
    · simp [I_X10_keep, E_X10_keep, zfok, zfv, zfs', ziok, ziv, zpok, zis', zlok, zlv', zls', zbok, zrok, zrv', zrs', zaok, zan, zcok, zcs', zis, zgv, zgh, zcat, zw_1, zw_21, zw_at, zclr_int, zclr_ref, zclr_null, zclr_none, zclr_long, zclr_clr, zbv_0, zbv_1, zbv_ite, zbv_ite', Value.category, xr0, xr1, xr2, xr3, xr4, xr5, xr6, xr7, xr8, xr265, xr266, xr267, xr268, xr269, xr270, xr271, xr272, xr273, xr274, xr275, xr276, xr277, xr278, xr279, xr280, xr281, xr282, xr283, xr284, xr285, xr286, xr287, xr288, xr289, xr290, xr291, xr292, xr293, xr294, xr295, xr296, xr297, xr298, xr299, xr300, xr301, xr302, xv2, xv3, xv4, xv6, xv7, xv266, xv268, xv269, xv270, xv271, xv273, xv274, xv275, xv276, xv277, xv278, xv279, xv280, xv281, xv282, xv283, xv284, xv285, xv286, xv287, xv288, xv289, xv290, xv291, xv292, xv293, xv294, xv295, xv296, xv297, xv298, xv299, xv300, xv301, xv302, znar0, znar1, znarI, zfitb, zfitb1, xC_N_mk, xC_tg_mk, xC_hd_mk, xC_wt_mk, xC_fb_mk, xC_R_mk, xC_G_mk, xC_P_mk, xC_Q_mk, xC_E_mk, xC_kr_mk, xC_ct_mk, xC_tt_mk, xC_A_mk, xC_qs_mk, xC_qx_mk, xC_qy_mk, xC_vs_mk, xC_lo_mk, xC_hg_mk, xC_ab_mk, xC_fo_mk, xC_pk_mk, xC_K_mk, xC_kd_mk, xM_n_mk, xM_tg_mk, xM_hd_mk, xM_wt_mk, xM_fb_mk, xM_kn_mk, xM_mn_mk, xM_rk_mk, xM_rs_mk, xM_rh_mk, xM_E_mk, xM_gn_mk, xM_ks_mk, xM_kt_mk, xM_kh_mk, xM_A_mk, xM_qs_mk, xM_qx_mk, xM_qy_mk, xM_rw_mk, xM_wo_mk, xM_ia_mk, xM_fo_mk, xM_pr_mk, xM_h_mk, xS_N_mk, xS_tg_mk, xS_hd_mk, xS_wt_mk, xS_fb_mk, xS_E_mk, xS_gn_mk, xS_ks_mk, xS_kt_mk, xS_kh_mk, xS_A_mk, xS_qs_mk, xS_qx_mk, xS_qy_mk, xC_eta, xM_eta, xS_eta, t2]
end KEEP
