/-! kept ones: found, recorded -/
section KEPT
variable {L s : Nat} {xs : Nat → Int32} {C : xC} {M : xM} {σ : xS} {ca : Nat → (Nat → Int32) → (Nat → Nat) → (Nat → Int64) → (Nat → Int32) → (Nat → Int32) → (Nat → Int32) → Prop}
def kpt (σ : xS) (k : Int32) : Prop := ∃ j, j < σ.E ∧ σ.gn j = 0 ∧ k = nI j
theorem x_find1 (ok : xOk σ) (rc : xRC σ C) {j : Nat} (hj : j < σ.E) (hg : σ.gn j = 0) : zC 1 [.ref 270, .int (nI j)] (xW L xs s C M) = some (some (.ref (303 + 3 * j)), xW L xs s C M) := by
  have E20 := ok.E20
  have e1 : ¬ nI σ.E ≤ nI j := by rw [zle (by omega) (by omega)]; omega
  have e2 : zin (nI j) 20 = true := zin8 (by omega) (by omega)
  have e3 : (nI j).toNatClampNeg = j := zcl7 (by omega)
  have e4 := rc.kr j hj
  rw [if_pos hg] at e4
  have e5 : ¬ nI j < 0 := zge0 (by omega)
  simp [I_X1_find, E_X1_find, zfok, zfv, zfs', ziok, ziv, zpok, zis', zlok, zlv', zls', zbok, zrok, zrv', zrs', zaok, zan, zcok, zcs', zis, zgv, zgh, zcat, zw_1, zw_21, zw_at, zclr_int, zclr_ref, zclr_null, zclr_none, zclr_long, zclr_clr, zbv_0, zbv_1, zbv_ite, zbv_ite', Value.category, xr0, xr1, xr2, xr3, xr4, xr5, xr6, xr7, xr8, xr265, xr266, xr267, xr268, xr269, xr270, xr271, xr272, xr273, xr274, xr275, xr276, xr277, xr278, xr279, xr280, xr281, xr282, xr283, xr284, xr285, xr286, xr287, xr288, xr289, xr290, xr291, xr292, xr293, xr294, xr295, xr296, xr297, xr298, xr299, xr300, xr301, xr302, xv2, xv3, xv4, xv6, xv7, xv266, xv268, xv269, xv270, xv271, xv273, xv274, xv275, xv276, xv277, xv278, xv279, xv280, xv281, xv282, xv283, xv284, xv285, xv286, xv287, xv288, xv289, xv290, xv291, xv292, xv293, xv294, xv295, xv296, xv297, xv298, xv299, xv300, xv301, xv302, znar0, znar1, znarI, zfitb, zfitb1, xC_N_mk, xC_tg_mk, xC_hd_mk, xC_wt_mk, xC_fb_mk, xC_R_mk, xC_G_mk, xC_P_mk, xC_Q_mk, xC_E_mk, xC_kr_mk, xC_ct_mk, xC_tt_mk, xC_A_mk, xC_qs_mk, xC_qx_mk, xC_qy_mk, xC_vs_mk, xC_lo_mk, xC_hg_mk, xC_ab_mk, xC_fo_mk, xC_pk_mk, xC_K_mk, xC_kd_mk, xM_n_mk, xM_tg_mk, xM_hd_mk, xM_wt_mk, xM_fb_mk, xM_kn_mk, xM_mn_mk, xM_rk_mk, xM_rs_mk, xM_rh_mk, xM_E_mk, xM_gn_mk, xM_ks_mk, xM_kt_mk, xM_kh_mk, xM_A_mk, xM_qs_mk, xM_qx_mk, xM_qy_mk, xM_rw_mk, xM_wo_mk, xM_ia_mk, xM_fo_mk, xM_pr_mk, xM_h_mk, xS_N_mk, xS_tg_mk, xS_hd_mk, xS_wt_mk, xS_fb_mk, xS_E_mk, xS_gn_mk, xS_ks_mk, xS_kt_mk, xS_kh_mk, xS_A_mk, xS_qs_mk, xS_qx_mk, xS_qy_mk, xC_eta, xM_eta, xS_eta, rc.E, e1, e2, e3, e4, e5, va_rf]
theorem x_find0 (ok : xOk σ) (rc : xRC σ C) {k : Int32} (hk : ¬ kpt σ k) : zC 1 [.ref 270, .int k] (xW L xs s C M) = some (some .null, xW L xs s C M) := by
  have E20 := ok.E20
  rcases zrange k 0 20 (by omega) (by omega) with h | h | ⟨j, _, h7, rfl⟩
  · have h : k < 0 := h
    simp [I_X1_find, E_X1_find, zfok, zfv, zfs', ziok, ziv, zpok, zis', zlok, zlv', zls', zbok, zrok, zrv', zrs', zaok, zan, zcok, zcs', zis, zgv, zgh, zcat, zw_1, zw_21, zw_at, zclr_int, zclr_ref, zclr_null, zclr_none, zclr_long, zclr_clr, zbv_0, zbv_1, zbv_ite, zbv_ite', Value.category, xr0, xr1, xr2, xr3, xr4, xr5, xr6, xr7, xr8, xr265, xr266, xr267, xr268, xr269, xr270, xr271, xr272, xr273, xr274, xr275, xr276, xr277, xr278, xr279, xr280, xr281, xr282, xr283, xr284, xr285, xr286, xr287, xr288, xr289, xr290, xr291, xr292, xr293, xr294, xr295, xr296, xr297, xr298, xr299, xr300, xr301, xr302, xv2, xv3, xv4, xv6, xv7, xv266, xv268, xv269, xv270, xv271, xv273, xv274, xv275, xv276, xv277, xv278, xv279, xv280, xv281, xv282, xv283, xv284, xv285, xv286, xv287, xv288, xv289, xv290, xv291, xv292, xv293, xv294, xv295, xv296, xv297, xv298, xv299, xv300, xv301, xv302, znar0, znar1, znarI, zfitb, zfitb1, xC_N_mk, xC_tg_mk, xC_hd_mk, xC_wt_mk, xC_fb_mk, xC_R_mk, xC_G_mk, xC_P_mk, xC_Q_mk, xC_E_mk, xC_kr_mk, xC_ct_mk, xC_tt_mk, xC_A_mk, xC_qs_mk, xC_qx_mk, xC_qy_mk, xC_vs_mk, xC_lo_mk, xC_hg_mk, xC_ab_mk, xC_fo_mk, xC_pk_mk, xC_K_mk, xC_kd_mk, xM_n_mk, xM_tg_mk, xM_hd_mk, xM_wt_mk, xM_fb_mk, xM_kn_mk, xM_mn_mk, xM_rk_mk, xM_rs_mk, xM_rh_mk, xM_E_mk, xM_gn_mk, xM_ks_mk, xM_kt_mk, xM_kh_mk, xM_A_mk, xM_qs_mk, xM_qx_mk, xM_qy_mk, xM_rw_mk, xM_wo_mk, xM_ia_mk, xM_fo_mk, xM_pr_mk, xM_h_mk, xS_N_mk, xS_tg_mk, xS_hd_mk, xS_wt_mk, xS_fb_mk, xS_E_mk, xS_gn_mk, xS_ks_mk, xS_kt_mk, xS_kh_mk, xS_A_mk, xS_qs_mk, xS_qx_mk, xS_qy_mk, xC_eta, xM_eta, xS_eta, h]
  · have h1 : nI σ.E ≤ k := by
      have : nI σ.E ≤ nI 20 := by rw [zle (by omega) (by omega)]; omega
      exact Int32.le_trans this (Int32.le_of_lt h)
    have e5 : ¬ k < 0 := fun z => by
      have := Int32.lt_trans h z
      exact absurd this (by decide)
    simp [I_X1_find, E_X1_find, zfok, zfv, zfs', ziok, ziv, zpok, zis', zlok, zlv', zls', zbok, zrok, zrv', zrs', zaok, zan, zcok, zcs', zis, zgv, zgh, zcat, zw_1, zw_21, zw_at, zclr_int, zclr_ref, zclr_null, zclr_none, zclr_long, zclr_clr, zbv_0, zbv_1, zbv_ite, zbv_ite', Value.category, xr0, xr1, xr2, xr3, xr4, xr5, xr6, xr7, xr8, xr265, xr266, xr267, xr268, xr269, xr270, xr271, xr272, xr273, xr274, xr275, xr276, xr277, xr278, xr279, xr280, xr281, xr282, xr283, xr284, xr285, xr286, xr287, xr288, xr289, xr290, xr291, xr292, xr293, xr294, xr295, xr296, xr297, xr298, xr299, xr300, xr301, xr302, xv2, xv3, xv4, xv6, xv7, xv266, xv268, xv269, xv270, xv271, xv273, xv274, xv275, xv276, xv277, xv278, xv279, xv280, xv281, xv282, xv283, xv284, xv285, xv286, xv287, xv288, xv289, xv290, xv291, xv292, xv293, xv294, xv295, xv296, xv297, xv298, xv299, xv300, xv301, xv302, znar0, znar1, znarI, zfitb, zfitb1, xC_N_mk, xC_tg_mk, xC_hd_mk, xC_wt_mk, xC_fb_mk, xC_R_mk, xC_G_mk, xC_P_mk, xC_Q_mk, xC_E_mk, xC_kr_mk, xC_ct_mk, xC_tt_mk, xC_A_mk, xC_qs_mk, xC_qx_mk, xC_qy_mk, xC_vs_mk, xC_lo_mk, xC_hg_mk, xC_ab_mk, xC_fo_mk, xC_pk_mk, xC_K_mk, xC_kd_mk, xM_n_mk, xM_tg_mk, xM_hd_mk, xM_wt_mk, xM_fb_mk, xM_kn_mk, xM_mn_mk, xM_rk_mk, xM_rs_mk, xM_rh_mk, xM_E_mk, xM_gn_mk, xM_ks_mk, xM_kt_mk, xM_kh_mk, xM_A_mk, xM_qs_mk, xM_qx_mk, xM_qy_mk, xM_rw_mk, xM_wo_mk, xM_ia_mk, xM_fo_mk, xM_pr_mk, xM_h_mk, xS_N_mk, xS_tg_mk, xS_hd_mk, xS_wt_mk, xS_fb_mk, xS_E_mk, xS_gn_mk, xS_ks_mk, xS_kt_mk, xS_kh_mk, xS_A_mk, xS_qs_mk, xS_qx_mk, xS_qy_mk, xC_eta, xM_eta, xS_eta, e5, rc.E, h1]
  · have e5 : ¬ nI j < 0 := zge0 (by omega)
    by_cases q : j < σ.E
    · have e1 : ¬ nI σ.E ≤ nI j := by rw [zle (by omega) (by omega)]; omega
      have e2 : zin (nI j) 20 = true := zin8 (by omega) (by omega)
      have e3 : (nI j).toNatClampNeg = j := zcl7 (by omega)
      have e4 := rc.kr j q
      rw [if_neg (fun z => hk ⟨j, q, z, rfl⟩)] at e4
      simp [I_X1_find, E_X1_find, zfok, zfv, zfs', ziok, ziv, zpok, zis', zlok, zlv', zls', zbok, zrok, zrv', zrs', zaok, zan, zcok, zcs', zis, zgv, zgh, zcat, zw_1, zw_21, zw_at, zclr_int, zclr_ref, zclr_null, zclr_none, zclr_long, zclr_clr, zbv_0, zbv_1, zbv_ite, zbv_ite', Value.category, xr0, xr1, xr2, xr3, xr4, xr5, xr6, xr7, xr8, xr265, xr266, xr267, xr268, xr269, xr270, xr271, xr272, xr273, xr274, xr275, xr276, xr277, xr278, xr279, xr280, xr281, xr282, xr283, xr284, xr285, xr286, xr287, xr288, xr289, xr290, xr291, xr292, xr293, xr294, xr295, xr296, xr297, xr298, xr299, xr300, xr301, xr302, xv2, xv3, xv4, xv6, xv7, xv266, xv268, xv269, xv270, xv271, xv273, xv274, xv275, xv276, xv277, xv278, xv279, xv280, xv281, xv282, xv283, xv284, xv285, xv286, xv287, xv288, xv289, xv290, xv291, xv292, xv293, xv294, xv295, xv296, xv297, xv298, xv299, xv300, xv301, xv302, znar0, znar1, znarI, zfitb, zfitb1, xC_N_mk, xC_tg_mk, xC_hd_mk, xC_wt_mk, xC_fb_mk, xC_R_mk, xC_G_mk, xC_P_mk, xC_Q_mk, xC_E_mk, xC_kr_mk, xC_ct_mk, xC_tt_mk, xC_A_mk, xC_qs_mk, xC_qx_mk, xC_qy_mk, xC_vs_mk, xC_lo_mk, xC_hg_mk, xC_ab_mk, xC_fo_mk, xC_pk_mk, xC_K_mk, xC_kd_mk, xM_n_mk, xM_tg_mk, xM_hd_mk, xM_wt_mk, xM_fb_mk, xM_kn_mk, xM_mn_mk, xM_rk_mk, xM_rs_mk, xM_rh_mk, xM_E_mk, xM_gn_mk, xM_ks_mk, xM_kt_mk, xM_kh_mk, xM_A_mk, xM_qs_mk, xM_qx_mk, xM_qy_mk, xM_rw_mk, xM_wo_mk, xM_ia_mk, xM_fo_mk, xM_pr_mk, xM_h_mk, xS_N_mk, xS_tg_mk, xS_hd_mk, xS_wt_mk, xS_fb_mk, xS_E_mk, xS_gn_mk, xS_ks_mk, xS_kt_mk, xS_kh_mk, xS_A_mk, xS_qs_mk, xS_qx_mk, xS_qy_mk, xC_eta, xM_eta, xS_eta, rc.E, e1, e2, e3, e4, e5, va_rf]
    · have e1 : nI σ.E ≤ nI j := by rw [zle (by omega) (by omega)]; omega
      simp [I_X1_find, E_X1_find, zfok, zfv, zfs', ziok, ziv, zpok, zis', zlok, zlv', zls', zbok, zrok, zrv', zrs', zaok, zan, zcok, zcs', zis, zgv, zgh, zcat, zw_1, zw_21, zw_at, zclr_int, zclr_ref, zclr_null, zclr_none, zclr_long, zclr_clr, zbv_0, zbv_1, zbv_ite, zbv_ite', Value.category, xr0, xr1, xr2, xr3, xr4, xr5, xr6, xr7, xr8, xr265, xr266, xr267, xr268, xr269, xr270, xr271, xr272, xr273, xr274, xr275, xr276, xr277, xr278, xr279, xr280, xr281, xr282, xr283, xr284, xr285, xr286, xr287, xr288, xr289, xr290, xr291, xr292, xr293, xr294, xr295, xr296, xr297, xr298, xr299, xr300, xr301, xr302, xv2, xv3, xv4, xv6, xv7, xv266, xv268, xv269, xv270, xv271, xv273, xv274, xv275, xv276, xv277, xv278, xv279, xv280, xv281, xv282, xv283, xv284, xv285, xv286, xv287, xv288, xv289, xv290, xv291, xv292, xv293, xv294, xv295, xv296, xv297, xv298, xv299, xv300, xv301, xv302, znar0, znar1, znarI, zfitb, zfitb1, xC_N_mk, xC_tg_mk, xC_hd_mk, xC_wt_mk, xC_fb_mk, xC_R_mk, xC_G_mk, xC_P_mk, xC_Q_mk, xC_E_mk, xC_kr_mk, xC_ct_mk, xC_tt_mk, xC_A_mk, xC_qs_mk, xC_qx_mk, xC_qy_mk, xC_vs_mk, xC_lo_mk, xC_hg_mk, xC_ab_mk, xC_fo_mk, xC_pk_mk, xC_K_mk, xC_kd_mk, xM_n_mk, xM_tg_mk, xM_hd_mk, xM_wt_mk, xM_fb_mk, xM_kn_mk, xM_mn_mk, xM_rk_mk, xM_rs_mk, xM_rh_mk, xM_E_mk, xM_gn_mk, xM_ks_mk, xM_kt_mk, xM_kh_mk, xM_A_mk, xM_qs_mk, xM_qx_mk, xM_qy_mk, xM_rw_mk, xM_wo_mk, xM_ia_mk, xM_fo_mk, xM_pr_mk, xM_h_mk, xS_N_mk, xS_tg_mk, xS_hd_mk, xS_wt_mk, xS_fb_mk, xS_E_mk, xS_gn_mk, xS_ks_mk, xS_kt_mk, xS_kh_mk, xS_A_mk, xS_qs_mk, xS_qx_mk, xS_qy_mk, xC_eta, xM_eta, xS_eta, rc.E, e1, e5]
theorem zE1 {n : Nat} (h : n ≤ 20) {k : Int32} : (0 ≤ k ∧ k ≤ nI n - 1) ↔ ∃ j, j < n ∧ k = nI j := by
  cases n with
  | zero =>
    constructor
    · intro z
      have := Int32.le_trans z.1 z.2
      exact absurd this (by decide)
    · rintro ⟨j, hj, _⟩; omega
  | succ n =>
    rw [nI_pred]
    constructor
    · intro z
      obtain ⟨j, hj, e⟩ := x_n (by omega) z
      exact ⟨j, by omega, e⟩
    · rintro ⟨j, hj, rfl⟩
      exact ⟨Int32.not_lt.mp (zge0 (by omega)), (zle (by omega) (by omega)).mpr (by omega)⟩
theorem m_kept1 (ok : xOk σ) (rm : xRM ca σ M) {j : Nat} (hj : j < σ.E) (hg : σ.gn j = 0) : zC 81 [.ref 283, .int (nI j)] (xW L xs s C M) = some (some (.int 1), xW L xs s C M) := by
  have E20 := ok.E20
  have e1 : 0 ≤ nI j ∧ nI j ≤ nI σ.E - 1 := (zE1 E20).mpr ⟨j, hj, rfl⟩
  have e2 : zin (nI j) 20 = true := zin8 (by omega) (by omega)
  have e3 : (nI j).toNatClampNeg = j := zcl7 (by omega)
  have e4 := (rm.k j hj).1
  rw [hg, nI_0] at e4
  simp [I_X10_isKept, E_X10_isKept, zfok, zfv, zfs', ziok, ziv, zpok, zis', zlok, zlv', zls', zbok, zrok, zrv', zrs', zaok, zan, zcok, zcs', zis, zgv, zgh, zcat, zw_1, zw_21, zw_at, zclr_int, zclr_ref, zclr_null, zclr_none, zclr_long, zclr_clr, zbv_0, zbv_1, zbv_ite, zbv_ite', Value.category, xr0, xr1, xr2, xr3, xr4, xr5, xr6, xr7, xr8, xr265, xr266, xr267, xr268, xr269, xr270, xr271, xr272, xr273, xr274, xr275, xr276, xr277, xr278, xr279, xr280, xr281, xr282, xr283, xr284, xr285, xr286, xr287, xr288, xr289, xr290, xr291, xr292, xr293, xr294, xr295, xr296, xr297, xr298, xr299, xr300, xr301, xr302, xv2, xv3, xv4, xv6, xv7, xv266, xv268, xv269, xv270, xv271, xv273, xv274, xv275, xv276, xv277, xv278, xv279, xv280, xv281, xv282, xv283, xv284, xv285, xv286, xv287, xv288, xv289, xv290, xv291, xv292, xv293, xv294, xv295, xv296, xv297, xv298, xv299, xv300, xv301, xv302, znar0, znar1, znarI, zfitb, zfitb1, xC_N_mk, xC_tg_mk, xC_hd_mk, xC_wt_mk, xC_fb_mk, xC_R_mk, xC_G_mk, xC_P_mk, xC_Q_mk, xC_E_mk, xC_kr_mk, xC_ct_mk, xC_tt_mk, xC_A_mk, xC_qs_mk, xC_qx_mk, xC_qy_mk, xC_vs_mk, xC_lo_mk, xC_hg_mk, xC_ab_mk, xC_fo_mk, xC_pk_mk, xC_K_mk, xC_kd_mk, xM_n_mk, xM_tg_mk, xM_hd_mk, xM_wt_mk, xM_fb_mk, xM_kn_mk, xM_mn_mk, xM_rk_mk, xM_rs_mk, xM_rh_mk, xM_E_mk, xM_gn_mk, xM_ks_mk, xM_kt_mk, xM_kh_mk, xM_A_mk, xM_qs_mk, xM_qx_mk, xM_qy_mk, xM_rw_mk, xM_wo_mk, xM_ia_mk, xM_fo_mk, xM_pr_mk, xM_h_mk, xS_N_mk, xS_tg_mk, xS_hd_mk, xS_wt_mk, xS_fb_mk, xS_E_mk, xS_gn_mk, xS_ks_mk, xS_kt_mk, xS_kh_mk, xS_A_mk, xS_qs_mk, xS_qx_mk, xS_qy_mk, xC_eta, xM_eta, xS_eta, rm.E, m_in, e1, e2, e3, e4]
theorem m_kept0 (ok : xOk σ) (rm : xRM ca σ M) {k : Int32} (hk : ¬ kpt σ k) : zC 81 [.ref 283, .int k] (xW L xs s C M) = some (some (.int 0), xW L xs s C M) := by
  have E20 := ok.E20
  by_cases q : 0 ≤ k ∧ k ≤ nI σ.E - 1
  · obtain ⟨j, hj, rfl⟩ := (zE1 E20).mp q
    have e2 : zin (nI j) 20 = true := zin8 (by omega) (by omega)
    have e3 : (nI j).toNatClampNeg = j := zcl7 (by omega)
    have e4 := (rm.k j hj).1
    have g1 := ok.g1 j
    have g2 : σ.gn j = 1 := by
      by_cases w : σ.gn j = 0
      · exact absurd ⟨j, hj, w, rfl⟩ hk
      · omega
    have e7 : ¬ nI 1 = 0 := by decide
    rw [g2] at e4
    simp [I_X10_isKept, E_X10_isKept, zfok, zfv, zfs', ziok, ziv, zpok, zis', zlok, zlv', zls', zbok, zrok, zrv', zrs', zaok, zan, zcok, zcs', zis, zgv, zgh, zcat, zw_1, zw_21, zw_at, zclr_int, zclr_ref, zclr_null, zclr_none, zclr_long, zclr_clr, zbv_0, zbv_1, zbv_ite, zbv_ite', Value.category, xr0, xr1, xr2, xr3, xr4, xr5, xr6, xr7, xr8, xr265, xr266, xr267, xr268, xr269, xr270, xr271, xr272, xr273, xr274, xr275, xr276, xr277, xr278, xr279, xr280, xr281, xr282, xr283, xr284, xr285, xr286, xr287, xr288, xr289, xr290, xr291, xr292, xr293, xr294, xr295, xr296, xr297, xr298, xr299, xr300, xr301, xr302, xv2, xv3, xv4, xv6, xv7, xv266, xv268, xv269, xv270, xv271, xv273, xv274, xv275, xv276, xv277, xv278, xv279, xv280, xv281, xv282, xv283, xv284, xv285, xv286, xv287, xv288, xv289, xv290, xv291, xv292, xv293, xv294, xv295, xv296, xv297, xv298, xv299, xv300, xv301, xv302, znar0, znar1, znarI, zfitb, zfitb1, xC_N_mk, xC_tg_mk, xC_hd_mk, xC_wt_mk, xC_fb_mk, xC_R_mk, xC_G_mk, xC_P_mk, xC_Q_mk, xC_E_mk, xC_kr_mk, xC_ct_mk, xC_tt_mk, xC_A_mk, xC_qs_mk, xC_qx_mk, xC_qy_mk, xC_vs_mk, xC_lo_mk, xC_hg_mk, xC_ab_mk, xC_fo_mk, xC_pk_mk, xC_K_mk, xC_kd_mk, xM_n_mk, xM_tg_mk, xM_hd_mk, xM_wt_mk, xM_fb_mk, xM_kn_mk, xM_mn_mk, xM_rk_mk, xM_rs_mk, xM_rh_mk, xM_E_mk, xM_gn_mk, xM_ks_mk, xM_kt_mk, xM_kh_mk, xM_A_mk, xM_qs_mk, xM_qx_mk, xM_qy_mk, xM_rw_mk, xM_wo_mk, xM_ia_mk, xM_fo_mk, xM_pr_mk, xM_h_mk, xS_N_mk, xS_tg_mk, xS_hd_mk, xS_wt_mk, xS_fb_mk, xS_E_mk, xS_gn_mk, xS_ks_mk, xS_kt_mk, xS_kh_mk, xS_A_mk, xS_qs_mk, xS_qx_mk, xS_qy_mk, xC_eta, xM_eta, xS_eta, rm.E, m_in, q, e2, e3, e4, e7]
  · simp [I_X10_isKept, E_X10_isKept, zfok, zfv, zfs', ziok, ziv, zpok, zis', zlok, zlv', zls', zbok, zrok, zrv', zrs', zaok, zan, zcok, zcs', zis, zgv, zgh, zcat, zw_1, zw_21, zw_at, zclr_int, zclr_ref, zclr_null, zclr_none, zclr_long, zclr_clr, zbv_0, zbv_1, zbv_ite, zbv_ite', Value.category, xr0, xr1, xr2, xr3, xr4, xr5, xr6, xr7, xr8, xr265, xr266, xr267, xr268, xr269, xr270, xr271, xr272, xr273, xr274, xr275, xr276, xr277, xr278, xr279, xr280, xr281, xr282, xr283, xr284, xr285, xr286, xr287, xr288, xr289, xr290, xr291, xr292, xr293, xr294, xr295, xr296, xr297, xr298, xr299, xr300, xr301, xr302, xv2, xv3, xv4, xv6, xv7, xv266, xv268, xv269, xv270, xv271, xv273, xv274, xv275, xv276, xv277, xv278, xv279, xv280, xv281, xv282, xv283, xv284, xv285, xv286, xv287, xv288, xv289, xv290, xv291, xv292, xv293, xv294, xv295, xv296, xv297, xv298, xv299, xv300, xv301, xv302, znar0, znar1, znarI, zfitb, zfitb1, xC_N_mk, xC_tg_mk, xC_hd_mk, xC_wt_mk, xC_fb_mk, xC_R_mk, xC_G_mk, xC_P_mk, xC_Q_mk, xC_E_mk, xC_kr_mk, xC_ct_mk, xC_tt_mk, xC_A_mk, xC_qs_mk, xC_qx_mk, xC_qy_mk, xC_vs_mk, xC_lo_mk, xC_hg_mk, xC_ab_mk, xC_fo_mk, xC_pk_mk, xC_K_mk, xC_kd_mk, xM_n_mk, xM_tg_mk, xM_hd_mk, xM_wt_mk, xM_fb_mk, xM_kn_mk, xM_mn_mk, xM_rk_mk, xM_rs_mk, xM_rh_mk, xM_E_mk, xM_gn_mk, xM_ks_mk, xM_kt_mk, xM_kh_mk, xM_A_mk, xM_qs_mk, xM_qx_mk, xM_qy_mk, xM_rw_mk, xM_wo_mk, xM_ia_mk, xM_fo_mk, xM_pr_mk, xM_h_mk, xS_N_mk, xS_tg_mk, xS_hd_mk, xS_wt_mk, xS_fb_mk, xS_E_mk, xS_gn_mk, xS_ks_mk, xS_kt_mk, xS_kh_mk, xS_A_mk, xS_qs_mk, xS_qx_mk, xS_qy_mk, xC_eta, xM_eta, xS_eta, rm.E, m_in, if_neg q]
theorem s_slot7 {h : zH} {a b sd : Nat} : zC 18 [.int (nI a), .int (nI b), .int (nI sd)] h = some (some (.int (nI ((a * 10 + b) * 2 + sd))), h) := by
  have e1 : (nI a * 10 + nI b) * 2 + nI sd = nI ((a * 10 + b) * 2 + sd) := by
    rw [show (10 : Int32) = nI 10 from rfl, show (2 : Int32) = nI 2 from rfl, pk_mul, nI_add, pk_mul, nI_add]
  simp [I_X7_slot, E_X7_slot, zfok, zfv, zfs', ziok, ziv, zpok, zis', zlok, zlv', zls', zbok, zrok, zrv', zrs', zaok, zan, zcok, zcs', zis, zgv, zgh, zcat, zw_1, zw_21, zw_at, zclr_int, zclr_ref, zclr_null, zclr_none, zclr_long, zclr_clr, zbv_0, zbv_1, zbv_ite, zbv_ite', Value.category, e1]
def zsd (p d : Nat) : Nat := if p < d then 0 else 1
def zsl (tg hd : Nat → Nat) (d : Nat) : Nat := (tg (hd d) * 10 + tg d) * 2 + zsd (hd d) d
def zct (tg hd : Nat → Nat) (st : Int32) : Nat → Nat → (Nat → Int32) → (Nat → Int32)
  | 0, _, f => f
  | c + 1, d, f => zct tg hd st c (d + 1) (upd f (zsl tg hd d) (f (zsl tg hd d) + st))
def ztt (tg : Nat → Nat) (st : Int32) : Nat → Nat → (Nat → Int32) → (Nat → Int32)
  | 0, _, f => f
  | c + 1, d, f => ztt tg st c (d + 1) (upd f (tg d) (f (tg d) + st))
theorem zsd_1 (p d : Nat) : zsd p d ≤ 1 := by unfold zsd; split <;> omega
theorem zsd_nI {p d : Nat} (hp : p < 1000000) (hd : d < 1000000) : (if nI p < nI d then (0 : Int32) else 1) = nI (zsd p d) := by
  unfold zsd
  by_cases q : p < d
  · rw [if_pos ((zlt hp hd).mpr q), if_pos q]; rfl
  · rw [if_neg (fun z => q ((zlt hp hd).mp z)), if_neg q]; rfl
theorem l_record {o t q n : Nat} {tg hd : Nat → Nat} (od : dOk n tg hd) (hD : ∀ ct tt, (xW L xs s (xC.mk C.N C.tg C.hd C.wt C.fb C.R C.G C.P C.Q C.E C.kr ct tt C.A C.qs C.qx C.qy C.vs C.lo C.hg C.ab C.fo C.pk C.K C.kd) M).2.2 o = .inr (3, [.ref t, .ref q, .int (nI n)])) (ht : ∀ ct tt, (xW L xs s (xC.mk C.N C.tg C.hd C.wt C.fb C.R C.G C.P C.Q C.E C.kr ct tt C.A C.qs C.qx C.qy C.vs C.lo C.hg C.ab C.fo C.pk C.K C.kd) M).2.2 t = .inl (0, 8, .inl (fun d => nI (tg d)))) (hq : ∀ ct tt, (xW L xs s (xC.mk C.N C.tg C.hd C.wt C.fb C.R C.G C.P C.Q C.E C.kr ct tt C.A C.qs C.qx C.qy C.vs C.lo C.hg C.ab C.fo C.pk C.K C.kd) M).2.2 q = .inl (0, 8, .inl (fun d => nI (hd d)))) {st : Int32} :
    ∀ (c d : Nat) (ct tt : Nat → Int32) (l4 : Option Value), c + d = n + 1 → 1 ≤ d → zD 64 2 [some (.ref 272), some (.ref o), some (.int st), some (.int (nI d)), l4] [] (xW L xs s (xC.mk C.N C.tg C.hd C.wt C.fb C.R C.G C.P C.Q C.E C.kr ct tt C.A C.qs C.qx C.qy C.vs C.lo C.hg C.ab C.fo C.pk C.K C.kd) M) = some (none, xW L xs s (xC.mk C.N C.tg C.hd C.wt C.fb C.R C.G C.P C.Q C.E C.kr (zct tg hd st c d ct) (ztt tg st c d tt) C.A C.qs C.qx C.qy C.vs C.lo C.hg C.ab C.fo C.pk C.K C.kd) M)
  | 0, d, ct, tt, l4, h, h1 => by
    have n7 := od.n7
    have e1 : nI n < nI d := by rw [zlt (by omega) (by omega)]; omega
    rw [E_X7_record_h2]
    simp [E_X7_record, zfok, zfv, zfs', ziok, ziv, zpok, zis', zlok, zlv', zls', zbok, zrok, zrv', zrs', zaok, zan, zcok, zcs', zis, zgv, zgh, zcat, zw_1, zw_21, zw_at, zclr_int, zclr_ref, zclr_null, zclr_none, zclr_long, zclr_clr, zbv_0, zbv_1, zbv_ite, zbv_ite', Value.category, xr0, xr1, xr2, xr3, xr4, xr5, xr6, xr7, xr8, xr265, xr266, xr267, xr268, xr269, xr270, xr271, xr272, xr273, xr274, xr275, xr276, xr277, xr278, xr279, xr280, xr281, xr282, xr283, xr284, xr285, xr286, xr287, xr288, xr289, xr290, xr291, xr292, xr293, xr294, xr295, xr296, xr297, xr298, xr299, xr300, xr301, xr302, xv2, xv3, xv4, xv6, xv7, xv266, xv268, xv269, xv270, xv271, xv273, xv274, xv275, xv276, xv277, xv278, xv279, xv280, xv281, xv282, xv283, xv284, xv285, xv286, xv287, xv288, xv289, xv290, xv291, xv292, xv293, xv294, xv295, xv296, xv297, xv298, xv299, xv300, xv301, xv302, znar0, znar1, znarI, zfitb, zfitb1, xC_N_mk, xC_tg_mk, xC_hd_mk, xC_wt_mk, xC_fb_mk, xC_R_mk, xC_G_mk, xC_P_mk, xC_Q_mk, xC_E_mk, xC_kr_mk, xC_ct_mk, xC_tt_mk, xC_A_mk, xC_qs_mk, xC_qx_mk, xC_qy_mk, xC_vs_mk, xC_lo_mk, xC_hg_mk, xC_ab_mk, xC_fo_mk, xC_pk_mk, xC_K_mk, xC_kd_mk, xM_n_mk, xM_tg_mk, xM_hd_mk, xM_wt_mk, xM_fb_mk, xM_kn_mk, xM_mn_mk, xM_rk_mk, xM_rs_mk, xM_rh_mk, xM_E_mk, xM_gn_mk, xM_ks_mk, xM_kt_mk, xM_kh_mk, xM_A_mk, xM_qs_mk, xM_qx_mk, xM_qy_mk, xM_rw_mk, xM_wo_mk, xM_ia_mk, xM_fo_mk, xM_pr_mk, xM_h_mk, xS_N_mk, xS_tg_mk, xS_hd_mk, xS_wt_mk, xS_fb_mk, xS_E_mk, xS_gn_mk, xS_ks_mk, xS_kt_mk, xS_kh_mk, xS_A_mk, xS_qs_mk, xS_qx_mk, xS_qy_mk, xC_eta, xM_eta, xS_eta, hD, e1, zct, ztt]
  | c + 1, d, ct, tt, l4, h, h1 => by
    have n7 := od.n7
    have e1 : ¬ nI n < nI d := by rw [zlt (by omega) (by omega)]; omega
    have e2 : zin (nI d) 8 = true := zin8 (by omega) (by omega)
    have e3 : (nI d).toNatClampNeg = d := zcl7 (by omega)
    have hn := od.hn d
    have e4 : zin (nI (hd d)) 8 = true := zin8 (by omega) (by omega)
    have e5 : (nI (hd d)).toNatClampNeg = hd d := zcl7 (by omega)
    have e6 : nI d + 1 = nI (d + 1) := nI_1 d
    have e7 := zsd_nI (p := hd d) (d := d) (by omega) (by omega)
    have t10 : tg (hd d) ≤ 10 := by
      by_cases w : hd d = 0
      · rw [w, od.t0]; omega
      · have := od.t9 (hd d) (by omega); omega
    have t9 := od.t9 d h1
    have s1 := zsd_1 (hd d) d
    have sl : zsl tg hd d < 220 := by unfold zsl; omega
    have e8 : zin (nI (zsl tg hd d)) 220 = true := zin8 (by omega) (by omega)
    have e9 : (nI (zsl tg hd d)).toNatClampNeg = zsl tg hd d := zcl7 (by omega)
    have f8 : zin (nI (tg d)) 10 = true := zin8 (by omega) (by omega)
    have f9 : (nI (tg d)).toNatClampNeg = tg d := zcl7 (by omega)
    have k1 := l_record od hD ht hq (st := st) c (d + 1) (upd ct (zsl tg hd d) (ct (zsl tg hd d) + st)) (upd tt (tg d) (tt (tg d) + st)) (some (.int (nI (hd d)))) (by omega) (by omega)
    have sl2 := fun h => s_slot7 (h := h) (a := tg (hd d)) (b := tg d) (sd := zsd (hd d) d)
    rw [show (tg (hd d) * 10 + tg d) * 2 + zsd (hd d) d = zsl tg hd d from rfl] at sl2
    rw [E_X7_record_h2]
    simp [E_X7_record, zfok, zfv, zfs', ziok, ziv, zpok, zis', zlok, zlv', zls', zbok, zrok, zrv', zrs', zaok, zan, zcok, zcs', zis, zgv, zgh, zcat, zw_1, zw_21, zw_at, zclr_int, zclr_ref, zclr_null, zclr_none, zclr_long, zclr_clr, zbv_0, zbv_1, zbv_ite, zbv_ite', Value.category, xr0, xr1, xr2, xr3, xr4, xr5, xr6, xr7, xr8, xr265, xr266, xr267, xr268, xr269, xr270, xr271, xr272, xr273, xr274, xr275, xr276, xr277, xr278, xr279, xr280, xr281, xr282, xr283, xr284, xr285, xr286, xr287, xr288, xr289, xr290, xr291, xr292, xr293, xr294, xr295, xr296, xr297, xr298, xr299, xr300, xr301, xr302, xv2, xv3, xv4, xv6, xv7, xv266, xv268, xv269, xv270, xv271, xv273, xv274, xv275, xv276, xv277, xv278, xv279, xv280, xv281, xv282, xv283, xv284, xv285, xv286, xv287, xv288, xv289, xv290, xv291, xv292, xv293, xv294, xv295, xv296, xv297, xv298, xv299, xv300, xv301, xv302, znar0, znar1, znarI, zfitb, zfitb1, xC_N_mk, xC_tg_mk, xC_hd_mk, xC_wt_mk, xC_fb_mk, xC_R_mk, xC_G_mk, xC_P_mk, xC_Q_mk, xC_E_mk, xC_kr_mk, xC_ct_mk, xC_tt_mk, xC_A_mk, xC_qs_mk, xC_qx_mk, xC_qy_mk, xC_vs_mk, xC_lo_mk, xC_hg_mk, xC_ab_mk, xC_fo_mk, xC_pk_mk, xC_K_mk, xC_kd_mk, xM_n_mk, xM_tg_mk, xM_hd_mk, xM_wt_mk, xM_fb_mk, xM_kn_mk, xM_mn_mk, xM_rk_mk, xM_rs_mk, xM_rh_mk, xM_E_mk, xM_gn_mk, xM_ks_mk, xM_kt_mk, xM_kh_mk, xM_A_mk, xM_qs_mk, xM_qx_mk, xM_qy_mk, xM_rw_mk, xM_wo_mk, xM_ia_mk, xM_fo_mk, xM_pr_mk, xM_h_mk, xS_N_mk, xS_tg_mk, xS_hd_mk, xS_wt_mk, xS_fb_mk, xS_E_mk, xS_gn_mk, xS_ks_mk, xS_kt_mk, xS_kh_mk, xS_A_mk, xS_qs_mk, xS_qx_mk, xS_qy_mk, xC_eta, xM_eta, xS_eta, hD, ht, hq, e1, e2, e3, e4, e5, e6, e7, e8, e9, f8, f9, s_sideOf, sl2]
    rw [k1]
    rfl
theorem s_record {o t q n : Nat} {tg hd : Nat → Nat} (od : dOk n tg hd) (hD : ∀ ct tt, (xW L xs s (xC.mk C.N C.tg C.hd C.wt C.fb C.R C.G C.P C.Q C.E C.kr ct tt C.A C.qs C.qx C.qy C.vs C.lo C.hg C.ab C.fo C.pk C.K C.kd) M).2.2 o = .inr (3, [.ref t, .ref q, .int (nI n)])) (ht : ∀ ct tt, (xW L xs s (xC.mk C.N C.tg C.hd C.wt C.fb C.R C.G C.P C.Q C.E C.kr ct tt C.A C.qs C.qx C.qy C.vs C.lo C.hg C.ab C.fo C.pk C.K C.kd) M).2.2 t = .inl (0, 8, .inl (fun d => nI (tg d)))) (hq : ∀ ct tt, (xW L xs s (xC.mk C.N C.tg C.hd C.wt C.fb C.R C.G C.P C.Q C.E C.kr ct tt C.A C.qs C.qx C.qy C.vs C.lo C.hg C.ab C.fo C.pk C.K C.kd) M).2.2 q = .inl (0, 8, .inl (fun d => nI (hd d)))) {st : Int32} :
    zC 64 [.ref 272, .ref o, .int st] (xW L xs s C M) = some (none, xW L xs s (xC.mk C.N C.tg C.hd C.wt C.fb C.R C.G C.P C.Q C.E C.kr (zct tg hd st n 1 C.ct) (ztt tg st n 1 C.tt) C.A C.qs C.qx C.qy C.vs C.lo C.hg C.ab C.fo C.pk C.K C.kd) M) := by
  have k := l_record od hD ht hq (st := st) n 1 C.ct C.tt none (by omega) (by omega)
  rw [xC_eta] at k
  simp only [I_X7_record, E_X7_record]
  exact k
theorem zct_val {tg hd : Nat → Nat} {st : Int32} : ∀ (c d : Nat) (f : Nat → Int32) (k : Nat), zct tg hd st c d f k = f k + st * nI (zcnt (fun x => decide (zsl tg hd x = k)) c d)
  | 0, d, f, k => by
    rw [zct, zcnt, nI_0]; grind
  | c + 1, d, f, k => by
    rw [zct, zct_val c (d + 1), zcnt]
    unfold upd
    by_cases q : k = zsl tg hd d
    · rw [if_pos q, ← q, show decide (k = k) = true by simp, if_pos rfl, ← nI_add, show nI 1 = 1 from rfl]
      grind
    · rw [if_neg q, show decide (zsl tg hd d = k) = false by simp; exact fun z => q z.symm]
      simp
theorem ztt_val {tg : Nat → Nat} {st : Int32} : ∀ (c d : Nat) (f : Nat → Int32) (k : Nat), ztt tg st c d f k = f k + st * nI (zcnt (fun x => decide (tg x = k)) c d)
  | 0, d, f, k => by
    rw [ztt, zcnt, nI_0]; grind
  | c + 1, d, f, k => by
    rw [ztt, ztt_val c (d + 1), zcnt]
    unfold upd
    by_cases q : k = tg d
    · rw [if_pos q, ← q, show decide (k = k) = true by simp, if_pos rfl, ← nI_add, show nI 1 = 1 from rfl]
      grind
    · rw [if_neg q, show decide (tg d = k) = false by simp; exact fun z => q z.symm]
      simp
theorem zct_kcn {n : Nat} {tg hd : Nat → Nat} (od : dOk n tg hd) {st : Int32} {f : Nat → Int32} {a b sd : Nat} (hb : b ≤ 9) (hs : sd ≤ 1) : zct tg hd st n 1 f ((a * 10 + b) * 2 + sd) = f ((a * 10 + b) * 2 + sd) + st * nI (kcn n tg hd a b sd) := by
  rw [zct_val]
  unfold kcn
  rw [zcnt_congr (Q := fun d => decide (tg (hd d) = a ∧ tg d = b ∧ (if hd d < d then 0 else 1) = sd))]
  intro k h1 h2
  have t9 := od.t9 k h1
  have s1 := zsd_1 (hd k) k
  apply decide_eq_decide.mpr
  unfold zsl
  rw [show (if hd k < k then 0 else 1) = zsd (hd k) k from rfl]
  omega
theorem ksum_snoc {gn g : Nat → Nat} : ∀ (c j : Nat), ksum gn g (c + 1) j = ksum gn g c j + (if gn (j + c) = 0 then g (j + c) else 0)
  | 0, j => by simp [ksum]
  | c + 1, j => by
    rw [ksum, ksum_snoc c (j + 1), ksum, show j + 1 + c = j + (c + 1) by omega]
    omega
theorem ksum_congr {gn gn' g g' : Nat → Nat} : ∀ (c j : Nat), (∀ i, j ≤ i → i < j + c → gn i = gn' i ∧ g i = g' i) → ksum gn g c j = ksum gn' g' c j
  | 0, _, _ => rfl
  | c + 1, j, h => by
    have := h j (by omega) (by omega)
    rw [ksum, ksum, this.1, this.2, ksum_congr c (j + 1) (fun i h1 h2 => h i (by omega) (by omega))]
theorem ksum_rem {gn g : Nat → Nat} {i : Nat} (hg : gn i = 0) : ∀ (c j : Nat), j ≤ i → i < j + c → ksum gn g c j = ksum (zupd gn i 1) g c j + g i
  | 0, _, h1, h2 => absurd h2 (by omega)
  | c + 1, j, h1, h2 => by
    rw [ksum, ksum]
    by_cases q : i = j
    · subst q
      rw [if_pos hg, if_neg (by simp [zupd]), ksum_congr c (i + 1) (gn' := zupd gn i 1) (g' := g) (fun k a b => ⟨by unfold zupd; rw [if_neg (by omega)], rfl⟩)]
      omega
    · rw [ksum_rem hg c (j + 1) (by omega) (by omega), show zupd gn i 1 j = gn j by unfold zupd; rw [if_neg (by omega)]]
      omega
theorem x_kd {j : Nat} (rc : xRC σ C) (hj : j < σ.E) : (xW L xs s C M).2.2 (303 + 3 * j) = .inr (3, [.ref (303 + 3 * j + 1), .ref (303 + 3 * j + 2), .int (nI (σ.ks j))]) ∧ (xW L xs s C M).2.2 (303 + 3 * j + 1) = .inl (0, 8, .inl (fun d => nI (σ.kt j d))) ∧ (xW L xs s C M).2.2 (303 + 3 * j + 2) = .inl (0, 8, .inl (fun d => nI (σ.kh j d))) := by
  have hK : j < C.K := by rw [rc.K]; exact hj
  rw [xk0 hK, xk1 hK, xk2 hK, rc.kd j hj]
  exact ⟨rfl, rfl, rfl⟩
theorem nI_m1 (a b : Nat) : nI (a + b) + -1 * nI b = nI a := by
  rw [← nI_add]; grind
theorem c_forget (ok : xOk σ) (rc : xRC σ C) (rm : xRM ca σ M) (k : Int32) : xOut ca 109 121 [.int k] [.int k] L xs s C M σ := by
  by_cases hk : kpt σ k
  · obtain ⟨j, hj, hg, rfl⟩ := hk
    have E20 := ok.E20
    have od := ok.kd j hj
    have e1 := x_find1 (L := L) (s := s) (xs := xs) (M := M) ok rc hj hg
    have e2 : zin (nI j) 20 = true := zin8 (by omega) (by omega)
    have e3 : (nI j).toNatClampNeg = j := zcl7 (by omega)
    have hK : ∀ ct tt, j < ((xC.mk C.N C.tg C.hd C.wt C.fb C.R C.G C.P C.Q C.E (va_up C.kr j none) ct tt C.A C.qs C.qx C.qy C.vs C.lo C.hg C.ab C.fo C.pk C.K C.kd)).K := fun ct tt => by rw [xC_K_mk, rc.K]; exact hj
    have r1 := s_record (L := L) (xs := xs) (s := s) (M := M) (C := (xC.mk C.N C.tg C.hd C.wt C.fb C.R C.G C.P C.Q C.E (va_up C.kr j none) C.ct C.tt C.A C.qs C.qx C.qy C.vs C.lo C.hg C.ab C.fo C.pk C.K C.kd)) (o := 303 + 3 * j) (t := 303 + 3 * j + 1) (q := 303 + 3 * j + 2) (st := -1) od (fun ct tt => by have z := xk0 (L := L) (xs := xs) (s := s) (M := M) (hK ct tt); rw [xC_kd_mk, rc.kd j hj] at z; exact z) (fun ct tt => by have z := xk1 (L := L) (xs := xs) (s := s) (M := M) (hK ct tt); rw [xC_kd_mk, rc.kd j hj] at z; exact z) (fun ct tt => by have z := xk2 (L := L) (xs := xs) (s := s) (M := M) (hK ct tt); rw [xC_kd_mk, rc.kd j hj] at z; exact z)
    refine ⟨.int (nI (σ.ks j)), (xS.mk σ.N σ.tg σ.hd σ.wt σ.fb σ.E (zupd σ.gn j 1) σ.ks σ.kt σ.kh σ.A σ.qs σ.qx σ.qy), s, (xC.mk C.N C.tg C.hd C.wt C.fb C.R C.G C.P C.Q C.E (va_up C.kr j none) (zct (σ.kt j) (σ.kh j) (-1) (σ.ks j) 1 C.ct) (ztt (σ.kt j) (-1) (σ.ks j) 1 C.tt) C.A C.qs C.qx C.qy C.vs C.lo C.hg C.ab C.fo C.pk C.K C.kd), (xM.mk M.n M.tg M.hd M.wt M.fb M.kn M.mn M.rk M.rs M.rh M.E (upd M.gn j 1) M.ks M.kt M.kh M.A M.qs M.qx M.qy M.rw M.wo M.ia M.fo M.pr M.h), ?_, ?_, ?_, ?_, ?_, rfl⟩
    · have f1 := xk0 (L := L) (xs := xs) (s := s) (M := M) (hK C.ct C.tt)
      have f2 := xk0 (L := L) (xs := xs) (s := s) (M := M) (hK (zct (σ.kt j) (σ.kh j) (-1) (σ.ks j) 1 C.ct) (ztt (σ.kt j) (-1) (σ.ks j) 1 C.tt))
      rw [xC_kd_mk, rc.kd j hj] at f1 f2
      simp only [xC_N_mk, xC_tg_mk, xC_hd_mk, xC_wt_mk, xC_fb_mk, xC_R_mk, xC_G_mk, xC_P_mk, xC_Q_mk, xC_E_mk, xC_kr_mk, xC_ct_mk, xC_tt_mk, xC_A_mk, xC_qs_mk, xC_qx_mk, xC_qy_mk, xC_vs_mk, xC_lo_mk, xC_hg_mk, xC_ab_mk, xC_fo_mk, xC_pk_mk, xC_K_mk, xC_kd_mk, xM_n_mk, xM_tg_mk, xM_hd_mk, xM_wt_mk, xM_fb_mk, xM_kn_mk, xM_mn_mk, xM_rk_mk, xM_rs_mk, xM_rh_mk, xM_E_mk, xM_gn_mk, xM_ks_mk, xM_kt_mk, xM_kh_mk, xM_A_mk, xM_qs_mk, xM_qx_mk, xM_qy_mk, xM_rw_mk, xM_wo_mk, xM_ia_mk, xM_fo_mk, xM_pr_mk, xM_h_mk, xS_N_mk, xS_tg_mk, xS_hd_mk, xS_wt_mk, xS_fb_mk, xS_E_mk, xS_gn_mk, xS_ks_mk, xS_kt_mk, xS_kh_mk, xS_A_mk, xS_qs_mk, xS_qx_mk, xS_qy_mk, xC_eta, xM_eta, xS_eta] at r1
      simp [I_X9_forget, E_X9_forget, I_X1_remove, E_X1_remove, zfok, zfv, zfs', ziok, ziv, zpok, zis', zlok, zlv', zls', zbok, zrok, zrv', zrs', zaok, zan, zcok, zcs', zis, zgv, zgh, zcat, zw_1, zw_21, zw_at, zclr_int, zclr_ref, zclr_null, zclr_none, zclr_long, zclr_clr, zbv_0, zbv_1, zbv_ite, zbv_ite', Value.category, xr0, xr1, xr2, xr3, xr4, xr5, xr6, xr7, xr8, xr265, xr266, xr267, xr268, xr269, xr270, xr271, xr272, xr273, xr274, xr275, xr276, xr277, xr278, xr279, xr280, xr281, xr282, xr283, xr284, xr285, xr286, xr287, xr288, xr289, xr290, xr291, xr292, xr293, xr294, xr295, xr296, xr297, xr298, xr299, xr300, xr301, xr302, xv2, xv3, xv4, xv6, xv7, xv266, xv268, xv269, xv270, xv271, xv273, xv274, xv275, xv276, xv277, xv278, xv279, xv280, xv281, xv282, xv283, xv284, xv285, xv286, xv287, xv288, xv289, xv290, xv291, xv292, xv293, xv294, xv295, xv296, xv297, xv298, xv299, xv300, xv301, xv302, znar0, znar1, znarI, zfitb, zfitb1, xC_N_mk, xC_tg_mk, xC_hd_mk, xC_wt_mk, xC_fb_mk, xC_R_mk, xC_G_mk, xC_P_mk, xC_Q_mk, xC_E_mk, xC_kr_mk, xC_ct_mk, xC_tt_mk, xC_A_mk, xC_qs_mk, xC_qx_mk, xC_qy_mk, xC_vs_mk, xC_lo_mk, xC_hg_mk, xC_ab_mk, xC_fo_mk, xC_pk_mk, xC_K_mk, xC_kd_mk, xM_n_mk, xM_tg_mk, xM_hd_mk, xM_wt_mk, xM_fb_mk, xM_kn_mk, xM_mn_mk, xM_rk_mk, xM_rs_mk, xM_rh_mk, xM_E_mk, xM_gn_mk, xM_ks_mk, xM_kt_mk, xM_kh_mk, xM_A_mk, xM_qs_mk, xM_qx_mk, xM_qy_mk, xM_rw_mk, xM_wo_mk, xM_ia_mk, xM_fo_mk, xM_pr_mk, xM_h_mk, xS_N_mk, xS_tg_mk, xS_hd_mk, xS_wt_mk, xS_fb_mk, xS_E_mk, xS_gn_mk, xS_ks_mk, xS_kt_mk, xS_kh_mk, xS_A_mk, xS_qs_mk, xS_qx_mk, xS_qy_mk, xC_eta, xM_eta, xS_eta, e1, e2, e3, r1, f1, f2]
    · have m1 := m_kept1 (L := L) (s := s) (xs := xs) (C := (xC.mk C.N C.tg C.hd C.wt C.fb C.R C.G C.P C.Q C.E (va_up C.kr j none) (zct (σ.kt j) (σ.kh j) (-1) (σ.ks j) 1 C.ct) (ztt (σ.kt j) (-1) (σ.ks j) 1 C.tt) C.A C.qs C.qx C.qy C.vs C.lo C.hg C.ab C.fo C.pk C.K C.kd)) ok rm hj hg
      have m2 := (rm.k j hj).2.1
      simp [I_X10_forget, E_X10_forget, zfok, zfv, zfs', ziok, ziv, zpok, zis', zlok, zlv', zls', zbok, zrok, zrv', zrs', zaok, zan, zcok, zcs', zis, zgv, zgh, zcat, zw_1, zw_21, zw_at, zclr_int, zclr_ref, zclr_null, zclr_none, zclr_long, zclr_clr, zbv_0, zbv_1, zbv_ite, zbv_ite', Value.category, xr0, xr1, xr2, xr3, xr4, xr5, xr6, xr7, xr8, xr265, xr266, xr267, xr268, xr269, xr270, xr271, xr272, xr273, xr274, xr275, xr276, xr277, xr278, xr279, xr280, xr281, xr282, xr283, xr284, xr285, xr286, xr287, xr288, xr289, xr290, xr291, xr292, xr293, xr294, xr295, xr296, xr297, xr298, xr299, xr300, xr301, xr302, xv2, xv3, xv4, xv6, xv7, xv266, xv268, xv269, xv270, xv271, xv273, xv274, xv275, xv276, xv277, xv278, xv279, xv280, xv281, xv282, xv283, xv284, xv285, xv286, xv287, xv288, xv289, xv290, xv291, xv292, xv293, xv294, xv295, xv296, xv297, xv298, xv299, xv300, xv301, xv302, znar0, znar1, znarI, zfitb, zfitb1, xC_N_mk, xC_tg_mk, xC_hd_mk, xC_wt_mk, xC_fb_mk, xC_R_mk, xC_G_mk, xC_P_mk, xC_Q_mk, xC_E_mk, xC_kr_mk, xC_ct_mk, xC_tt_mk, xC_A_mk, xC_qs_mk, xC_qx_mk, xC_qy_mk, xC_vs_mk, xC_lo_mk, xC_hg_mk, xC_ab_mk, xC_fo_mk, xC_pk_mk, xC_K_mk, xC_kd_mk, xM_n_mk, xM_tg_mk, xM_hd_mk, xM_wt_mk, xM_fb_mk, xM_kn_mk, xM_mn_mk, xM_rk_mk, xM_rs_mk, xM_rh_mk, xM_E_mk, xM_gn_mk, xM_ks_mk, xM_kt_mk, xM_kh_mk, xM_A_mk, xM_qs_mk, xM_qx_mk, xM_qy_mk, xM_rw_mk, xM_wo_mk, xM_ia_mk, xM_fo_mk, xM_pr_mk, xM_h_mk, xS_N_mk, xS_tg_mk, xS_hd_mk, xS_wt_mk, xS_fb_mk, xS_E_mk, xS_gn_mk, xS_ks_mk, xS_kt_mk, xS_kh_mk, xS_A_mk, xS_qs_mk, xS_qx_mk, xS_qy_mk, xC_eta, xM_eta, xS_eta, m1, m2, e2, e3]
    · refine (xOk.mk ok.d ok.w1 ok.wz ok.f1 ok.fz ok.E20 ?_ ok.kd ok.ktr ok.A6 ok.q4)
      intro i
      show zupd σ.gn j 1 i ≤ 1
      unfold zupd
      split
      · omega
      · exact ok.g1 i
    · refine (xRC.mk rc.N rc.tg rc.hd rc.wt rc.fb rc.R rc.E rc.K ?_ rc.kd ?_ ?_ rc.A rc.q)
      · intro i hi
        show va_up C.kr j none i = if zupd σ.gn j 1 i = 0 then _ else _
        unfold va_up zupd
        by_cases q : i = j
        · simp [q]
        · rw [if_neg q, if_neg q]
          exact rc.kr i hi
      · intro a b sd ha hb hs
        show zct (σ.kt j) (σ.kh j) (-1) (σ.ks j) 1 C.ct _ = nI (ksum (zupd σ.gn j 1) (fun j => kcn (σ.ks j) (σ.kt j) (σ.kh j) a b sd) σ.E 0)
        rw [zct_kcn od hb hs, rc.ct a b sd ha hb hs]
        unfold xcn
        rw [ksum_rem hg σ.E 0 (by omega) (by omega)]
        exact nI_m1 _ _
      · intro b hb
        show ztt (σ.kt j) (-1) (σ.ks j) 1 C.tt b = nI (ksum (zupd σ.gn j 1) (fun j => kbn (σ.ks j) (σ.kt j) b) σ.E 0)
        rw [ztt_val, rc.tt b hb]
        unfold xtn
        rw [ksum_rem hg σ.E 0 (by omega) (by omega)]
        exact nI_m1 _ _
    · refine (xRM.mk rm.N rm.tg rm.hd rm.wt rm.fb rm.kn rm.E ?_ ?_ rm.A rm.q rm.rw)
      · intro i hi
        refine ⟨?_, (rm.k i hi).2⟩
        show upd M.gn j 1 i = nI (zupd σ.gn j 1 i)
        unfold upd zupd
        by_cases q : i = j
        · simp [q]; rfl
        · rw [if_neg q, if_neg q]
          exact (rm.k i hi).1
      · intro i hi h20
        have hi : σ.E ≤ i := hi
        refine ⟨?_, (rm.kz i hi h20).2⟩
        show upd M.gn j 1 i = 0
        unfold upd
        rw [if_neg (by omega)]
        exact (rm.kz i hi h20).1
  · have e1 := x_find0 (L := L) (s := s) (xs := xs) (M := M) ok rc hk
    have m1 := m_kept0 (L := L) (s := s) (xs := xs) (C := C) ok rm hk
    refine ⟨.int (-101), σ, s, C, M, ?_, ?_, ok, rc, rm, rfl⟩
    · simp [I_X9_forget, E_X9_forget, I_X1_remove, E_X1_remove, zfok, zfv, zfs', ziok, ziv, zpok, zis', zlok, zlv', zls', zbok, zrok, zrv', zrs', zaok, zan, zcok, zcs', zis, zgv, zgh, zcat, zw_1, zw_21, zw_at, zclr_int, zclr_ref, zclr_null, zclr_none, zclr_long, zclr_clr, zbv_0, zbv_1, zbv_ite, zbv_ite', Value.category, xr0, xr1, xr2, xr3, xr4, xr5, xr6, xr7, xr8, xr265, xr266, xr267, xr268, xr269, xr270, xr271, xr272, xr273, xr274, xr275, xr276, xr277, xr278, xr279, xr280, xr281, xr282, xr283, xr284, xr285, xr286, xr287, xr288, xr289, xr290, xr291, xr292, xr293, xr294, xr295, xr296, xr297, xr298, xr299, xr300, xr301, xr302, xv2, xv3, xv4, xv6, xv7, xv266, xv268, xv269, xv270, xv271, xv273, xv274, xv275, xv276, xv277, xv278, xv279, xv280, xv281, xv282, xv283, xv284, xv285, xv286, xv287, xv288, xv289, xv290, xv291, xv292, xv293, xv294, xv295, xv296, xv297, xv298, xv299, xv300, xv301, xv302, znar0, znar1, znarI, zfitb, zfitb1, xC_N_mk, xC_tg_mk, xC_hd_mk, xC_wt_mk, xC_fb_mk, xC_R_mk, xC_G_mk, xC_P_mk, xC_Q_mk, xC_E_mk, xC_kr_mk, xC_ct_mk, xC_tt_mk, xC_A_mk, xC_qs_mk, xC_qx_mk, xC_qy_mk, xC_vs_mk, xC_lo_mk, xC_hg_mk, xC_ab_mk, xC_fo_mk, xC_pk_mk, xC_K_mk, xC_kd_mk, xM_n_mk, xM_tg_mk, xM_hd_mk, xM_wt_mk, xM_fb_mk, xM_kn_mk, xM_mn_mk, xM_rk_mk, xM_rs_mk, xM_rh_mk, xM_E_mk, xM_gn_mk, xM_ks_mk, xM_kt_mk, xM_kh_mk, xM_A_mk, xM_qs_mk, xM_qx_mk, xM_qy_mk, xM_rw_mk, xM_wo_mk, xM_ia_mk, xM_fo_mk, xM_pr_mk, xM_h_mk, xS_N_mk, xS_tg_mk, xS_hd_mk, xS_wt_mk, xS_fb_mk, xS_E_mk, xS_gn_mk, xS_ks_mk, xS_kt_mk, xS_kh_mk, xS_A_mk, xS_qs_mk, xS_qx_mk, xS_qy_mk, xC_eta, xM_eta, xS_eta, e1]
    · simp [I_X10_forget, E_X10_forget, zfok, zfv, zfs', ziok, ziv, zpok, zis', zlok, zlv', zls', zbok, zrok, zrv', zrs', zaok, zan, zcok, zcs', zis, zgv, zgh, zcat, zw_1, zw_21, zw_at, zclr_int, zclr_ref, zclr_null, zclr_none, zclr_long, zclr_clr, zbv_0, zbv_1, zbv_ite, zbv_ite', Value.category, xr0, xr1, xr2, xr3, xr4, xr5, xr6, xr7, xr8, xr265, xr266, xr267, xr268, xr269, xr270, xr271, xr272, xr273, xr274, xr275, xr276, xr277, xr278, xr279, xr280, xr281, xr282, xr283, xr284, xr285, xr286, xr287, xr288, xr289, xr290, xr291, xr292, xr293, xr294, xr295, xr296, xr297, xr298, xr299, xr300, xr301, xr302, xv2, xv3, xv4, xv6, xv7, xv266, xv268, xv269, xv270, xv271, xv273, xv274, xv275, xv276, xv277, xv278, xv279, xv280, xv281, xv282, xv283, xv284, xv285, xv286, xv287, xv288, xv289, xv290, xv291, xv292, xv293, xv294, xv295, xv296, xv297, xv298, xv299, xv300, xv301, xv302, znar0, znar1, znarI, zfitb, zfitb1, xC_N_mk, xC_tg_mk, xC_hd_mk, xC_wt_mk, xC_fb_mk, xC_R_mk, xC_G_mk, xC_P_mk, xC_Q_mk, xC_E_mk, xC_kr_mk, xC_ct_mk, xC_tt_mk, xC_A_mk, xC_qs_mk, xC_qx_mk, xC_qy_mk, xC_vs_mk, xC_lo_mk, xC_hg_mk, xC_ab_mk, xC_fo_mk, xC_pk_mk, xC_K_mk, xC_kd_mk, xM_n_mk, xM_tg_mk, xM_hd_mk, xM_wt_mk, xM_fb_mk, xM_kn_mk, xM_mn_mk, xM_rk_mk, xM_rs_mk, xM_rh_mk, xM_E_mk, xM_gn_mk, xM_ks_mk, xM_kt_mk, xM_kh_mk, xM_A_mk, xM_qs_mk, xM_qx_mk, xM_qy_mk, xM_rw_mk, xM_wo_mk, xM_ia_mk, xM_fo_mk, xM_pr_mk, xM_h_mk, xS_N_mk, xS_tg_mk, xS_hd_mk, xS_wt_mk, xS_fb_mk, xS_E_mk, xS_gn_mk, xS_ks_mk, xS_kt_mk, xS_kh_mk, xS_A_mk, xS_qs_mk, xS_qx_mk, xS_qy_mk, xC_eta, xM_eta, xS_eta, m1]
end KEPT
