/-! the reference: first methods, over the world -/
section MODEL1
variable {L s : Nat} {xs : Nat → Int32} {C : xC} {M : xM} {N : Nat} {f : Nat → Nat}
theorem znar0 : vp_nar .boolean 0 = 0 := by decide
theorem znar1 : vp_nar .boolean 1 = 1 := by decide
theorem zfitb : fits .boolean (.int 0) = true := by decide
theorem zfitb1 : fits .boolean (.int 1) = true := by decide
theorem z8 (k d : Nat) : 8 * nI k + nI d = nI (8 * k + d) := by
  have : (8 : Int32) = nI 8 := rfl
  rw [this, pk_mul, nI_add]
theorem zm1 {k : Nat} (hk : k < 1000000) : ¬ nI k = -1 := by
  intro z
  have : (0 : Int32) ≤ nI k := nI_pos' (by omega)
  rw [z] at this
  exact absurd this (by decide)
theorem zge0 {k : Nat} (hk : k < 1000000) : ¬ nI k < 0 := Int32.not_lt.mpr (nI_pos' (by omega))
theorem znarI {P : Prop} [Decidable P] : vp_nar .boolean (if P then 1 else 0) = if P then 1 else 0 := by
  by_cases q : P
  · rw [if_pos q]; decide
  · rw [if_neg q]; decide
theorem m_in {h : zH} {v a b : Int32} : zC 26 [.int v, .int a, .int b] h = some (some (.int (if a ≤ v ∧ v ≤ b then 1 else 0)), h) := by
  simp [I_X10_in, E_X10_in, zfok, zfv, zfs', ziok, ziv, zpok, zis', zlok, zlv', zls', zbok, zrok, zrv', zrs', zaok, zan, zcok, zcs', zis, zgv, zgh, zcat, zw_1, zw_21, zw_at, zclr_int, zclr_ref, zclr_null, zclr_none, zclr_long, zclr_clr, zbv_0, zbv_1, zbv_ite, zbv_ite', Value.category]
  by_cases h1 : v < a
  · rw [if_pos h1, if_neg (fun z => absurd h1 (Int32.not_lt.mpr z.1))]
  · rw [if_neg h1]
    by_cases h2 : b < v
    · rw [if_pos h2, if_neg (fun z => absurd h2 (Int32.not_lt.mpr z.2))]
    · rw [if_neg h2, if_pos ⟨Int32.not_lt.mp h1, Int32.not_lt.mp h2⟩]
theorem m_isWord {d : Int32} : zC 78 [.ref 283, .int d] (xW L xs s C M) = some (some (.int (if 1 ≤ d ∧ d ≤ M.n then 1 else 0)), xW L xs s C M) := by
  simp [I_X10_isWord, E_X10_isWord, zfok, zfv, zfs', ziok, ziv, zpok, zis', zlok, zlv', zls', zbok, zrok, zrv', zrs', zaok, zan, zcok, zcs', zis, zgv, zgh, zcat, zw_1, zw_21, zw_at, zclr_int, zclr_ref, zclr_null, zclr_none, zclr_long, zclr_clr, zbv_0, zbv_1, zbv_ite, zbv_ite', Value.category, xr0, xr1, xr2, xr3, xr4, xr5, xr6, xr7, xr8, xr265, xr266, xr267, xr268, xr269, xr270, xr271, xr272, xr273, xr274, xr275, xr276, xr277, xr278, xr279, xr280, xr281, xr282, xr283, xr284, xr285, xr286, xr287, xr288, xr289, xr290, xr291, xr292, xr293, xr294, xr295, xr296, xr297, xr298, xr299, xr300, xr301, xr302, xv2, xv3, xv4, xv6, xv7, xv266, xv268, xv269, xv270, xv271, xv273, xv274, xv275, xv276, xv277, xv278, xv279, xv280, xv281, xv282, xv283, xv284, xv285, xv286, xv287, xv288, xv289, xv290, xv291, xv292, xv293, xv294, xv295, xv296, xv297, xv298, xv299, xv300, xv301, xv302, znar0, znar1, znarI, zfitb, zfitb1, xC_N_mk, xC_tg_mk, xC_hd_mk, xC_wt_mk, xC_fb_mk, xC_R_mk, xC_G_mk, xC_P_mk, xC_Q_mk, xC_E_mk, xC_kr_mk, xC_ct_mk, xC_tt_mk, xC_A_mk, xC_qs_mk, xC_qx_mk, xC_qy_mk, xC_vs_mk, xC_lo_mk, xC_hg_mk, xC_ab_mk, xC_fo_mk, xC_pk_mk, xC_K_mk, xC_kd_mk, xM_n_mk, xM_tg_mk, xM_hd_mk, xM_wt_mk, xM_fb_mk, xM_kn_mk, xM_mn_mk, xM_rk_mk, xM_rs_mk, xM_rh_mk, xM_E_mk, xM_gn_mk, xM_ks_mk, xM_kt_mk, xM_kh_mk, xM_A_mk, xM_qs_mk, xM_qx_mk, xM_qy_mk, xM_rw_mk, xM_wo_mk, xM_ia_mk, xM_fo_mk, xM_pr_mk, xM_h_mk, xC_eta, xM_eta, m_in]
theorem m_isPair {p d : Int32} : zC 113 [.ref 283, .int p, .int d] (xW L xs s C M) = some (some (.int (if (0 ≤ p ∧ p ≤ M.n) ∧ (1 ≤ d ∧ d ≤ M.n) ∧ ¬ p = d then 1 else 0)), xW L xs s C M) := by
  simp [I_X10_isPair, E_X10_isPair, zfok, zfv, zfs', ziok, ziv, zpok, zis', zlok, zlv', zls', zbok, zrok, zrv', zrs', zaok, zan, zcok, zcs', zis, zgv, zgh, zcat, zw_1, zw_21, zw_at, zclr_int, zclr_ref, zclr_null, zclr_none, zclr_long, zclr_clr, zbv_0, zbv_1, zbv_ite, zbv_ite', Value.category, xr0, xr1, xr2, xr3, xr4, xr5, xr6, xr7, xr8, xr265, xr266, xr267, xr268, xr269, xr270, xr271, xr272, xr273, xr274, xr275, xr276, xr277, xr278, xr279, xr280, xr281, xr282, xr283, xr284, xr285, xr286, xr287, xr288, xr289, xr290, xr291, xr292, xr293, xr294, xr295, xr296, xr297, xr298, xr299, xr300, xr301, xr302, xv2, xv3, xv4, xv6, xv7, xv266, xv268, xv269, xv270, xv271, xv273, xv274, xv275, xv276, xv277, xv278, xv279, xv280, xv281, xv282, xv283, xv284, xv285, xv286, xv287, xv288, xv289, xv290, xv291, xv292, xv293, xv294, xv295, xv296, xv297, xv298, xv299, xv300, xv301, xv302, znar0, znar1, znarI, zfitb, zfitb1, xC_N_mk, xC_tg_mk, xC_hd_mk, xC_wt_mk, xC_fb_mk, xC_R_mk, xC_G_mk, xC_P_mk, xC_Q_mk, xC_E_mk, xC_kr_mk, xC_ct_mk, xC_tt_mk, xC_A_mk, xC_qs_mk, xC_qx_mk, xC_qy_mk, xC_vs_mk, xC_lo_mk, xC_hg_mk, xC_ab_mk, xC_fo_mk, xC_pk_mk, xC_K_mk, xC_kd_mk, xM_n_mk, xM_tg_mk, xM_hd_mk, xM_wt_mk, xM_fb_mk, xM_kn_mk, xM_mn_mk, xM_rk_mk, xM_rs_mk, xM_rh_mk, xM_E_mk, xM_gn_mk, xM_ks_mk, xM_kt_mk, xM_kh_mk, xM_A_mk, xM_qs_mk, xM_qx_mk, xM_qy_mk, xM_rw_mk, xM_wo_mk, xM_ia_mk, xM_fo_mk, xM_pr_mk, xM_h_mk, xC_eta, xM_eta, m_in, m_isWord, zb01]
  have b1 : (p < 0) = ¬ (0 ≤ p) := by rw [Int32.not_le]
  have b2 : (M.n < p) = ¬ (p ≤ M.n) := by rw [Int32.not_le]
  have b3 : (d < 1) = ¬ (1 ≤ d) := by rw [Int32.not_le]
  have b4 : (M.n < d) = ¬ (d ≤ M.n) := by rw [Int32.not_le]
  simp only [b1, b2, b3, b4]
  by_cases a1 : 0 ≤ p <;> by_cases a2 : p ≤ M.n <;> by_cases a3 : 1 ≤ d <;> by_cases a4 : d ≤ M.n <;> by_cases a5 : p = d <;> simp [a1, a2, a3, a4, a5]
theorem l_begin2 : ∀ (c i : Nat) (M : xM), c + i = 64 → zD 27 40 [some (.ref 283), some (.int (nI N)), some (.int (nI i))] [] (xW L xs s C M) = some (none, xW L xs s C (xM.mk M.n M.tg M.hd ((fun j => if i ≤ j ∧ j < 64 then 0 else M.wt j)) ((fun j => if i ≤ j ∧ j < 64 then 0 else M.fb j)) M.kn M.mn M.rk M.rs M.rh M.E M.gn M.ks M.kt M.kh M.A M.qs M.qx M.qy M.rw M.wo M.ia M.fo M.pr M.h))
  | 0, i, M, hs => by
    rw [E_X10_begin_h40]
    have e1 : (64 : Int32) ≤ nI i := by
      have : (64 : Int32) = nI 64 := rfl
      rw [this, zle (by omega) (by omega)]; omega
    have e2 : (fun j => if i ≤ j ∧ j < 64 then 0 else M.wt j) = M.wt := by funext j; rw [if_neg (by omega)]
    have e3 : (fun j => if i ≤ j ∧ j < 64 then 0 else M.fb j) = M.fb := by funext j; rw [if_neg (by omega)]
    simp [E_X10_begin, zfok, zfv, zfs', ziok, ziv, zpok, zis', zlok, zlv', zls', zbok, zrok, zrv', zrs', zaok, zan, zcok, zcs', zis, zgv, zgh, zcat, zw_1, zw_21, zw_at, zclr_int, zclr_ref, zclr_null, zclr_none, zclr_long, zclr_clr, zbv_0, zbv_1, zbv_ite, zbv_ite', Value.category, xr0, xr1, xr2, xr3, xr4, xr5, xr6, xr7, xr8, xr265, xr266, xr267, xr268, xr269, xr270, xr271, xr272, xr273, xr274, xr275, xr276, xr277, xr278, xr279, xr280, xr281, xr282, xr283, xr284, xr285, xr286, xr287, xr288, xr289, xr290, xr291, xr292, xr293, xr294, xr295, xr296, xr297, xr298, xr299, xr300, xr301, xr302, xv2, xv3, xv4, xv6, xv7, xv266, xv268, xv269, xv270, xv271, xv273, xv274, xv275, xv276, xv277, xv278, xv279, xv280, xv281, xv282, xv283, xv284, xv285, xv286, xv287, xv288, xv289, xv290, xv291, xv292, xv293, xv294, xv295, xv296, xv297, xv298, xv299, xv300, xv301, xv302, znar0, znar1, znarI, zfitb, zfitb1, xC_N_mk, xC_tg_mk, xC_hd_mk, xC_wt_mk, xC_fb_mk, xC_R_mk, xC_G_mk, xC_P_mk, xC_Q_mk, xC_E_mk, xC_kr_mk, xC_ct_mk, xC_tt_mk, xC_A_mk, xC_qs_mk, xC_qx_mk, xC_qy_mk, xC_vs_mk, xC_lo_mk, xC_hg_mk, xC_ab_mk, xC_fo_mk, xC_pk_mk, xC_K_mk, xC_kd_mk, xM_n_mk, xM_tg_mk, xM_hd_mk, xM_wt_mk, xM_fb_mk, xM_kn_mk, xM_mn_mk, xM_rk_mk, xM_rs_mk, xM_rh_mk, xM_E_mk, xM_gn_mk, xM_ks_mk, xM_kt_mk, xM_kh_mk, xM_A_mk, xM_qs_mk, xM_qx_mk, xM_qy_mk, xM_rw_mk, xM_wo_mk, xM_ia_mk, xM_fo_mk, xM_pr_mk, xM_h_mk, xC_eta, xM_eta, e1, e2, e3]
  | c + 1, i, M, hs => by
    rw [E_X10_begin_h40]
    have e1 : ¬ (64 : Int32) ≤ nI i := by
      have : (64 : Int32) = nI 64 := rfl
      rw [this, zle (by omega) (by omega)]; omega
    have e3 : zin (nI i) 64 = true := zin8 (by omega) (by omega)
    have e4 : (nI i).toNatClampNeg = i := zcl7 (by omega)
    have e5 : nI i + 1 = nI (i + 1) := nI_1 i
    have k := l_begin2 c (i + 1) (xM.mk M.n M.tg M.hd (upd M.wt i 0) (upd M.fb i 0) M.kn M.mn M.rk M.rs M.rh M.E M.gn M.ks M.kt M.kh M.A M.qs M.qx M.qy M.rw M.wo M.ia M.fo M.pr M.h) (by omega)
    simp [E_X10_begin, zfok, zfv, zfs', ziok, ziv, zpok, zis', zlok, zlv', zls', zbok, zrok, zrv', zrs', zaok, zan, zcok, zcs', zis, zgv, zgh, zcat, zw_1, zw_21, zw_at, zclr_int, zclr_ref, zclr_null, zclr_none, zclr_long, zclr_clr, zbv_0, zbv_1, zbv_ite, zbv_ite', Value.category, xr0, xr1, xr2, xr3, xr4, xr5, xr6, xr7, xr8, xr265, xr266, xr267, xr268, xr269, xr270, xr271, xr272, xr273, xr274, xr275, xr276, xr277, xr278, xr279, xr280, xr281, xr282, xr283, xr284, xr285, xr286, xr287, xr288, xr289, xr290, xr291, xr292, xr293, xr294, xr295, xr296, xr297, xr298, xr299, xr300, xr301, xr302, xv2, xv3, xv4, xv6, xv7, xv266, xv268, xv269, xv270, xv271, xv273, xv274, xv275, xv276, xv277, xv278, xv279, xv280, xv281, xv282, xv283, xv284, xv285, xv286, xv287, xv288, xv289, xv290, xv291, xv292, xv293, xv294, xv295, xv296, xv297, xv298, xv299, xv300, xv301, xv302, znar0, znar1, znarI, zfitb, zfitb1, xC_N_mk, xC_tg_mk, xC_hd_mk, xC_wt_mk, xC_fb_mk, xC_R_mk, xC_G_mk, xC_P_mk, xC_Q_mk, xC_E_mk, xC_kr_mk, xC_ct_mk, xC_tt_mk, xC_A_mk, xC_qs_mk, xC_qx_mk, xC_qy_mk, xC_vs_mk, xC_lo_mk, xC_hg_mk, xC_ab_mk, xC_fo_mk, xC_pk_mk, xC_K_mk, xC_kd_mk, xM_n_mk, xM_tg_mk, xM_hd_mk, xM_wt_mk, xM_fb_mk, xM_kn_mk, xM_mn_mk, xM_rk_mk, xM_rs_mk, xM_rh_mk, xM_E_mk, xM_gn_mk, xM_ks_mk, xM_kt_mk, xM_kh_mk, xM_A_mk, xM_qs_mk, xM_qx_mk, xM_qy_mk, xM_rw_mk, xM_wo_mk, xM_ia_mk, xM_fo_mk, xM_pr_mk, xM_h_mk, xC_eta, xM_eta, e1, e3, e4, e5]
    rw [k]
    have u1 : (fun j => if i + 1 ≤ j ∧ j < 64 then 0 else upd M.wt i 0 j) = (fun j => if i ≤ j ∧ j < 64 then 0 else M.wt j) := by
      funext j; unfold upd; by_cases q : j = i
      · subst q; rw [if_neg (by omega), if_pos rfl, if_pos (by omega)]
      · by_cases q2 : i ≤ j ∧ j < 64
        · rw [if_pos (by omega), if_pos q2]
        · rw [if_neg (by omega), if_neg q, if_neg q2]
    have u2 : (fun j => if i + 1 ≤ j ∧ j < 64 then 0 else upd M.fb i 0 j) = (fun j => if i ≤ j ∧ j < 64 then 0 else M.fb j) := by
      funext j; unfold upd; by_cases q : j = i
      · subst q; rw [if_neg (by omega), if_pos rfl, if_pos (by omega)]
      · by_cases q2 : i ≤ j ∧ j < 64
        · rw [if_pos (by omega), if_pos q2]
        · rw [if_neg (by omega), if_neg q, if_neg q2]
    simp only [xC_N_mk, xC_tg_mk, xC_hd_mk, xC_wt_mk, xC_fb_mk, xC_R_mk, xC_G_mk, xC_P_mk, xC_Q_mk, xC_E_mk, xC_kr_mk, xC_ct_mk, xC_tt_mk, xC_A_mk, xC_qs_mk, xC_qx_mk, xC_qy_mk, xC_vs_mk, xC_lo_mk, xC_hg_mk, xC_ab_mk, xC_fo_mk, xC_pk_mk, xC_K_mk, xC_kd_mk, xM_n_mk, xM_tg_mk, xM_hd_mk, xM_wt_mk, xM_fb_mk, xM_kn_mk, xM_mn_mk, xM_rk_mk, xM_rs_mk, xM_rh_mk, xM_E_mk, xM_gn_mk, xM_ks_mk, xM_kt_mk, xM_kh_mk, xM_A_mk, xM_qs_mk, xM_qx_mk, xM_qy_mk, xM_rw_mk, xM_wo_mk, xM_ia_mk, xM_fo_mk, xM_pr_mk, xM_h_mk, xC_eta, xM_eta, u1, u2]
theorem l_begin1 : ∀ (c i : Nat) (M : xM), c + i = 8 → zD 27 12 [some (.ref 283), some (.int (nI N)), some (.int (nI i))] [] (xW L xs s C M) = zD 27 40 [some (.ref 283), some (.int (nI N)), some (.int (nI 0))] [] (xW L xs s C (xM.mk M.n ((fun j => if i ≤ j ∧ j < 8 then 0 else M.tg j)) ((fun j => if i ≤ j ∧ j < 8 then 0 else M.hd j)) M.wt M.fb M.kn M.mn M.rk M.rs M.rh M.E M.gn M.ks M.kt M.kh M.A M.qs M.qx M.qy M.rw M.wo M.ia M.fo M.pr M.h))
  | 0, i, M, hs => by
    rw [E_X10_begin_h12]
    have e1 : (8 : Int32) ≤ nI i := by
      have : (8 : Int32) = nI 8 := rfl
      rw [this, zle (by omega) (by omega)]; omega
    have e2 : (fun j => if i ≤ j ∧ j < 8 then 0 else M.tg j) = M.tg := by funext j; rw [if_neg (by omega)]
    have e3 : (fun j => if i ≤ j ∧ j < 8 then 0 else M.hd j) = M.hd := by funext j; rw [if_neg (by omega)]
    simp [E_X10_begin, zfok, zfv, zfs', ziok, ziv, zpok, zis', zlok, zlv', zls', zbok, zrok, zrv', zrs', zaok, zan, zcok, zcs', zis, zgv, zgh, zcat, zw_1, zw_21, zw_at, zclr_int, zclr_ref, zclr_null, zclr_none, zclr_long, zclr_clr, zbv_0, zbv_1, zbv_ite, zbv_ite', Value.category, xr0, xr1, xr2, xr3, xr4, xr5, xr6, xr7, xr8, xr265, xr266, xr267, xr268, xr269, xr270, xr271, xr272, xr273, xr274, xr275, xr276, xr277, xr278, xr279, xr280, xr281, xr282, xr283, xr284, xr285, xr286, xr287, xr288, xr289, xr290, xr291, xr292, xr293, xr294, xr295, xr296, xr297, xr298, xr299, xr300, xr301, xr302, xv2, xv3, xv4, xv6, xv7, xv266, xv268, xv269, xv270, xv271, xv273, xv274, xv275, xv276, xv277, xv278, xv279, xv280, xv281, xv282, xv283, xv284, xv285, xv286, xv287, xv288, xv289, xv290, xv291, xv292, xv293, xv294, xv295, xv296, xv297, xv298, xv299, xv300, xv301, xv302, znar0, znar1, znarI, zfitb, zfitb1, xC_N_mk, xC_tg_mk, xC_hd_mk, xC_wt_mk, xC_fb_mk, xC_R_mk, xC_G_mk, xC_P_mk, xC_Q_mk, xC_E_mk, xC_kr_mk, xC_ct_mk, xC_tt_mk, xC_A_mk, xC_qs_mk, xC_qx_mk, xC_qy_mk, xC_vs_mk, xC_lo_mk, xC_hg_mk, xC_ab_mk, xC_fo_mk, xC_pk_mk, xC_K_mk, xC_kd_mk, xM_n_mk, xM_tg_mk, xM_hd_mk, xM_wt_mk, xM_fb_mk, xM_kn_mk, xM_mn_mk, xM_rk_mk, xM_rs_mk, xM_rh_mk, xM_E_mk, xM_gn_mk, xM_ks_mk, xM_kt_mk, xM_kh_mk, xM_A_mk, xM_qs_mk, xM_qx_mk, xM_qy_mk, xM_rw_mk, xM_wo_mk, xM_ia_mk, xM_fo_mk, xM_pr_mk, xM_h_mk, xC_eta, xM_eta, e1, e2, e3, nI_0]
  | c + 1, i, M, hs => by
    rw [E_X10_begin_h12]
    have e1 : ¬ (8 : Int32) ≤ nI i := by
      have : (8 : Int32) = nI 8 := rfl
      rw [this, zle (by omega) (by omega)]; omega
    have e3 : zin (nI i) 8 = true := zin8 (by omega) (by omega)
    have e4 : (nI i).toNatClampNeg = i := zcl7 (by omega)
    have e5 : nI i + 1 = nI (i + 1) := nI_1 i
    have k := l_begin1 c (i + 1) (xM.mk M.n (upd M.tg i 0) (upd M.hd i 0) M.wt M.fb M.kn M.mn M.rk M.rs M.rh M.E M.gn M.ks M.kt M.kh M.A M.qs M.qx M.qy M.rw M.wo M.ia M.fo M.pr M.h) (by omega)
    simp [E_X10_begin, zfok, zfv, zfs', ziok, ziv, zpok, zis', zlok, zlv', zls', zbok, zrok, zrv', zrs', zaok, zan, zcok, zcs', zis, zgv, zgh, zcat, zw_1, zw_21, zw_at, zclr_int, zclr_ref, zclr_null, zclr_none, zclr_long, zclr_clr, zbv_0, zbv_1, zbv_ite, zbv_ite', Value.category, xr0, xr1, xr2, xr3, xr4, xr5, xr6, xr7, xr8, xr265, xr266, xr267, xr268, xr269, xr270, xr271, xr272, xr273, xr274, xr275, xr276, xr277, xr278, xr279, xr280, xr281, xr282, xr283, xr284, xr285, xr286, xr287, xr288, xr289, xr290, xr291, xr292, xr293, xr294, xr295, xr296, xr297, xr298, xr299, xr300, xr301, xr302, xv2, xv3, xv4, xv6, xv7, xv266, xv268, xv269, xv270, xv271, xv273, xv274, xv275, xv276, xv277, xv278, xv279, xv280, xv281, xv282, xv283, xv284, xv285, xv286, xv287, xv288, xv289, xv290, xv291, xv292, xv293, xv294, xv295, xv296, xv297, xv298, xv299, xv300, xv301, xv302, znar0, znar1, znarI, zfitb, zfitb1, xC_N_mk, xC_tg_mk, xC_hd_mk, xC_wt_mk, xC_fb_mk, xC_R_mk, xC_G_mk, xC_P_mk, xC_Q_mk, xC_E_mk, xC_kr_mk, xC_ct_mk, xC_tt_mk, xC_A_mk, xC_qs_mk, xC_qx_mk, xC_qy_mk, xC_vs_mk, xC_lo_mk, xC_hg_mk, xC_ab_mk, xC_fo_mk, xC_pk_mk, xC_K_mk, xC_kd_mk, xM_n_mk, xM_tg_mk, xM_hd_mk, xM_wt_mk, xM_fb_mk, xM_kn_mk, xM_mn_mk, xM_rk_mk, xM_rs_mk, xM_rh_mk, xM_E_mk, xM_gn_mk, xM_ks_mk, xM_kt_mk, xM_kh_mk, xM_A_mk, xM_qs_mk, xM_qx_mk, xM_qy_mk, xM_rw_mk, xM_wo_mk, xM_ia_mk, xM_fo_mk, xM_pr_mk, xM_h_mk, xC_eta, xM_eta, e1, e3, e4, e5]
    rw [k]
    have u1 : (fun j => if i + 1 ≤ j ∧ j < 8 then 0 else upd M.tg i 0 j) = (fun j => if i ≤ j ∧ j < 8 then 0 else M.tg j) := by
      funext j; unfold upd; by_cases q : j = i
      · subst q; rw [if_neg (by omega), if_pos rfl, if_pos (by omega)]
      · by_cases q2 : i ≤ j ∧ j < 8
        · rw [if_pos (by omega), if_pos q2]
        · rw [if_neg (by omega), if_neg q, if_neg q2]
    have u2 : (fun j => if i + 1 ≤ j ∧ j < 8 then 0 else upd M.hd i 0 j) = (fun j => if i ≤ j ∧ j < 8 then 0 else M.hd j) := by
      funext j; unfold upd; by_cases q : j = i
      · subst q; rw [if_neg (by omega), if_pos rfl, if_pos (by omega)]
      · by_cases q2 : i ≤ j ∧ j < 8
        · rw [if_pos (by omega), if_pos q2]
        · rw [if_neg (by omega), if_neg q, if_neg q2]
    simp only [xC_N_mk, xC_tg_mk, xC_hd_mk, xC_wt_mk, xC_fb_mk, xC_R_mk, xC_G_mk, xC_P_mk, xC_Q_mk, xC_E_mk, xC_kr_mk, xC_ct_mk, xC_tt_mk, xC_A_mk, xC_qs_mk, xC_qx_mk, xC_qy_mk, xC_vs_mk, xC_lo_mk, xC_hg_mk, xC_ab_mk, xC_fo_mk, xC_pk_mk, xC_K_mk, xC_kd_mk, xM_n_mk, xM_tg_mk, xM_hd_mk, xM_wt_mk, xM_fb_mk, xM_kn_mk, xM_mn_mk, xM_rk_mk, xM_rs_mk, xM_rh_mk, xM_E_mk, xM_gn_mk, xM_ks_mk, xM_kt_mk, xM_kh_mk, xM_A_mk, xM_qs_mk, xM_qx_mk, xM_qy_mk, xM_rw_mk, xM_wo_mk, xM_ia_mk, xM_fo_mk, xM_pr_mk, xM_h_mk, xC_eta, xM_eta, u1, u2]
theorem m_begin (ht : ∀ d, 8 ≤ d → M.tg d = 0) (hh : ∀ d, 8 ≤ d → M.hd d = 0) (hw : ∀ d, 64 ≤ d → M.wt d = 0) (hf : ∀ d, 64 ≤ d → M.fb d = 0) : zC 27 [.ref 283, .int (nI N)] (xW L xs s C M) = some (none, xW L xs s C (xM.mk (nI N) Z0 Z0 Z0 Z0 0 M.mn M.rk M.rs M.rh M.E M.gn M.ks M.kt M.kh M.A M.qs M.qx M.qy M.rw M.wo M.ia M.fo M.pr M.h)) := by
  have k1 := l_begin1 (L := L) (s := s) (xs := xs) (C := C) (N := N) 8 0 (xM.mk (nI N) M.tg M.hd M.wt M.fb 0 M.mn M.rk M.rs M.rh M.E M.gn M.ks M.kt M.kh M.A M.qs M.qx M.qy M.rw M.wo M.ia M.fo M.pr M.h) (by omega)
  rw [l_begin2 64 0 _ (by omega)] at k1
  rw [nI_0] at k1
  have u : ∀ {g : Nat → Int32} {b : Nat}, (∀ d, b ≤ d → g d = 0) → (fun j => if 0 ≤ j ∧ j < b then 0 else g j) = Z0 := by
    intro g b hg
    funext j
    unfold Z0
    by_cases q : j < b
    · rw [if_pos ⟨Nat.zero_le _, q⟩]
    · rw [if_neg (by omega), hg j (by omega)]
  simp only [xC_N_mk, xC_tg_mk, xC_hd_mk, xC_wt_mk, xC_fb_mk, xC_R_mk, xC_G_mk, xC_P_mk, xC_Q_mk, xC_E_mk, xC_kr_mk, xC_ct_mk, xC_tt_mk, xC_A_mk, xC_qs_mk, xC_qx_mk, xC_qy_mk, xC_vs_mk, xC_lo_mk, xC_hg_mk, xC_ab_mk, xC_fo_mk, xC_pk_mk, xC_K_mk, xC_kd_mk, xM_n_mk, xM_tg_mk, xM_hd_mk, xM_wt_mk, xM_fb_mk, xM_kn_mk, xM_mn_mk, xM_rk_mk, xM_rs_mk, xM_rh_mk, xM_E_mk, xM_gn_mk, xM_ks_mk, xM_kt_mk, xM_kh_mk, xM_A_mk, xM_qs_mk, xM_qx_mk, xM_qy_mk, xM_rw_mk, xM_wo_mk, xM_ia_mk, xM_fo_mk, xM_pr_mk, xM_h_mk, xC_eta, xM_eta, u ht, u hh, u hw, u hf] at k1
  simp [I_X10_begin, E_X10_begin, zfok, zfv, zfs', ziok, ziv, zpok, zis', zlok, zlv', zls', zbok, zrok, zrv', zrs', zaok, zan, zcok, zcs', zis, zgv, zgh, zcat, zw_1, zw_21, zw_at, zclr_int, zclr_ref, zclr_null, zclr_none, zclr_long, zclr_clr, zbv_0, zbv_1, zbv_ite, zbv_ite', Value.category, xr0, xr1, xr2, xr3, xr4, xr5, xr6, xr7, xr8, xr265, xr266, xr267, xr268, xr269, xr270, xr271, xr272, xr273, xr274, xr275, xr276, xr277, xr278, xr279, xr280, xr281, xr282, xr283, xr284, xr285, xr286, xr287, xr288, xr289, xr290, xr291, xr292, xr293, xr294, xr295, xr296, xr297, xr298, xr299, xr300, xr301, xr302, xv2, xv3, xv4, xv6, xv7, xv266, xv268, xv269, xv270, xv271, xv273, xv274, xv275, xv276, xv277, xv278, xv279, xv280, xv281, xv282, xv283, xv284, xv285, xv286, xv287, xv288, xv289, xv290, xv291, xv292, xv293, xv294, xv295, xv296, xv297, xv298, xv299, xv300, xv301, xv302, znar0, znar1, znarI, zfitb, zfitb1, xC_N_mk, xC_tg_mk, xC_hd_mk, xC_wt_mk, xC_fb_mk, xC_R_mk, xC_G_mk, xC_P_mk, xC_Q_mk, xC_E_mk, xC_kr_mk, xC_ct_mk, xC_tt_mk, xC_A_mk, xC_qs_mk, xC_qx_mk, xC_qy_mk, xC_vs_mk, xC_lo_mk, xC_hg_mk, xC_ab_mk, xC_fo_mk, xC_pk_mk, xC_K_mk, xC_kd_mk, xM_n_mk, xM_tg_mk, xM_hd_mk, xM_wt_mk, xM_fb_mk, xM_kn_mk, xM_mn_mk, xM_rk_mk, xM_rs_mk, xM_rh_mk, xM_E_mk, xM_gn_mk, xM_ks_mk, xM_kt_mk, xM_kh_mk, xM_A_mk, xM_qs_mk, xM_qx_mk, xM_qy_mk, xM_rw_mk, xM_wo_mk, xM_ia_mk, xM_fo_mk, xM_pr_mk, xM_h_mk, xC_eta, xM_eta]
  exact k1
theorem l_lay0 : ∀ (c d : Nat) (M : xM), c + d = 8 → 1 ≤ d → zD 28 2 [some (.ref 283), some (.int (-1)), some (.int (nI d))] [] (xW L xs s C M) = some (none, xW L xs s C (xM.mk M.n M.tg M.hd M.wt M.fb M.kn M.mn M.rk M.rs M.rh M.E M.gn M.ks M.kt M.kh M.A M.qs M.qx M.qy ((fun j => if d ≤ j ∧ j < 8 then M.hd j else M.rw j)) M.wo M.ia M.fo M.pr M.h))
  | 0, d, M, hs, h1 => by
    rw [E_X10_lay_h2]
    have e1 : (7 : Int32) < nI d := by
      have : (7 : Int32) = nI 7 := rfl
      rw [this, zlt (by omega) (by omega)]; omega
    have e2 : (fun j => if d ≤ j ∧ j < 8 then M.hd j else M.rw j) = M.rw := by funext j; rw [if_neg (by omega)]
    simp [E_X10_lay, zfok, zfv, zfs', ziok, ziv, zpok, zis', zlok, zlv', zls', zbok, zrok, zrv', zrs', zaok, zan, zcok, zcs', zis, zgv, zgh, zcat, zw_1, zw_21, zw_at, zclr_int, zclr_ref, zclr_null, zclr_none, zclr_long, zclr_clr, zbv_0, zbv_1, zbv_ite, zbv_ite', Value.category, xr0, xr1, xr2, xr3, xr4, xr5, xr6, xr7, xr8, xr265, xr266, xr267, xr268, xr269, xr270, xr271, xr272, xr273, xr274, xr275, xr276, xr277, xr278, xr279, xr280, xr281, xr282, xr283, xr284, xr285, xr286, xr287, xr288, xr289, xr290, xr291, xr292, xr293, xr294, xr295, xr296, xr297, xr298, xr299, xr300, xr301, xr302, xv2, xv3, xv4, xv6, xv7, xv266, xv268, xv269, xv270, xv271, xv273, xv274, xv275, xv276, xv277, xv278, xv279, xv280, xv281, xv282, xv283, xv284, xv285, xv286, xv287, xv288, xv289, xv290, xv291, xv292, xv293, xv294, xv295, xv296, xv297, xv298, xv299, xv300, xv301, xv302, znar0, znar1, znarI, zfitb, zfitb1, xC_N_mk, xC_tg_mk, xC_hd_mk, xC_wt_mk, xC_fb_mk, xC_R_mk, xC_G_mk, xC_P_mk, xC_Q_mk, xC_E_mk, xC_kr_mk, xC_ct_mk, xC_tt_mk, xC_A_mk, xC_qs_mk, xC_qx_mk, xC_qy_mk, xC_vs_mk, xC_lo_mk, xC_hg_mk, xC_ab_mk, xC_fo_mk, xC_pk_mk, xC_K_mk, xC_kd_mk, xM_n_mk, xM_tg_mk, xM_hd_mk, xM_wt_mk, xM_fb_mk, xM_kn_mk, xM_mn_mk, xM_rk_mk, xM_rs_mk, xM_rh_mk, xM_E_mk, xM_gn_mk, xM_ks_mk, xM_kt_mk, xM_kh_mk, xM_A_mk, xM_qs_mk, xM_qx_mk, xM_qy_mk, xM_rw_mk, xM_wo_mk, xM_ia_mk, xM_fo_mk, xM_pr_mk, xM_h_mk, xC_eta, xM_eta, e1, e2]
  | c + 1, d, M, hs, h1 => by
    rw [E_X10_lay_h2]
    have e1 : ¬ (7 : Int32) < nI d := by
      have : (7 : Int32) = nI 7 := rfl
      rw [this, zlt (by omega) (by omega)]; omega
    have e3 : zin (nI d) 8 = true := zin8 (by omega) (by omega)
    have e4 : (nI d).toNatClampNeg = d := zcl7 (by omega)
    have e5 : nI d + 1 = nI (d + 1) := nI_1 d
    have k := l_lay0 c (d + 1) (xM.mk M.n M.tg M.hd M.wt M.fb M.kn M.mn M.rk M.rs M.rh M.E M.gn M.ks M.kt M.kh M.A M.qs M.qx M.qy (upd M.rw d (M.hd d)) M.wo M.ia M.fo M.pr M.h) (by omega) (by omega)
    simp [E_X10_lay, zfok, zfv, zfs', ziok, ziv, zpok, zis', zlok, zlv', zls', zbok, zrok, zrv', zrs', zaok, zan, zcok, zcs', zis, zgv, zgh, zcat, zw_1, zw_21, zw_at, zclr_int, zclr_ref, zclr_null, zclr_none, zclr_long, zclr_clr, zbv_0, zbv_1, zbv_ite, zbv_ite', Value.category, xr0, xr1, xr2, xr3, xr4, xr5, xr6, xr7, xr8, xr265, xr266, xr267, xr268, xr269, xr270, xr271, xr272, xr273, xr274, xr275, xr276, xr277, xr278, xr279, xr280, xr281, xr282, xr283, xr284, xr285, xr286, xr287, xr288, xr289, xr290, xr291, xr292, xr293, xr294, xr295, xr296, xr297, xr298, xr299, xr300, xr301, xr302, xv2, xv3, xv4, xv6, xv7, xv266, xv268, xv269, xv270, xv271, xv273, xv274, xv275, xv276, xv277, xv278, xv279, xv280, xv281, xv282, xv283, xv284, xv285, xv286, xv287, xv288, xv289, xv290, xv291, xv292, xv293, xv294, xv295, xv296, xv297, xv298, xv299, xv300, xv301, xv302, znar0, znar1, znarI, zfitb, zfitb1, xC_N_mk, xC_tg_mk, xC_hd_mk, xC_wt_mk, xC_fb_mk, xC_R_mk, xC_G_mk, xC_P_mk, xC_Q_mk, xC_E_mk, xC_kr_mk, xC_ct_mk, xC_tt_mk, xC_A_mk, xC_qs_mk, xC_qx_mk, xC_qy_mk, xC_vs_mk, xC_lo_mk, xC_hg_mk, xC_ab_mk, xC_fo_mk, xC_pk_mk, xC_K_mk, xC_kd_mk, xM_n_mk, xM_tg_mk, xM_hd_mk, xM_wt_mk, xM_fb_mk, xM_kn_mk, xM_mn_mk, xM_rk_mk, xM_rs_mk, xM_rh_mk, xM_E_mk, xM_gn_mk, xM_ks_mk, xM_kt_mk, xM_kh_mk, xM_A_mk, xM_qs_mk, xM_qx_mk, xM_qy_mk, xM_rw_mk, xM_wo_mk, xM_ia_mk, xM_fo_mk, xM_pr_mk, xM_h_mk, xC_eta, xM_eta, e1, e3, e4, e5]
    rw [k]
    have u1 : (fun j => if d + 1 ≤ j ∧ j < 8 then M.hd j else upd M.rw d (M.hd d) j) = (fun j => if d ≤ j ∧ j < 8 then M.hd j else M.rw j) := by
      funext j; unfold upd; by_cases q : j = d
      · subst q; rw [if_neg (by omega), if_pos rfl, if_pos (by omega)]
      · by_cases q2 : d ≤ j ∧ j < 8
        · rw [if_pos (by omega), if_pos q2]
        · rw [if_neg (by omega), if_neg q, if_neg q2]
    simp only [xC_N_mk, xC_tg_mk, xC_hd_mk, xC_wt_mk, xC_fb_mk, xC_R_mk, xC_G_mk, xC_P_mk, xC_Q_mk, xC_E_mk, xC_kr_mk, xC_ct_mk, xC_tt_mk, xC_A_mk, xC_qs_mk, xC_qx_mk, xC_qy_mk, xC_vs_mk, xC_lo_mk, xC_hg_mk, xC_ab_mk, xC_fo_mk, xC_pk_mk, xC_K_mk, xC_kd_mk, xM_n_mk, xM_tg_mk, xM_hd_mk, xM_wt_mk, xM_fb_mk, xM_kn_mk, xM_mn_mk, xM_rk_mk, xM_rs_mk, xM_rh_mk, xM_E_mk, xM_gn_mk, xM_ks_mk, xM_kt_mk, xM_kh_mk, xM_A_mk, xM_qs_mk, xM_qx_mk, xM_qy_mk, xM_rw_mk, xM_wo_mk, xM_ia_mk, xM_fo_mk, xM_pr_mk, xM_h_mk, xC_eta, xM_eta, u1]
theorem l_lay1 {k : Nat} (hk : k < 20) : ∀ (c d : Nat) (M : xM), c + d = 8 → 1 ≤ d → zD 28 2 [some (.ref 283), some (.int (nI k)), some (.int (nI d))] [] (xW L xs s C M) = some (none, xW L xs s C (xM.mk M.n M.tg M.hd M.wt M.fb M.kn M.mn M.rk M.rs M.rh M.E M.gn M.ks M.kt M.kh M.A M.qs M.qx M.qy ((fun j => if d ≤ j ∧ j < 8 then M.kh (8 * k + j) else M.rw j)) M.wo M.ia M.fo M.pr M.h))
  | 0, d, M, hs, h1 => by
    rw [E_X10_lay_h2]
    have e1 : (7 : Int32) < nI d := by
      have : (7 : Int32) = nI 7 := rfl
      rw [this, zlt (by omega) (by omega)]; omega
    have e2 : (fun j => if d ≤ j ∧ j < 8 then M.kh (8 * k + j) else M.rw j) = M.rw := by funext j; rw [if_neg (by omega)]
    simp [E_X10_lay, zfok, zfv, zfs', ziok, ziv, zpok, zis', zlok, zlv', zls', zbok, zrok, zrv', zrs', zaok, zan, zcok, zcs', zis, zgv, zgh, zcat, zw_1, zw_21, zw_at, zclr_int, zclr_ref, zclr_null, zclr_none, zclr_long, zclr_clr, zbv_0, zbv_1, zbv_ite, zbv_ite', Value.category, xr0, xr1, xr2, xr3, xr4, xr5, xr6, xr7, xr8, xr265, xr266, xr267, xr268, xr269, xr270, xr271, xr272, xr273, xr274, xr275, xr276, xr277, xr278, xr279, xr280, xr281, xr282, xr283, xr284, xr285, xr286, xr287, xr288, xr289, xr290, xr291, xr292, xr293, xr294, xr295, xr296, xr297, xr298, xr299, xr300, xr301, xr302, xv2, xv3, xv4, xv6, xv7, xv266, xv268, xv269, xv270, xv271, xv273, xv274, xv275, xv276, xv277, xv278, xv279, xv280, xv281, xv282, xv283, xv284, xv285, xv286, xv287, xv288, xv289, xv290, xv291, xv292, xv293, xv294, xv295, xv296, xv297, xv298, xv299, xv300, xv301, xv302, znar0, znar1, znarI, zfitb, zfitb1, xC_N_mk, xC_tg_mk, xC_hd_mk, xC_wt_mk, xC_fb_mk, xC_R_mk, xC_G_mk, xC_P_mk, xC_Q_mk, xC_E_mk, xC_kr_mk, xC_ct_mk, xC_tt_mk, xC_A_mk, xC_qs_mk, xC_qx_mk, xC_qy_mk, xC_vs_mk, xC_lo_mk, xC_hg_mk, xC_ab_mk, xC_fo_mk, xC_pk_mk, xC_K_mk, xC_kd_mk, xM_n_mk, xM_tg_mk, xM_hd_mk, xM_wt_mk, xM_fb_mk, xM_kn_mk, xM_mn_mk, xM_rk_mk, xM_rs_mk, xM_rh_mk, xM_E_mk, xM_gn_mk, xM_ks_mk, xM_kt_mk, xM_kh_mk, xM_A_mk, xM_qs_mk, xM_qx_mk, xM_qy_mk, xM_rw_mk, xM_wo_mk, xM_ia_mk, xM_fo_mk, xM_pr_mk, xM_h_mk, xC_eta, xM_eta, e1, e2]
  | c + 1, d, M, hs, h1 => by
    rw [E_X10_lay_h2]
    have e1 : ¬ (7 : Int32) < nI d := by
      have : (7 : Int32) = nI 7 := rfl
      rw [this, zlt (by omega) (by omega)]; omega
    have e3 : zin (nI d) 8 = true := zin8 (by omega) (by omega)
    have e4 : (nI d).toNatClampNeg = d := zcl7 (by omega)
    have e5 : nI d + 1 = nI (d + 1) := nI_1 d
    have e6 := z8 k d
    have e7 : zin (nI (8 * k + d)) 160 = true := zin8 (by omega) (by omega)
    have e8 : (nI (8 * k + d)).toNatClampNeg = 8 * k + d := zcl7 (by omega)
    have e9 : ¬ nI k = -1 := zm1 (by omega)
    have kk := l_lay1 hk c (d + 1) (xM.mk M.n M.tg M.hd M.wt M.fb M.kn M.mn M.rk M.rs M.rh M.E M.gn M.ks M.kt M.kh M.A M.qs M.qx M.qy (upd M.rw d (M.kh (8 * k + d))) M.wo M.ia M.fo M.pr M.h) (by omega) (by omega)
    simp [E_X10_lay, zfok, zfv, zfs', ziok, ziv, zpok, zis', zlok, zlv', zls', zbok, zrok, zrv', zrs', zaok, zan, zcok, zcs', zis, zgv, zgh, zcat, zw_1, zw_21, zw_at, zclr_int, zclr_ref, zclr_null, zclr_none, zclr_long, zclr_clr, zbv_0, zbv_1, zbv_ite, zbv_ite', Value.category, xr0, xr1, xr2, xr3, xr4, xr5, xr6, xr7, xr8, xr265, xr266, xr267, xr268, xr269, xr270, xr271, xr272, xr273, xr274, xr275, xr276, xr277, xr278, xr279, xr280, xr281, xr282, xr283, xr284, xr285, xr286, xr287, xr288, xr289, xr290, xr291, xr292, xr293, xr294, xr295, xr296, xr297, xr298, xr299, xr300, xr301, xr302, xv2, xv3, xv4, xv6, xv7, xv266, xv268, xv269, xv270, xv271, xv273, xv274, xv275, xv276, xv277, xv278, xv279, xv280, xv281, xv282, xv283, xv284, xv285, xv286, xv287, xv288, xv289, xv290, xv291, xv292, xv293, xv294, xv295, xv296, xv297, xv298, xv299, xv300, xv301, xv302, znar0, znar1, znarI, zfitb, zfitb1, xC_N_mk, xC_tg_mk, xC_hd_mk, xC_wt_mk, xC_fb_mk, xC_R_mk, xC_G_mk, xC_P_mk, xC_Q_mk, xC_E_mk, xC_kr_mk, xC_ct_mk, xC_tt_mk, xC_A_mk, xC_qs_mk, xC_qx_mk, xC_qy_mk, xC_vs_mk, xC_lo_mk, xC_hg_mk, xC_ab_mk, xC_fo_mk, xC_pk_mk, xC_K_mk, xC_kd_mk, xM_n_mk, xM_tg_mk, xM_hd_mk, xM_wt_mk, xM_fb_mk, xM_kn_mk, xM_mn_mk, xM_rk_mk, xM_rs_mk, xM_rh_mk, xM_E_mk, xM_gn_mk, xM_ks_mk, xM_kt_mk, xM_kh_mk, xM_A_mk, xM_qs_mk, xM_qx_mk, xM_qy_mk, xM_rw_mk, xM_wo_mk, xM_ia_mk, xM_fo_mk, xM_pr_mk, xM_h_mk, xC_eta, xM_eta, e1, e3, e4, e5, e6, e7, e8, e9]
    rw [kk]
    have u1 : (fun j => if d + 1 ≤ j ∧ j < 8 then M.kh (8 * k + j) else upd M.rw d (M.kh (8 * k + d)) j) = (fun j => if d ≤ j ∧ j < 8 then M.kh (8 * k + j) else M.rw j) := by
      funext j; unfold upd; by_cases q : j = d
      · subst q; rw [if_neg (by omega), if_pos rfl, if_pos (by omega)]
      · by_cases q2 : d ≤ j ∧ j < 8
        · rw [if_pos (by omega), if_pos q2]
        · rw [if_neg (by omega), if_neg q, if_neg q2]
    simp only [xC_N_mk, xC_tg_mk, xC_hd_mk, xC_wt_mk, xC_fb_mk, xC_R_mk, xC_G_mk, xC_P_mk, xC_Q_mk, xC_E_mk, xC_kr_mk, xC_ct_mk, xC_tt_mk, xC_A_mk, xC_qs_mk, xC_qx_mk, xC_qy_mk, xC_vs_mk, xC_lo_mk, xC_hg_mk, xC_ab_mk, xC_fo_mk, xC_pk_mk, xC_K_mk, xC_kd_mk, xM_n_mk, xM_tg_mk, xM_hd_mk, xM_wt_mk, xM_fb_mk, xM_kn_mk, xM_mn_mk, xM_rk_mk, xM_rs_mk, xM_rh_mk, xM_E_mk, xM_gn_mk, xM_ks_mk, xM_kt_mk, xM_kh_mk, xM_A_mk, xM_qs_mk, xM_qx_mk, xM_qy_mk, xM_rw_mk, xM_wo_mk, xM_ia_mk, xM_fo_mk, xM_pr_mk, xM_h_mk, xC_eta, xM_eta, u1]
/-- the row is empty at its ends -/
def xrz (g : Nat → Int32) : Prop := ∀ d, d = 0 ∨ 8 ≤ d → g d = 0
theorem m_lay0 (hz : xrz M.rw) (hh : M.hd = fun d => nI (f d)) (h0 : ∀ d, d = 0 ∨ 8 ≤ d → f d = 0) : zC 28 [.ref 283, .int (-1)] (xW L xs s C M) = some (none, xW L xs s C (xM.mk M.n M.tg M.hd M.wt M.fb M.kn M.mn M.rk M.rs M.rh M.E M.gn M.ks M.kt M.kh M.A M.qs M.qx M.qy (fun d => nI (f d)) M.wo M.ia M.fo M.pr M.h)) := by
  have k := l_lay0 (L := L) (s := s) (xs := xs) (C := C) 7 1 M (by omega) (by omega)
  have u1 : (fun j => if 1 ≤ j ∧ j < 8 then M.hd j else M.rw j) = fun d => nI (f d) := by
    funext j
    by_cases q : 1 ≤ j ∧ j < 8
    · rw [if_pos q, hh]
    · rw [if_neg q, hz j (by omega), h0 j (by omega)]; rfl
  rw [u1, show nI 1 = 1 from rfl] at k
  simp only [I_X10_lay, E_X10_lay, zclr_none]
  exact k
theorem m_lay1 {k : Nat} (hk : k < 20) (hz : xrz M.rw) (hh : ∀ d, 1 ≤ d → d < 8 → M.kh (8 * k + d) = nI (f d)) (h0 : ∀ d, d = 0 ∨ 8 ≤ d → f d = 0) : zC 28 [.ref 283, .int (nI k)] (xW L xs s C M) = some (none, xW L xs s C (xM.mk M.n M.tg M.hd M.wt M.fb M.kn M.mn M.rk M.rs M.rh M.E M.gn M.ks M.kt M.kh M.A M.qs M.qx M.qy (fun d => nI (f d)) M.wo M.ia M.fo M.pr M.h)) := by
  have k1 := l_lay1 (L := L) (s := s) (xs := xs) (C := C) hk 7 1 M (by omega) (by omega)
  have u1 : (fun j => if 1 ≤ j ∧ j < 8 then M.kh (8 * k + j) else M.rw j) = fun d => nI (f d) := by
    funext j
    by_cases q : 1 ≤ j ∧ j < 8
    · rw [if_pos q, hh j q.1 q.2]
    · rw [if_neg q, hz j (by omega), h0 j (by omega)]; rfl
  rw [u1, show nI 1 = 1 from rfl] at k1
  simp only [I_X10_lay, E_X10_lay, zclr_none]
  exact k1
end MODEL1
