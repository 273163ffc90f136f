/-! the reference looks through all trees -/
section LOOK
variable {L s : Nat} {xs : Nat → Int32} {C : xC} {M : xM} {N : Nat} {f : Nat → Nat} {fb : Nat → Nat} {wt : Nat → Int32}
theorem l_rings {d v : Nat} (hd1 : 1 ≤ d) (hd : d ≤ N) (hN : N ≤ 7) (hr : ∀ x, 1 ≤ x → x < d → M.rw x = nI (f x)) (hf : ∀ x, f x ≤ N) (hv : v = 0 ∨ d ≤ v) : ∀ (j x : Nat), x ≤ N → zit f j x = v → (∀ i, i < j → 0 < zit f i x ∧ zit f i x < d) → zD 32 7 [some (.ref 283), some (.int (nI d)), some (.int (nI x))] [] (xW L xs s C M) = some (some (.int (if v = d then 1 else 0)), xW L xs s C M)
  | 0, x, hx, hz, _ => by
    have : x = v := hz
    subst this
    have e3 : (nI x ≤ 0) ↔ x = 0 := by rw [show (0 : Int32) = nI 0 from rfl, zle (by omega) (by omega)]; omega
    have e4 : (nI d ≤ nI x) ↔ d ≤ x := zle (by omega) (by omega)
    have e5 : (nI x = nI d) ↔ x = d := zeq (by omega) (by omega)
    rw [E_X10_rings_h7]
    by_cases q : x = 0
    · have q2 : ¬ x = d := by omega
      simp [E_X10_rings, zfok, zfv, zfs', ziok, ziv, zpok, zis', zlok, zlv', zls', zbok, zrok, zrv', zrs', zaok, zan, zcok, zcs', zis, zgv, zgh, zcat, zw_1, zw_21, zw_at, zclr_int, zclr_ref, zclr_null, zclr_none, zclr_long, zclr_clr, zbv_0, zbv_1, zbv_ite, zbv_ite', Value.category, xr0, xr1, xr2, xr3, xr4, xr5, xr6, xr7, xr8, xr265, xr266, xr267, xr268, xr269, xr270, xr271, xr272, xr273, xr274, xr275, xr276, xr277, xr278, xr279, xr280, xr281, xr282, xr283, xr284, xr285, xr286, xr287, xr288, xr289, xr290, xr291, xr292, xr293, xr294, xr295, xr296, xr297, xr298, xr299, xr300, xr301, xr302, xv2, xv3, xv4, xv6, xv7, xv266, xv268, xv269, xv270, xv271, xv273, xv274, xv275, xv276, xv277, xv278, xv279, xv280, xv281, xv282, xv283, xv284, xv285, xv286, xv287, xv288, xv289, xv290, xv291, xv292, xv293, xv294, xv295, xv296, xv297, xv298, xv299, xv300, xv301, xv302, znar0, znar1, znarI, zfitb, zfitb1, xC_N_mk, xC_tg_mk, xC_hd_mk, xC_wt_mk, xC_fb_mk, xC_R_mk, xC_G_mk, xC_P_mk, xC_Q_mk, xC_E_mk, xC_kr_mk, xC_ct_mk, xC_tt_mk, xC_A_mk, xC_qs_mk, xC_qx_mk, xC_qy_mk, xC_vs_mk, xC_lo_mk, xC_hg_mk, xC_ab_mk, xC_fo_mk, xC_pk_mk, xC_K_mk, xC_kd_mk, xM_n_mk, xM_tg_mk, xM_hd_mk, xM_wt_mk, xM_fb_mk, xM_kn_mk, xM_mn_mk, xM_rk_mk, xM_rs_mk, xM_rh_mk, xM_E_mk, xM_gn_mk, xM_ks_mk, xM_kt_mk, xM_kh_mk, xM_A_mk, xM_qs_mk, xM_qx_mk, xM_qy_mk, xM_rw_mk, xM_wo_mk, xM_ia_mk, xM_fo_mk, xM_pr_mk, xM_h_mk, xS_N_mk, xS_tg_mk, xS_hd_mk, xS_wt_mk, xS_fb_mk, xS_E_mk, xS_gn_mk, xS_ks_mk, xS_kt_mk, xS_kh_mk, xS_A_mk, xS_qs_mk, xS_qx_mk, xS_qy_mk, xC_eta, xM_eta, xS_eta, e3.mpr q, e5, q2]
    · have q3 : d ≤ x := by omega
      have q4 : ¬ nI x ≤ 0 := fun z => q (e3.mp z)
      by_cases q2 : x = d
      · simp [E_X10_rings, zfok, zfv, zfs', ziok, ziv, zpok, zis', zlok, zlv', zls', zbok, zrok, zrv', zrs', zaok, zan, zcok, zcs', zis, zgv, zgh, zcat, zw_1, zw_21, zw_at, zclr_int, zclr_ref, zclr_null, zclr_none, zclr_long, zclr_clr, zbv_0, zbv_1, zbv_ite, zbv_ite', Value.category, xr0, xr1, xr2, xr3, xr4, xr5, xr6, xr7, xr8, xr265, xr266, xr267, xr268, xr269, xr270, xr271, xr272, xr273, xr274, xr275, xr276, xr277, xr278, xr279, xr280, xr281, xr282, xr283, xr284, xr285, xr286, xr287, xr288, xr289, xr290, xr291, xr292, xr293, xr294, xr295, xr296, xr297, xr298, xr299, xr300, xr301, xr302, xv2, xv3, xv4, xv6, xv7, xv266, xv268, xv269, xv270, xv271, xv273, xv274, xv275, xv276, xv277, xv278, xv279, xv280, xv281, xv282, xv283, xv284, xv285, xv286, xv287, xv288, xv289, xv290, xv291, xv292, xv293, xv294, xv295, xv296, xv297, xv298, xv299, xv300, xv301, xv302, znar0, znar1, znarI, zfitb, zfitb1, xC_N_mk, xC_tg_mk, xC_hd_mk, xC_wt_mk, xC_fb_mk, xC_R_mk, xC_G_mk, xC_P_mk, xC_Q_mk, xC_E_mk, xC_kr_mk, xC_ct_mk, xC_tt_mk, xC_A_mk, xC_qs_mk, xC_qx_mk, xC_qy_mk, xC_vs_mk, xC_lo_mk, xC_hg_mk, xC_ab_mk, xC_fo_mk, xC_pk_mk, xC_K_mk, xC_kd_mk, xM_n_mk, xM_tg_mk, xM_hd_mk, xM_wt_mk, xM_fb_mk, xM_kn_mk, xM_mn_mk, xM_rk_mk, xM_rs_mk, xM_rh_mk, xM_E_mk, xM_gn_mk, xM_ks_mk, xM_kt_mk, xM_kh_mk, xM_A_mk, xM_qs_mk, xM_qx_mk, xM_qy_mk, xM_rw_mk, xM_wo_mk, xM_ia_mk, xM_fo_mk, xM_pr_mk, xM_h_mk, xS_N_mk, xS_tg_mk, xS_hd_mk, xS_wt_mk, xS_fb_mk, xS_E_mk, xS_gn_mk, xS_ks_mk, xS_kt_mk, xS_kh_mk, xS_A_mk, xS_qs_mk, xS_qx_mk, xS_qy_mk, xC_eta, xM_eta, xS_eta, q4, e4.mpr q3, e5, q2]
      · simp [E_X10_rings, zfok, zfv, zfs', ziok, ziv, zpok, zis', zlok, zlv', zls', zbok, zrok, zrv', zrs', zaok, zan, zcok, zcs', zis, zgv, zgh, zcat, zw_1, zw_21, zw_at, zclr_int, zclr_ref, zclr_null, zclr_none, zclr_long, zclr_clr, zbv_0, zbv_1, zbv_ite, zbv_ite', Value.category, xr0, xr1, xr2, xr3, xr4, xr5, xr6, xr7, xr8, xr265, xr266, xr267, xr268, xr269, xr270, xr271, xr272, xr273, xr274, xr275, xr276, xr277, xr278, xr279, xr280, xr281, xr282, xr283, xr284, xr285, xr286, xr287, xr288, xr289, xr290, xr291, xr292, xr293, xr294, xr295, xr296, xr297, xr298, xr299, xr300, xr301, xr302, xv2, xv3, xv4, xv6, xv7, xv266, xv268, xv269, xv270, xv271, xv273, xv274, xv275, xv276, xv277, xv278, xv279, xv280, xv281, xv282, xv283, xv284, xv285, xv286, xv287, xv288, xv289, xv290, xv291, xv292, xv293, xv294, xv295, xv296, xv297, xv298, xv299, xv300, xv301, xv302, znar0, znar1, znarI, zfitb, zfitb1, xC_N_mk, xC_tg_mk, xC_hd_mk, xC_wt_mk, xC_fb_mk, xC_R_mk, xC_G_mk, xC_P_mk, xC_Q_mk, xC_E_mk, xC_kr_mk, xC_ct_mk, xC_tt_mk, xC_A_mk, xC_qs_mk, xC_qx_mk, xC_qy_mk, xC_vs_mk, xC_lo_mk, xC_hg_mk, xC_ab_mk, xC_fo_mk, xC_pk_mk, xC_K_mk, xC_kd_mk, xM_n_mk, xM_tg_mk, xM_hd_mk, xM_wt_mk, xM_fb_mk, xM_kn_mk, xM_mn_mk, xM_rk_mk, xM_rs_mk, xM_rh_mk, xM_E_mk, xM_gn_mk, xM_ks_mk, xM_kt_mk, xM_kh_mk, xM_A_mk, xM_qs_mk, xM_qx_mk, xM_qy_mk, xM_rw_mk, xM_wo_mk, xM_ia_mk, xM_fo_mk, xM_pr_mk, xM_h_mk, xS_N_mk, xS_tg_mk, xS_hd_mk, xS_wt_mk, xS_fb_mk, xS_E_mk, xS_gn_mk, xS_ks_mk, xS_kt_mk, xS_kh_mk, xS_A_mk, xS_qs_mk, xS_qx_mk, xS_qy_mk, xC_eta, xM_eta, xS_eta, q4, e4.mpr q3, e5, q2]
  | j + 1, x, hx, hz, hp => by
    have p0 := hp 0 (by omega)
    simp only [zit] at p0
    have e3 : ¬ nI x ≤ 0 := fun z => absurd ((zle (b := 0) (by omega) (by omega)).mp z) (by omega)
    have e4 : ¬ nI d ≤ nI x := fun z => absurd ((zle (by omega) (by omega)).mp z) (by omega)
    have e5 : zin (nI x) 8 = true := zin8 (by omega) (by omega)
    have e6 : (nI x).toNatClampNeg = x := zcl7 (by omega)
    have e7 := hr x (by omega) (by omega)
    have k := l_rings hd1 hd hN hr hf hv j (f x) (hf x) hz (fun i hi => hp (i + 1) (by omega))
    rw [E_X10_rings_h7]
    simp [E_X10_rings, zfok, zfv, zfs', ziok, ziv, zpok, zis', zlok, zlv', zls', zbok, zrok, zrv', zrs', zaok, zan, zcok, zcs', zis, zgv, zgh, zcat, zw_1, zw_21, zw_at, zclr_int, zclr_ref, zclr_null, zclr_none, zclr_long, zclr_clr, zbv_0, zbv_1, zbv_ite, zbv_ite', Value.category, xr0, xr1, xr2, xr3, xr4, xr5, xr6, xr7, xr8, xr265, xr266, xr267, xr268, xr269, xr270, xr271, xr272, xr273, xr274, xr275, xr276, xr277, xr278, xr279, xr280, xr281, xr282, xr283, xr284, xr285, xr286, xr287, xr288, xr289, xr290, xr291, xr292, xr293, xr294, xr295, xr296, xr297, xr298, xr299, xr300, xr301, xr302, xv2, xv3, xv4, xv6, xv7, xv266, xv268, xv269, xv270, xv271, xv273, xv274, xv275, xv276, xv277, xv278, xv279, xv280, xv281, xv282, xv283, xv284, xv285, xv286, xv287, xv288, xv289, xv290, xv291, xv292, xv293, xv294, xv295, xv296, xv297, xv298, xv299, xv300, xv301, xv302, znar0, znar1, znarI, zfitb, zfitb1, xC_N_mk, xC_tg_mk, xC_hd_mk, xC_wt_mk, xC_fb_mk, xC_R_mk, xC_G_mk, xC_P_mk, xC_Q_mk, xC_E_mk, xC_kr_mk, xC_ct_mk, xC_tt_mk, xC_A_mk, xC_qs_mk, xC_qx_mk, xC_qy_mk, xC_vs_mk, xC_lo_mk, xC_hg_mk, xC_ab_mk, xC_fo_mk, xC_pk_mk, xC_K_mk, xC_kd_mk, xM_n_mk, xM_tg_mk, xM_hd_mk, xM_wt_mk, xM_fb_mk, xM_kn_mk, xM_mn_mk, xM_rk_mk, xM_rs_mk, xM_rh_mk, xM_E_mk, xM_gn_mk, xM_ks_mk, xM_kt_mk, xM_kh_mk, xM_A_mk, xM_qs_mk, xM_qx_mk, xM_qy_mk, xM_rw_mk, xM_wo_mk, xM_ia_mk, xM_fo_mk, xM_pr_mk, xM_h_mk, xS_N_mk, xS_tg_mk, xS_hd_mk, xS_wt_mk, xS_fb_mk, xS_E_mk, xS_gn_mk, xS_ks_mk, xS_kt_mk, xS_kh_mk, xS_A_mk, xS_qs_mk, xS_qx_mk, xS_qy_mk, xC_eta, xM_eta, xS_eta, e3, e4, e5, e6, e7]
    exact k
theorem s_rings {d v : Nat} (hd1 : 1 ≤ d) (hd : d ≤ N) (hN : N ≤ 7) (hr : ∀ x, 1 ≤ x → x ≤ d → M.rw x = nI (f x)) (hf : ∀ x, f x ≤ N) (hv : fxv f d (f d) v) : zC 32 [.ref 283, .int (nI d)] (xW L xs s C M) = some (some (.int (if v = d then 1 else 0)), xW L xs s C M) := by
  obtain ⟨j, a, b, c⟩ := hv
  have k := l_rings (L := L) (xs := xs) (s := s) (C := C) hd1 hd hN (fun x h1 h2 => hr x h1 (by omega)) hf b j (f d) (hf d) a c
  have e5 : zin (nI d) 8 = true := zin8 (by omega) (by omega)
  have e6 : (nI d).toNatClampNeg = d := zcl7 (by omega)
  have e7 := hr d hd1 (Nat.le_refl _)
  simp [I_X10_rings, E_X10_rings, zfok, zfv, zfs', ziok, ziv, zpok, zis', zlok, zlv', zls', zbok, zrok, zrv', zrs', zaok, zan, zcok, zcs', zis, zgv, zgh, zcat, zw_1, zw_21, zw_at, zclr_int, zclr_ref, zclr_null, zclr_none, zclr_long, zclr_clr, zbv_0, zbv_1, zbv_ite, zbv_ite', Value.category, xr0, xr1, xr2, xr3, xr4, xr5, xr6, xr7, xr8, xr265, xr266, xr267, xr268, xr269, xr270, xr271, xr272, xr273, xr274, xr275, xr276, xr277, xr278, xr279, xr280, xr281, xr282, xr283, xr284, xr285, xr286, xr287, xr288, xr289, xr290, xr291, xr292, xr293, xr294, xr295, xr296, xr297, xr298, xr299, xr300, xr301, xr302, xv2, xv3, xv4, xv6, xv7, xv266, xv268, xv269, xv270, xv271, xv273, xv274, xv275, xv276, xv277, xv278, xv279, xv280, xv281, xv282, xv283, xv284, xv285, xv286, xv287, xv288, xv289, xv290, xv291, xv292, xv293, xv294, xv295, xv296, xv297, xv298, xv299, xv300, xv301, xv302, znar0, znar1, znarI, zfitb, zfitb1, xC_N_mk, xC_tg_mk, xC_hd_mk, xC_wt_mk, xC_fb_mk, xC_R_mk, xC_G_mk, xC_P_mk, xC_Q_mk, xC_E_mk, xC_kr_mk, xC_ct_mk, xC_tt_mk, xC_A_mk, xC_qs_mk, xC_qx_mk, xC_qy_mk, xC_vs_mk, xC_lo_mk, xC_hg_mk, xC_ab_mk, xC_fo_mk, xC_pk_mk, xC_K_mk, xC_kd_mk, xM_n_mk, xM_tg_mk, xM_hd_mk, xM_wt_mk, xM_fb_mk, xM_kn_mk, xM_mn_mk, xM_rk_mk, xM_rs_mk, xM_rh_mk, xM_E_mk, xM_gn_mk, xM_ks_mk, xM_kt_mk, xM_kh_mk, xM_A_mk, xM_qs_mk, xM_qx_mk, xM_qy_mk, xM_rw_mk, xM_wo_mk, xM_ia_mk, xM_fo_mk, xM_pr_mk, xM_h_mk, xS_N_mk, xS_tg_mk, xS_hd_mk, xS_wt_mk, xS_fb_mk, xS_E_mk, xS_gn_mk, xS_ks_mk, xS_kt_mk, xS_kh_mk, xS_A_mk, xS_qs_mk, xS_qx_mk, xS_qy_mk, xC_eta, xM_eta, xS_eta, e5, e6, e7]
  exact k
def tss (N : Nat) (f : Nat → Nat) : Bool := zall (zmsd f N) N 1
def lok (wt : Nat → Int32) (N : Nat) (T : List (Nat → Nat)) (mn : Nat → Int64) (rk rs rh : Nat → Int32) : Prop := nst wt N 0 T (mn 0) (rk 0) rs rh ∧ nst wt N 1 (T.filter (tss N)) (mn 1) (rk 1) rs rh
theorem nI_mm (h : Nat) : nI h - 1 + 1 = nI h := by grind
theorem l_49A {d : Nat} (hd1 : 1 ≤ d) (hd : d ≤ N) (hN : N ≤ 7) (hn : M.n = nI N) (hr : M.rw d = nI (N + 1) - 1) {l2 l3 : Option Value} : zD 119 49 [some (.ref 283), some (.int (nI d)), l2, l3] [] (xW L xs s C M) = zD 119 49 [some (.ref 283), some (.int (nI (d - 1))), l2, l3] [] (xW L xs s C (xM.mk M.n M.tg M.hd M.wt M.fb M.kn M.mn M.rk M.rs M.rh M.E M.gn M.ks M.kt M.kh M.A M.qs M.qx M.qy (upd M.rw d (nI (N + 1))) M.wo M.ia M.fo M.pr M.h)) := by
  have e1 : ¬ nI d ≤ 0 := fun z => absurd ((zle (b := 0) (by omega) (by omega)).mp z) (by omega)
  have e2 : zin (nI d) 8 = true := zin8 (by omega) (by omega)
  have e3 : (nI d).toNatClampNeg = d := zcl7 (by omega)
  have e4 : ¬ nI (N + 1) ≤ nI N := fun z => absurd ((zle (by omega) (by omega)).mp z) (by omega)
  have e6 : nI d + -1 = nI (d - 1) := by
    obtain ⟨k', rfl⟩ : ∃ k', d = k' + 1 := ⟨d - 1, by omega⟩
    rw [Nat.add_sub_cancel, ← nI_pred k']; grind
  have e7 : M.rw d + 1 = nI (N + 1) := by rw [hr]; exact nI_mm _
  have e8 : upd M.rw d (nI (N + 1)) d = nI (N + 1) := by simp [upd]
  rw [← hn] at e4
  rw [E_X10_look_h49]
  simp [E_X10_look, zfok, zfv, zfs', ziok, ziv, zpok, zis', zlok, zlv', zls', zbok, zrok, zrv', zrs', zaok, zan, zcok, zcs', zis, zgv, zgh, zcat, zw_1, zw_21, zw_at, zclr_int, zclr_ref, zclr_null, zclr_none, zclr_long, zclr_clr, zbv_0, zbv_1, zbv_ite, zbv_ite', Value.category, xr0, xr1, xr2, xr3, xr4, xr5, xr6, xr7, xr8, xr265, xr266, xr267, xr268, xr269, xr270, xr271, xr272, xr273, xr274, xr275, xr276, xr277, xr278, xr279, xr280, xr281, xr282, xr283, xr284, xr285, xr286, xr287, xr288, xr289, xr290, xr291, xr292, xr293, xr294, xr295, xr296, xr297, xr298, xr299, xr300, xr301, xr302, xv2, xv3, xv4, xv6, xv7, xv266, xv268, xv269, xv270, xv271, xv273, xv274, xv275, xv276, xv277, xv278, xv279, xv280, xv281, xv282, xv283, xv284, xv285, xv286, xv287, xv288, xv289, xv290, xv291, xv292, xv293, xv294, xv295, xv296, xv297, xv298, xv299, xv300, xv301, xv302, znar0, znar1, znarI, zfitb, zfitb1, xC_N_mk, xC_tg_mk, xC_hd_mk, xC_wt_mk, xC_fb_mk, xC_R_mk, xC_G_mk, xC_P_mk, xC_Q_mk, xC_E_mk, xC_kr_mk, xC_ct_mk, xC_tt_mk, xC_A_mk, xC_qs_mk, xC_qx_mk, xC_qy_mk, xC_vs_mk, xC_lo_mk, xC_hg_mk, xC_ab_mk, xC_fo_mk, xC_pk_mk, xC_K_mk, xC_kd_mk, xM_n_mk, xM_tg_mk, xM_hd_mk, xM_wt_mk, xM_fb_mk, xM_kn_mk, xM_mn_mk, xM_rk_mk, xM_rs_mk, xM_rh_mk, xM_E_mk, xM_gn_mk, xM_ks_mk, xM_kt_mk, xM_kh_mk, xM_A_mk, xM_qs_mk, xM_qx_mk, xM_qy_mk, xM_rw_mk, xM_wo_mk, xM_ia_mk, xM_fo_mk, xM_pr_mk, xM_h_mk, xS_N_mk, xS_tg_mk, xS_hd_mk, xS_wt_mk, xS_fb_mk, xS_E_mk, xS_gn_mk, xS_ks_mk, xS_kt_mk, xS_kh_mk, xS_A_mk, xS_qs_mk, xS_qx_mk, xS_qy_mk, xC_eta, xM_eta, xS_eta, e1, e2, e3, e4, e6, e7, e8]
section STEP
variable {d h : Nat} (hd1 : 1 ≤ d) (hd : d ≤ N) (hN : N ≤ 7) (hn : M.n = nI N) (hfb : M.fb = fun k => nI (fb k)) (hf1 : ∀ k, fb k ≤ 1) (hh : h ≤ N) (hf : ∀ x, f x ≤ N) (hfd : f d = h) (hr : ∀ x, 1 ≤ x → x < d → M.rw x = nI (f x)) (hrd : M.rw d = nI h - 1) (htr : ftr (d - 1) 0 f = true)
theorem l_49B (hd1 : 1 ≤ d) (hd : d ≤ N) (hN : N ≤ 7) (hn : M.n = nI N) (hfb : M.fb = fun k => nI (fb k)) (hf1 : ∀ k, fb k ≤ 1) (hh : h ≤ N) (hf : ∀ x, f x ≤ N) (hfd : f d = h) (hr : ∀ x, 1 ≤ x → x < d → M.rw x = nI (f x)) (hrd : M.rw d = nI h - 1) (htr : ftr (d - 1) 0 f = true) (hno : ¬ (zisf fb d h = true ∧ ftr d 0 f = true)) {l2 l3 : Option Value} : zD 119 49 [some (.ref 283), some (.int (nI d)), l2, l3] [] (xW L xs s C M) = zD 119 49 [some (.ref 283), some (.int (nI d)), l2, l3] [] (xW L xs s C (xM.mk M.n M.tg M.hd M.wt M.fb M.kn M.mn M.rk M.rs M.rh M.E M.gn M.ks M.kt M.kh M.A M.qs M.qx M.qy (upd M.rw d (nI h)) M.wo M.ia M.fo M.pr M.h)) := by
  have e1 : ¬ nI d ≤ 0 := fun z => absurd ((zle (b := 0) (by omega) (by omega)).mp z) (by omega)
  have e2 : zin (nI d) 8 = true := zin8 (by omega) (by omega)
  have e3 : (nI d).toNatClampNeg = d := zcl7 (by omega)
  have e4 : nI h ≤ nI N := (zle (by omega) (by omega)).mpr hh
  rw [← hn] at e4
  have e7 : M.rw d + 1 = nI h := by rw [hrd]; exact nI_mm _
  have e8 : upd M.rw d (nI h) d = nI h := by simp [upd]
  have e9 : (nI h = nI d) ↔ h = d := zeq (by omega) (by omega)
  have g1 : zin (nI (8 * d + h)) 64 = true := zin8 (by omega) (by omega)
  have g2 : (nI (8 * d + h)).toNatClampNeg = 8 * d + h := zcl7 (by omega)
  have g3 : M.fb (8 * d + h) = nI (fb (8 * d + h)) := by rw [hfb]
  have g4 := hf1 (8 * d + h)
  have g5 : (nI (fb (8 * d + h)) = 0) ↔ fb (8 * d + h) = 0 := zeq (b := 0) (by omega) (by omega)
  rw [E_X10_look_h49]
  by_cases q1 : h = d
  · rw [q1] at e4 e7 e8 ⊢
    simp [E_X10_look, zfok, zfv, zfs', ziok, ziv, zpok, zis', zlok, zlv', zls', zbok, zrok, zrv', zrs', zaok, zan, zcok, zcs', zis, zgv, zgh, zcat, zw_1, zw_21, zw_at, zclr_int, zclr_ref, zclr_null, zclr_none, zclr_long, zclr_clr, zbv_0, zbv_1, zbv_ite, zbv_ite', Value.category, xr0, xr1, xr2, xr3, xr4, xr5, xr6, xr7, xr8, xr265, xr266, xr267, xr268, xr269, xr270, xr271, xr272, xr273, xr274, xr275, xr276, xr277, xr278, xr279, xr280, xr281, xr282, xr283, xr284, xr285, xr286, xr287, xr288, xr289, xr290, xr291, xr292, xr293, xr294, xr295, xr296, xr297, xr298, xr299, xr300, xr301, xr302, xv2, xv3, xv4, xv6, xv7, xv266, xv268, xv269, xv270, xv271, xv273, xv274, xv275, xv276, xv277, xv278, xv279, xv280, xv281, xv282, xv283, xv284, xv285, xv286, xv287, xv288, xv289, xv290, xv291, xv292, xv293, xv294, xv295, xv296, xv297, xv298, xv299, xv300, xv301, xv302, znar0, znar1, znarI, zfitb, zfitb1, xC_N_mk, xC_tg_mk, xC_hd_mk, xC_wt_mk, xC_fb_mk, xC_R_mk, xC_G_mk, xC_P_mk, xC_Q_mk, xC_E_mk, xC_kr_mk, xC_ct_mk, xC_tt_mk, xC_A_mk, xC_qs_mk, xC_qx_mk, xC_qy_mk, xC_vs_mk, xC_lo_mk, xC_hg_mk, xC_ab_mk, xC_fo_mk, xC_pk_mk, xC_K_mk, xC_kd_mk, xM_n_mk, xM_tg_mk, xM_hd_mk, xM_wt_mk, xM_fb_mk, xM_kn_mk, xM_mn_mk, xM_rk_mk, xM_rs_mk, xM_rh_mk, xM_E_mk, xM_gn_mk, xM_ks_mk, xM_kt_mk, xM_kh_mk, xM_A_mk, xM_qs_mk, xM_qx_mk, xM_qy_mk, xM_rw_mk, xM_wo_mk, xM_ia_mk, xM_fo_mk, xM_pr_mk, xM_h_mk, xS_N_mk, xS_tg_mk, xS_hd_mk, xS_wt_mk, xS_fb_mk, xS_E_mk, xS_gn_mk, xS_ks_mk, xS_kt_mk, xS_kh_mk, xS_A_mk, xS_qs_mk, xS_qx_mk, xS_qy_mk, xC_eta, xM_eta, xS_eta, e1, e2, e3, e4, e7, e8]
  · by_cases q2 : fb (8 * d + h) = 0
    · obtain ⟨v, hv⟩ := ftr_ex htr (f d)
      have ring := s_rings (L := L) (xs := xs) (s := s) (C := C) (M := (xM.mk M.n M.tg M.hd M.wt M.fb M.kn M.mn M.rk M.rs M.rh M.E M.gn M.ks M.kt M.kh M.A M.qs M.qx M.qy (upd M.rw d (nI h)) M.wo M.ia M.fo M.pr M.h)) (f := f) hd1 hd hN (fun x h1 h2 => by
        show upd M.rw d (nI h) x = nI (f x)
        unfold upd
        by_cases w : x = d
        · rw [if_pos w, w, hfd]
        · rw [if_neg w]; exact hr x h1 (by omega)) hf hv
      have vd : v = d := by
        apply Classical.byContradiction
        intro w
        exact hno ⟨by simp [zisf, q1, q2], (ftr_step hd1 htr hv).mpr w⟩
      rw [if_pos vd] at ring
      simp [E_X10_look, zfok, zfv, zfs', ziok, ziv, zpok, zis', zlok, zlv', zls', zbok, zrok, zrv', zrs', zaok, zan, zcok, zcs', zis, zgv, zgh, zcat, zw_1, zw_21, zw_at, zclr_int, zclr_ref, zclr_null, zclr_none, zclr_long, zclr_clr, zbv_0, zbv_1, zbv_ite, zbv_ite', Value.category, xr0, xr1, xr2, xr3, xr4, xr5, xr6, xr7, xr8, xr265, xr266, xr267, xr268, xr269, xr270, xr271, xr272, xr273, xr274, xr275, xr276, xr277, xr278, xr279, xr280, xr281, xr282, xr283, xr284, xr285, xr286, xr287, xr288, xr289, xr290, xr291, xr292, xr293, xr294, xr295, xr296, xr297, xr298, xr299, xr300, xr301, xr302, xv2, xv3, xv4, xv6, xv7, xv266, xv268, xv269, xv270, xv271, xv273, xv274, xv275, xv276, xv277, xv278, xv279, xv280, xv281, xv282, xv283, xv284, xv285, xv286, xv287, xv288, xv289, xv290, xv291, xv292, xv293, xv294, xv295, xv296, xv297, xv298, xv299, xv300, xv301, xv302, znar0, znar1, znarI, zfitb, zfitb1, xC_N_mk, xC_tg_mk, xC_hd_mk, xC_wt_mk, xC_fb_mk, xC_R_mk, xC_G_mk, xC_P_mk, xC_Q_mk, xC_E_mk, xC_kr_mk, xC_ct_mk, xC_tt_mk, xC_A_mk, xC_qs_mk, xC_qx_mk, xC_qy_mk, xC_vs_mk, xC_lo_mk, xC_hg_mk, xC_ab_mk, xC_fo_mk, xC_pk_mk, xC_K_mk, xC_kd_mk, xM_n_mk, xM_tg_mk, xM_hd_mk, xM_wt_mk, xM_fb_mk, xM_kn_mk, xM_mn_mk, xM_rk_mk, xM_rs_mk, xM_rh_mk, xM_E_mk, xM_gn_mk, xM_ks_mk, xM_kt_mk, xM_kh_mk, xM_A_mk, xM_qs_mk, xM_qx_mk, xM_qy_mk, xM_rw_mk, xM_wo_mk, xM_ia_mk, xM_fo_mk, xM_pr_mk, xM_h_mk, xS_N_mk, xS_tg_mk, xS_hd_mk, xS_wt_mk, xS_fb_mk, xS_E_mk, xS_gn_mk, xS_ks_mk, xS_kt_mk, xS_kh_mk, xS_A_mk, xS_qs_mk, xS_qx_mk, xS_qy_mk, xC_eta, xM_eta, xS_eta, e1, e2, e3, e4, e7, e8, e9, q1, z8, g1, g2, g3, g5, q2, ring]
    · simp [E_X10_look, zfok, zfv, zfs', ziok, ziv, zpok, zis', zlok, zlv', zls', zbok, zrok, zrv', zrs', zaok, zan, zcok, zcs', zis, zgv, zgh, zcat, zw_1, zw_21, zw_at, zclr_int, zclr_ref, zclr_null, zclr_none, zclr_long, zclr_clr, zbv_0, zbv_1, zbv_ite, zbv_ite', Value.category, xr0, xr1, xr2, xr3, xr4, xr5, xr6, xr7, xr8, xr265, xr266, xr267, xr268, xr269, xr270, xr271, xr272, xr273, xr274, xr275, xr276, xr277, xr278, xr279, xr280, xr281, xr282, xr283, xr284, xr285, xr286, xr287, xr288, xr289, xr290, xr291, xr292, xr293, xr294, xr295, xr296, xr297, xr298, xr299, xr300, xr301, xr302, xv2, xv3, xv4, xv6, xv7, xv266, xv268, xv269, xv270, xv271, xv273, xv274, xv275, xv276, xv277, xv278, xv279, xv280, xv281, xv282, xv283, xv284, xv285, xv286, xv287, xv288, xv289, xv290, xv291, xv292, xv293, xv294, xv295, xv296, xv297, xv298, xv299, xv300, xv301, xv302, znar0, znar1, znarI, zfitb, zfitb1, xC_N_mk, xC_tg_mk, xC_hd_mk, xC_wt_mk, xC_fb_mk, xC_R_mk, xC_G_mk, xC_P_mk, xC_Q_mk, xC_E_mk, xC_kr_mk, xC_ct_mk, xC_tt_mk, xC_A_mk, xC_qs_mk, xC_qx_mk, xC_qy_mk, xC_vs_mk, xC_lo_mk, xC_hg_mk, xC_ab_mk, xC_fo_mk, xC_pk_mk, xC_K_mk, xC_kd_mk, xM_n_mk, xM_tg_mk, xM_hd_mk, xM_wt_mk, xM_fb_mk, xM_kn_mk, xM_mn_mk, xM_rk_mk, xM_rs_mk, xM_rh_mk, xM_E_mk, xM_gn_mk, xM_ks_mk, xM_kt_mk, xM_kh_mk, xM_A_mk, xM_qs_mk, xM_qx_mk, xM_qy_mk, xM_rw_mk, xM_wo_mk, xM_ia_mk, xM_fo_mk, xM_pr_mk, xM_h_mk, xS_N_mk, xS_tg_mk, xS_hd_mk, xS_wt_mk, xS_fb_mk, xS_E_mk, xS_gn_mk, xS_ks_mk, xS_kt_mk, xS_kh_mk, xS_A_mk, xS_qs_mk, xS_qx_mk, xS_qy_mk, xC_eta, xM_eta, xS_eta, e1, e2, e3, e4, e7, e8, e9, q1, z8, g1, g2, g3, g5, q2]
theorem l_49C (hd1 : 1 ≤ d) (hd : d ≤ N) (hN : N ≤ 7) (hn : M.n = nI N) (hfb : M.fb = fun k => nI (fb k)) (hf1 : ∀ k, fb k ≤ 1) (hh : h ≤ N) (hf : ∀ x, f x ≤ N) (hfd : f d = h) (hr : ∀ x, 1 ≤ x → x < d → M.rw x = nI (f x)) (hrd : M.rw d = nI h - 1) (htr : ftr (d - 1) 0 f = true) (hyes : zisf fb d h = true ∧ ftr d 0 f = true) {l2 l3 : Option Value} : zD 119 49 [some (.ref 283), some (.int (nI d)), l2, l3] [] (xW L xs s C M) = zD 119 119 [some (.ref 283), some (.int (nI d)), l2, l3] [] (xW L xs s C (xM.mk M.n M.tg M.hd M.wt M.fb M.kn M.mn M.rk M.rs M.rh M.E M.gn M.ks M.kt M.kh M.A M.qs M.qx M.qy (upd M.rw d (nI h)) M.wo M.ia M.fo M.pr M.h)) := by
  have e1 : ¬ nI d ≤ 0 := fun z => absurd ((zle (b := 0) (by omega) (by omega)).mp z) (by omega)
  have e2 : zin (nI d) 8 = true := zin8 (by omega) (by omega)
  have e3 : (nI d).toNatClampNeg = d := zcl7 (by omega)
  have e4 : nI h ≤ nI N := (zle (by omega) (by omega)).mpr hh
  rw [← hn] at e4
  have e7 : M.rw d + 1 = nI h := by rw [hrd]; exact nI_mm _
  have e8 : upd M.rw d (nI h) d = nI h := by simp [upd]
  have e9 : (nI h = nI d) ↔ h = d := zeq (by omega) (by omega)
  have g1 : zin (nI (8 * d + h)) 64 = true := zin8 (by omega) (by omega)
  have g2 : (nI (8 * d + h)).toNatClampNeg = 8 * d + h := zcl7 (by omega)
  have g3 : M.fb (8 * d + h) = nI (fb (8 * d + h)) := by rw [hfb]
  obtain ⟨y1, y2⟩ := hyes
  simp only [zisf, Bool.and_eq_true, decide_eq_true_eq] at y1
  have q1 : ¬ h = d := y1.1
  have g5 : nI (fb (8 * d + h)) = 0 := by rw [y1.2]; rfl
  obtain ⟨v, hv⟩ := ftr_ex htr (f d)
  have ring := s_rings (L := L) (xs := xs) (s := s) (C := C) (M := (xM.mk M.n M.tg M.hd M.wt M.fb M.kn M.mn M.rk M.rs M.rh M.E M.gn M.ks M.kt M.kh M.A M.qs M.qx M.qy (upd M.rw d (nI h)) M.wo M.ia M.fo M.pr M.h)) (f := f) hd1 hd hN (fun x h1 h2 => by
    show upd M.rw d (nI h) x = nI (f x)
    unfold upd
    by_cases w : x = d
    · rw [if_pos w, w, hfd]
    · rw [if_neg w]; exact hr x h1 (by omega)) hf hv
  rw [if_neg ((ftr_step hd1 htr hv).mp y2)] at ring
  rw [E_X10_look_h49]
  generalize hA : zD 119 119 [some (.ref 283), some (.int (nI d)), l2, l3] [] (xW L xs s C (xM.mk M.n M.tg M.hd M.wt M.fb M.kn M.mn M.rk M.rs M.rh M.E M.gn M.ks M.kt M.kh M.A M.qs M.qx M.qy (upd M.rw d (nI h)) M.wo M.ia M.fo M.pr M.h)) = A
  have pre : zD 119 116 [some (.ref 283), some (.int (nI d)), l2, l3] [.int 0] (xW L xs s C (xM.mk M.n M.tg M.hd M.wt M.fb M.kn M.mn M.rk M.rs M.rh M.E M.gn M.ks M.kt M.kh M.A M.qs M.qx M.qy (upd M.rw d (nI h)) M.wo M.ia M.fo M.pr M.h)) = A := by
    rw [← hA]
    simp [E_X10_look, zfok, zfv, zfs', ziok, ziv, zpok, zis', zlok, zlv', zls', zbok, zrok, zrv', zrs', zaok, zan, zcok, zcs', zis, zgv, zgh, zcat, zw_1, zw_21, zw_at, zclr_int, zclr_ref, zclr_null, zclr_none, zclr_long, zclr_clr, zbv_0, zbv_1, zbv_ite, zbv_ite', Value.category, xr0, xr1, xr2, xr3, xr4, xr5, xr6, xr7, xr8, xr265, xr266, xr267, xr268, xr269, xr270, xr271, xr272, xr273, xr274, xr275, xr276, xr277, xr278, xr279, xr280, xr281, xr282, xr283, xr284, xr285, xr286, xr287, xr288, xr289, xr290, xr291, xr292, xr293, xr294, xr295, xr296, xr297, xr298, xr299, xr300, xr301, xr302, xv2, xv3, xv4, xv6, xv7, xv266, xv268, xv269, xv270, xv271, xv273, xv274, xv275, xv276, xv277, xv278, xv279, xv280, xv281, xv282, xv283, xv284, xv285, xv286, xv287, xv288, xv289, xv290, xv291, xv292, xv293, xv294, xv295, xv296, xv297, xv298, xv299, xv300, xv301, xv302, znar0, znar1, znarI, zfitb, zfitb1, xC_N_mk, xC_tg_mk, xC_hd_mk, xC_wt_mk, xC_fb_mk, xC_R_mk, xC_G_mk, xC_P_mk, xC_Q_mk, xC_E_mk, xC_kr_mk, xC_ct_mk, xC_tt_mk, xC_A_mk, xC_qs_mk, xC_qx_mk, xC_qy_mk, xC_vs_mk, xC_lo_mk, xC_hg_mk, xC_ab_mk, xC_fo_mk, xC_pk_mk, xC_K_mk, xC_kd_mk, xM_n_mk, xM_tg_mk, xM_hd_mk, xM_wt_mk, xM_fb_mk, xM_kn_mk, xM_mn_mk, xM_rk_mk, xM_rs_mk, xM_rh_mk, xM_E_mk, xM_gn_mk, xM_ks_mk, xM_kt_mk, xM_kh_mk, xM_A_mk, xM_qs_mk, xM_qx_mk, xM_qy_mk, xM_rw_mk, xM_wo_mk, xM_ia_mk, xM_fo_mk, xM_pr_mk, xM_h_mk, xS_N_mk, xS_tg_mk, xS_hd_mk, xS_wt_mk, xS_fb_mk, xS_E_mk, xS_gn_mk, xS_ks_mk, xS_kt_mk, xS_kh_mk, xS_A_mk, xS_qs_mk, xS_qx_mk, xS_qy_mk, xC_eta, xM_eta, xS_eta]
  rw [← pre]
  simp [E_X10_look, zfok, zfv, zfs', ziok, ziv, zpok, zis', zlok, zlv', zls', zbok, zrok, zrv', zrs', zaok, zan, zcok, zcs', zis, zgv, zgh, zcat, zw_1, zw_21, zw_at, zclr_int, zclr_ref, zclr_null, zclr_none, zclr_long, zclr_clr, zbv_0, zbv_1, zbv_ite, zbv_ite', Value.category, xr0, xr1, xr2, xr3, xr4, xr5, xr6, xr7, xr8, xr265, xr266, xr267, xr268, xr269, xr270, xr271, xr272, xr273, xr274, xr275, xr276, xr277, xr278, xr279, xr280, xr281, xr282, xr283, xr284, xr285, xr286, xr287, xr288, xr289, xr290, xr291, xr292, xr293, xr294, xr295, xr296, xr297, xr298, xr299, xr300, xr301, xr302, xv2, xv3, xv4, xv6, xv7, xv266, xv268, xv269, xv270, xv271, xv273, xv274, xv275, xv276, xv277, xv278, xv279, xv280, xv281, xv282, xv283, xv284, xv285, xv286, xv287, xv288, xv289, xv290, xv291, xv292, xv293, xv294, xv295, xv296, xv297, xv298, xv299, xv300, xv301, xv302, znar0, znar1, znarI, zfitb, zfitb1, xC_N_mk, xC_tg_mk, xC_hd_mk, xC_wt_mk, xC_fb_mk, xC_R_mk, xC_G_mk, xC_P_mk, xC_Q_mk, xC_E_mk, xC_kr_mk, xC_ct_mk, xC_tt_mk, xC_A_mk, xC_qs_mk, xC_qx_mk, xC_qy_mk, xC_vs_mk, xC_lo_mk, xC_hg_mk, xC_ab_mk, xC_fo_mk, xC_pk_mk, xC_K_mk, xC_kd_mk, xM_n_mk, xM_tg_mk, xM_hd_mk, xM_wt_mk, xM_fb_mk, xM_kn_mk, xM_mn_mk, xM_rk_mk, xM_rs_mk, xM_rh_mk, xM_E_mk, xM_gn_mk, xM_ks_mk, xM_kt_mk, xM_kh_mk, xM_A_mk, xM_qs_mk, xM_qx_mk, xM_qy_mk, xM_rw_mk, xM_wo_mk, xM_ia_mk, xM_fo_mk, xM_pr_mk, xM_h_mk, xS_N_mk, xS_tg_mk, xS_hd_mk, xS_wt_mk, xS_fb_mk, xS_E_mk, xS_gn_mk, xS_ks_mk, xS_kt_mk, xS_kh_mk, xS_A_mk, xS_qs_mk, xS_qx_mk, xS_qy_mk, xC_eta, xM_eta, xS_eta, e1, e2, e3, e4, e7, e8, e9, q1, z8, g1, g2, g3, g5, ring]
end STEP
theorem l_lsum (hN : N ≤ 7) (hn : M.n = nI N) (hwt : M.wt = wt) (hr : ∀ x, 1 ≤ x → x ≤ N → M.rw x = nI (f x)) (hf : ∀ x, f x ≤ N) {l1 : Int32} : ∀ (c x : Nat) (a : Int32), c + x = N + 1 → 1 ≤ x → zD 119 144 [some (.ref 283), some (.int l1), some (.int a), some (.int (nI x))] [] (xW L xs s C M) = zD 119 144 [some (.ref 283), some (.int l1), some (.int (a + Int32.ofInt (zwsm wt f c x))), some (.int (nI (N + 1)))] [] (xW L xs s C M)
  | 0, x, a, e, h1 => by
    have : x = N + 1 := by omega
    have e2 : a + Int32.ofInt 0 = a := by rw [show Int32.ofInt 0 = 0 from rfl, Int32.add_zero]
    rw [this]
    unfold zwsm zsm
    rw [e2]
  | c + 1, x, a, e, h1 => by
    have hn' := hf x
    have e1 : ¬ nI N < nI x := by rw [zlt (by omega) (by omega)]; omega
    rw [← hn] at e1
    have e2 : zin (nI x) 8 = true := zin8 (by omega) (by omega)
    have e3 : (nI x).toNatClampNeg = x := zcl7 (by omega)
    have e4 : zin (nI (8 * x + f x)) 64 = true := zin8 (by omega) (by omega)
    have e5 : (nI (8 * x + f x)).toNatClampNeg = 8 * x + f x := zcl7 (by omega)
    have e6 : nI x + 1 = nI (x + 1) := nI_1 x
    have k := l_lsum hN hn hwt hr hf (l1 := l1) c (x + 1) (a + wt (8 * x + f x)) (by omega) (by omega)
    have u : a + wt (8 * x + f x) + Int32.ofInt (zwsm wt f c (x + 1)) = a + Int32.ofInt (zwsm wt f (c + 1) x) := by
      show _ = a + Int32.ofInt ((wt (8 * x + f x)).toInt + zwsm wt f c (x + 1))
      rw [Int32.ofInt_add, Int32.ofInt_toInt, Int32.add_assoc]
    rw [u] at k
    rw [← k, E_X10_look_h144]
    have g := hr x h1 (by omega)
    have g2 : M.wt (8 * x + f x) = wt (8 * x + f x) := by rw [hwt]
    simp [E_X10_look, zfok, zfv, zfs', ziok, ziv, zpok, zis', zlok, zlv', zls', zbok, zrok, zrv', zrs', zaok, zan, zcok, zcs', zis, zgv, zgh, zcat, zw_1, zw_21, zw_at, zclr_int, zclr_ref, zclr_null, zclr_none, zclr_long, zclr_clr, zbv_0, zbv_1, zbv_ite, zbv_ite', Value.category, xr0, xr1, xr2, xr3, xr4, xr5, xr6, xr7, xr8, xr265, xr266, xr267, xr268, xr269, xr270, xr271, xr272, xr273, xr274, xr275, xr276, xr277, xr278, xr279, xr280, xr281, xr282, xr283, xr284, xr285, xr286, xr287, xr288, xr289, xr290, xr291, xr292, xr293, xr294, xr295, xr296, xr297, xr298, xr299, xr300, xr301, xr302, xv2, xv3, xv4, xv6, xv7, xv266, xv268, xv269, xv270, xv271, xv273, xv274, xv275, xv276, xv277, xv278, xv279, xv280, xv281, xv282, xv283, xv284, xv285, xv286, xv287, xv288, xv289, xv290, xv291, xv292, xv293, xv294, xv295, xv296, xv297, xv298, xv299, xv300, xv301, xv302, znar0, znar1, znarI, zfitb, zfitb1, xC_N_mk, xC_tg_mk, xC_hd_mk, xC_wt_mk, xC_fb_mk, xC_R_mk, xC_G_mk, xC_P_mk, xC_Q_mk, xC_E_mk, xC_kr_mk, xC_ct_mk, xC_tt_mk, xC_A_mk, xC_qs_mk, xC_qx_mk, xC_qy_mk, xC_vs_mk, xC_lo_mk, xC_hg_mk, xC_ab_mk, xC_fo_mk, xC_pk_mk, xC_K_mk, xC_kd_mk, xM_n_mk, xM_tg_mk, xM_hd_mk, xM_wt_mk, xM_fb_mk, xM_kn_mk, xM_mn_mk, xM_rk_mk, xM_rs_mk, xM_rh_mk, xM_E_mk, xM_gn_mk, xM_ks_mk, xM_kt_mk, xM_kh_mk, xM_A_mk, xM_qs_mk, xM_qx_mk, xM_qy_mk, xM_rw_mk, xM_wo_mk, xM_ia_mk, xM_fo_mk, xM_pr_mk, xM_h_mk, xS_N_mk, xS_tg_mk, xS_hd_mk, xS_wt_mk, xS_fb_mk, xS_E_mk, xS_gn_mk, xS_ks_mk, xS_kt_mk, xS_kh_mk, xS_A_mk, xS_qs_mk, xS_qx_mk, xS_qy_mk, xC_eta, xM_eta, xS_eta, e1, e2, e3, e4, e5, e6, z8, g, g2]
theorem l_note1 (hw : ∀ k, -1000000 ≤ (wt k).toInt ∧ (wt k).toInt ≤ 1000000) (hN : N ≤ 7) (hn : M.n = nI N) {t : Nat} (ht : t < 2) {T : List (Nat → Nat)} (hs : nst wt N t T (M.mn t) (M.rk t) M.rs M.rh) (hf : ∀ d, f d ≤ 7) (hT : ∀ g, g ∈ T → ∀ d, g d ≤ 7) (hl : ∀ g, g ∈ T → zdig g N 1 < zdig f N 1) (hr : ∀ d, 1 ≤ d → d ≤ N → M.rw d = nI (f d)) : ∃ mn rk rs rh, zC 33 [.ref 283, .int (nI t), .int (zs32 wt N f)] (xW L xs s C M) = some (none, xW L xs s C (xM.mk M.n M.tg M.hd M.wt M.fb M.kn mn rk rs rh M.E M.gn M.ks M.kt M.kh M.A M.qs M.qx M.qy M.rw M.wo M.ia M.fo M.pr M.h)) ∧ nst wt N t (T ++ [f]) (mn t) (rk t) rs rh ∧ ∀ t', t' < 2 → t' ≠ t → ∀ T', nst wt N t' T' (M.mn t') (M.rk t') M.rs M.rh → nst wt N t' T' (mn t') (rk t') rs rh := by
  obtain ⟨m, m1, m2, m3⟩ := nst_step hw hN ht hs hf hT hl hr
  have k := s_mnote (L := L) (xs := xs) (s := s) (C := C) hN ht (sm := zs32 wt N f) hn m1 m2 rfl rfl
  have k3 := m3 _ _ rfl rfl
  have pm := zpo_le (fun i => M.rs (31 * t + i)) (zs32 wt N f) m
  generalize hp : zpo (fun i => M.rs (31 * t + i)) (zs32 wt N f) m = p at k k3 pm
  generalize hla : (if m < 31 then m else 30) = la at k k3
  have u1 : vp_updL M.mn t (M.mn t + 1) t = M.mn t + 1 := by simp [vp_updL]
  have u2 : ∀ t', t' ≠ t → vp_updL M.mn t (M.mn t + 1) t' = M.mn t' := fun t' h => by simp [vp_updL, h]
  by_cases q : p = 31
  · rw [if_pos q] at k
    refine ⟨vp_updL M.mn t (M.mn t + 1), M.rk, M.rs, M.rh, k, ?_, ?_⟩
    · rw [u1]; exact k3.1 q
    · intro t' h1 h2 T' h3
      rw [u2 t' h2]; exact h3
  · rw [if_neg q] at k
    refine ⟨vp_updL M.mn t (M.mn t + 1), upd M.rk t (nI (la + 1)), znS t p la (zs32 wt N f) M.rs, znH t p la N M.rw M.rh, k, ?_, ?_⟩
    · rw [u1, show upd M.rk t (nI (la + 1)) t = nI (la + 1) by simp [upd]]
      exact k3.2 q
    · intro t' h1 h2 T' h3
      rw [u2 t' h2, show upd M.rk t (nI (la + 1)) t' = M.rk t' by simp [upd, h2]]
      have : p ≤ la ∧ la ≤ 30 := by rw [← hla]; split <;> omega
      exact nst_other hN ht h1 (fun z => h2 z.symm) this.1 this.2 h3
theorem l_leaf (hw : ∀ k, -1000000 ≤ (wt k).toInt ∧ (wt k).toInt ≤ 1000000) (hN1 : 1 ≤ N) (hN : N ≤ 7) (hn : M.n = nI N) (hwt : M.wt = wt) {T : List (Nat → Nat)} (hs : lok wt N T M.mn M.rk M.rs M.rh) (hf : ∀ d, f d ≤ N) (hz : ∀ x, x ≤ N → zit f N x = 0) (hT : ∀ g, g ∈ T → ∀ d, g d ≤ 7) (hl : ∀ g, g ∈ T → zdig g N 1 < zdig f N 1) (hr : ∀ d, d ≤ N → M.rw d = nI (f d)) {l2 l3 : Option Value} : ∃ mn rk rs rh l2' l3', lok wt N (T ++ [f]) mn rk rs rh ∧ zD 119 119 [some (.ref 283), some (.int (nI N)), l2, l3] [] (xW L xs s C M) = zD 119 49 [some (.ref 283), some (.int (nI N)), l2', l3'] [] (xW L xs s C (xM.mk M.n M.tg M.hd M.wt M.fb M.kn mn rk rs rh M.E M.gn M.ks M.kt M.kh M.A M.qs M.qx M.qy M.rw M.wo M.ia M.fo M.pr M.h)) := by
  have hf7 : ∀ d, f d ≤ 7 := fun d => by have := hf d; omega
  obtain ⟨mn1, rk1, rs1, rh1, k1, n1, o1⟩ := l_note1 (L := L) (xs := xs) (s := s) (C := C) hw hN hn (t := 0) (by omega) hs.1 hf7 hT hl (fun d h1 h2 => hr d h2)
  have n2 := o1 1 (by omega) (by omega) _ hs.2
  have sm := m_isSmooth' (L := L) (xs := xs) (s := s) (C := C) (M := (xM.mk M.n M.tg M.hd M.wt M.fb M.kn mn1 rk1 rs1 rh1 M.E M.gn M.ks M.kt M.kh M.A M.qs M.qx M.qy M.rw M.wo M.ia M.fo M.pr M.h)) (N := N) (f := f) (c0 := N) hN hr (fun d _ => hf d) hz hN
  rw [show zall (zmsd f N) N 1 = tss N f from rfl] at sm
  have sl := l_lsum (L := L) (xs := xs) (s := s) (C := C) hN hn hwt (fun x _ h2 => hr x h2) hf (l1 := nI N) N 1 0 (by omega) (by omega)
  rw [Int32.zero_add, show nI 1 = 1 from rfl] at sl
  have st : zD 119 119 [some (.ref 283), some (.int (nI N)), l2, l3] [] (xW L xs s C M) = zD 119 144 [some (.ref 283), some (.int (nI N)), some (.int 0), some (.int 1)] [] (xW L xs s C M) := by
    have e0 : nI N ≤ nI N := Int32.le_refl _
    rw [← hn] at e0 ⊢
    simp [E_X10_look, zfok, zfv, zfs', ziok, ziv, zpok, zis', zlok, zlv', zls', zbok, zrok, zrv', zrs', zaok, zan, zcok, zcs', zis, zgv, zgh, zcat, zw_1, zw_21, zw_at, zclr_int, zclr_ref, zclr_null, zclr_none, zclr_long, zclr_clr, zbv_0, zbv_1, zbv_ite, zbv_ite', Value.category, xr0, xr1, xr2, xr3, xr4, xr5, xr6, xr7, xr8, xr265, xr266, xr267, xr268, xr269, xr270, xr271, xr272, xr273, xr274, xr275, xr276, xr277, xr278, xr279, xr280, xr281, xr282, xr283, xr284, xr285, xr286, xr287, xr288, xr289, xr290, xr291, xr292, xr293, xr294, xr295, xr296, xr297, xr298, xr299, xr300, xr301, xr302, xv2, xv3, xv4, xv6, xv7, xv266, xv268, xv269, xv270, xv271, xv273, xv274, xv275, xv276, xv277, xv278, xv279, xv280, xv281, xv282, xv283, xv284, xv285, xv286, xv287, xv288, xv289, xv290, xv291, xv292, xv293, xv294, xv295, xv296, xv297, xv298, xv299, xv300, xv301, xv302, znar0, znar1, znarI, zfitb, zfitb1, xC_N_mk, xC_tg_mk, xC_hd_mk, xC_wt_mk, xC_fb_mk, xC_R_mk, xC_G_mk, xC_P_mk, xC_Q_mk, xC_E_mk, xC_kr_mk, xC_ct_mk, xC_tt_mk, xC_A_mk, xC_qs_mk, xC_qx_mk, xC_qy_mk, xC_vs_mk, xC_lo_mk, xC_hg_mk, xC_ab_mk, xC_fo_mk, xC_pk_mk, xC_K_mk, xC_kd_mk, xM_n_mk, xM_tg_mk, xM_hd_mk, xM_wt_mk, xM_fb_mk, xM_kn_mk, xM_mn_mk, xM_rk_mk, xM_rs_mk, xM_rh_mk, xM_E_mk, xM_gn_mk, xM_ks_mk, xM_kt_mk, xM_kh_mk, xM_A_mk, xM_qs_mk, xM_qx_mk, xM_qy_mk, xM_rw_mk, xM_wo_mk, xM_ia_mk, xM_fo_mk, xM_pr_mk, xM_h_mk, xS_N_mk, xS_tg_mk, xS_hd_mk, xS_wt_mk, xS_fb_mk, xS_E_mk, xS_gn_mk, xS_ks_mk, xS_kt_mk, xS_kh_mk, xS_A_mk, xS_qs_mk, xS_qx_mk, xS_qy_mk, xC_eta, xM_eta, xS_eta]
  have ex : nI N < nI (N + 1) := (zlt (by omega) (by omega)).mpr (by omega)
  rw [← hn] at ex
  by_cases q : tss N f = true
  · rw [if_pos q] at sm
    have hT1 : ∀ g, g ∈ T.filter (tss N) → ∀ d, g d ≤ 7 := fun g hg => hT g (List.mem_filter.mp hg).1
    have hl1 : ∀ g, g ∈ T.filter (tss N) → zdig g N 1 < zdig f N 1 := fun g hg => hl g (List.mem_filter.mp hg).1
    obtain ⟨mn2, rk2, rs2, rh2, k2, m2, o2⟩ := l_note1 (L := L) (xs := xs) (s := s) (C := C) (M := (xM.mk M.n M.tg M.hd M.wt M.fb M.kn mn1 rk1 rs1 rh1 M.E M.gn M.ks M.kt M.kh M.A M.qs M.qx M.qy M.rw M.wo M.ia M.fo M.pr M.h)) hw hN hn (t := 1) (by omega) n2 hf7 hT1 hl1 (fun d h1 h2 => hr d h2)
    refine ⟨mn2, rk2, rs2, rh2, some (.int (zs32 wt N f)), some (.int (nI (N + 1))), ⟨o2 0 (by omega) (by omega) _ n1, ?_⟩, ?_⟩
    · rw [List.filter_append, List.filter_cons, if_pos q]
      exact m2
    · simp only [xC_N_mk, xC_tg_mk, xC_hd_mk, xC_wt_mk, xC_fb_mk, xC_R_mk, xC_G_mk, xC_P_mk, xC_Q_mk, xC_E_mk, xC_kr_mk, xC_ct_mk, xC_tt_mk, xC_A_mk, xC_qs_mk, xC_qx_mk, xC_qy_mk, xC_vs_mk, xC_lo_mk, xC_hg_mk, xC_ab_mk, xC_fo_mk, xC_pk_mk, xC_K_mk, xC_kd_mk, xM_n_mk, xM_tg_mk, xM_hd_mk, xM_wt_mk, xM_fb_mk, xM_kn_mk, xM_mn_mk, xM_rk_mk, xM_rs_mk, xM_rh_mk, xM_E_mk, xM_gn_mk, xM_ks_mk, xM_kt_mk, xM_kh_mk, xM_A_mk, xM_qs_mk, xM_qx_mk, xM_qy_mk, xM_rw_mk, xM_wo_mk, xM_ia_mk, xM_fo_mk, xM_pr_mk, xM_h_mk, xS_N_mk, xS_tg_mk, xS_hd_mk, xS_wt_mk, xS_fb_mk, xS_E_mk, xS_gn_mk, xS_ks_mk, xS_kt_mk, xS_kh_mk, xS_A_mk, xS_qs_mk, xS_qx_mk, xS_qy_mk, xC_eta, xM_eta, xS_eta] at k2
      rw [st, sl, E_X10_look_h144]
      rw [nI_0] at k1
      rw [show nI 1 = 1 from rfl] at k2
      rw [show Int32.ofInt (zwsm wt f N 1) = zs32 wt N f from rfl]
      rw [← hn] at sm
      rw [← hn]
      simp [E_X10_look, zfok, zfv, zfs', ziok, ziv, zpok, zis', zlok, zlv', zls', zbok, zrok, zrv', zrs', zaok, zan, zcok, zcs', zis, zgv, zgh, zcat, zw_1, zw_21, zw_at, zclr_int, zclr_ref, zclr_null, zclr_none, zclr_long, zclr_clr, zbv_0, zbv_1, zbv_ite, zbv_ite', Value.category, xr0, xr1, xr2, xr3, xr4, xr5, xr6, xr7, xr8, xr265, xr266, xr267, xr268, xr269, xr270, xr271, xr272, xr273, xr274, xr275, xr276, xr277, xr278, xr279, xr280, xr281, xr282, xr283, xr284, xr285, xr286, xr287, xr288, xr289, xr290, xr291, xr292, xr293, xr294, xr295, xr296, xr297, xr298, xr299, xr300, xr301, xr302, xv2, xv3, xv4, xv6, xv7, xv266, xv268, xv269, xv270, xv271, xv273, xv274, xv275, xv276, xv277, xv278, xv279, xv280, xv281, xv282, xv283, xv284, xv285, xv286, xv287, xv288, xv289, xv290, xv291, xv292, xv293, xv294, xv295, xv296, xv297, xv298, xv299, xv300, xv301, xv302, znar0, znar1, znarI, zfitb, zfitb1, xC_N_mk, xC_tg_mk, xC_hd_mk, xC_wt_mk, xC_fb_mk, xC_R_mk, xC_G_mk, xC_P_mk, xC_Q_mk, xC_E_mk, xC_kr_mk, xC_ct_mk, xC_tt_mk, xC_A_mk, xC_qs_mk, xC_qx_mk, xC_qy_mk, xC_vs_mk, xC_lo_mk, xC_hg_mk, xC_ab_mk, xC_fo_mk, xC_pk_mk, xC_K_mk, xC_kd_mk, xM_n_mk, xM_tg_mk, xM_hd_mk, xM_wt_mk, xM_fb_mk, xM_kn_mk, xM_mn_mk, xM_rk_mk, xM_rs_mk, xM_rh_mk, xM_E_mk, xM_gn_mk, xM_ks_mk, xM_kt_mk, xM_kh_mk, xM_A_mk, xM_qs_mk, xM_qx_mk, xM_qy_mk, xM_rw_mk, xM_wo_mk, xM_ia_mk, xM_fo_mk, xM_pr_mk, xM_h_mk, xS_N_mk, xS_tg_mk, xS_hd_mk, xS_wt_mk, xS_fb_mk, xS_E_mk, xS_gn_mk, xS_ks_mk, xS_kt_mk, xS_kh_mk, xS_A_mk, xS_qs_mk, xS_qx_mk, xS_qy_mk, xC_eta, xM_eta, xS_eta, ex, k1, sm, k2]
  · rw [if_neg q] at sm
    refine ⟨mn1, rk1, rs1, rh1, some (.int (zs32 wt N f)), some (.int (nI (N + 1))), ⟨n1, ?_⟩, ?_⟩
    · rw [List.filter_append, List.filter_cons, if_neg q, List.filter_nil, List.append_nil]
      exact n2
    · rw [st, sl, E_X10_look_h144]
      rw [nI_0] at k1
      rw [show Int32.ofInt (zwsm wt f N 1) = zs32 wt N f from rfl]
      rw [← hn] at sm
      rw [← hn]
      simp [E_X10_look, zfok, zfv, zfs', ziok, ziv, zpok, zis', zlok, zlv', zls', zbok, zrok, zrv', zrs', zaok, zan, zcok, zcs', zis, zgv, zgh, zcat, zw_1, zw_21, zw_at, zclr_int, zclr_ref, zclr_null, zclr_none, zclr_long, zclr_clr, zbv_0, zbv_1, zbv_ite, zbv_ite', Value.category, xr0, xr1, xr2, xr3, xr4, xr5, xr6, xr7, xr8, xr265, xr266, xr267, xr268, xr269, xr270, xr271, xr272, xr273, xr274, xr275, xr276, xr277, xr278, xr279, xr280, xr281, xr282, xr283, xr284, xr285, xr286, xr287, xr288, xr289, xr290, xr291, xr292, xr293, xr294, xr295, xr296, xr297, xr298, xr299, xr300, xr301, xr302, xv2, xv3, xv4, xv6, xv7, xv266, xv268, xv269, xv270, xv271, xv273, xv274, xv275, xv276, xv277, xv278, xv279, xv280, xv281, xv282, xv283, xv284, xv285, xv286, xv287, xv288, xv289, xv290, xv291, xv292, xv293, xv294, xv295, xv296, xv297, xv298, xv299, xv300, xv301, xv302, znar0, znar1, znarI, zfitb, zfitb1, xC_N_mk, xC_tg_mk, xC_hd_mk, xC_wt_mk, xC_fb_mk, xC_R_mk, xC_G_mk, xC_P_mk, xC_Q_mk, xC_E_mk, xC_kr_mk, xC_ct_mk, xC_tt_mk, xC_A_mk, xC_qs_mk, xC_qx_mk, xC_qy_mk, xC_vs_mk, xC_lo_mk, xC_hg_mk, xC_ab_mk, xC_fo_mk, xC_pk_mk, xC_K_mk, xC_kd_mk, xM_n_mk, xM_tg_mk, xM_hd_mk, xM_wt_mk, xM_fb_mk, xM_kn_mk, xM_mn_mk, xM_rk_mk, xM_rs_mk, xM_rh_mk, xM_E_mk, xM_gn_mk, xM_ks_mk, xM_kt_mk, xM_kh_mk, xM_A_mk, xM_qs_mk, xM_qx_mk, xM_qy_mk, xM_rw_mk, xM_wo_mk, xM_ia_mk, xM_fo_mk, xM_pr_mk, xM_h_mk, xS_N_mk, xS_tg_mk, xS_hd_mk, xS_wt_mk, xS_fb_mk, xS_E_mk, xS_gn_mk, xS_ks_mk, xS_kt_mk, xS_kh_mk, xS_A_mk, xS_qs_mk, xS_qx_mk, xS_qy_mk, xC_eta, xM_eta, xS_eta, ex, k1, sm]
end LOOK
