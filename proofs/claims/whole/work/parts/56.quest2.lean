/-! questions: the class's search -/
section QUEST2
variable {L s : Nat} {xs : Nat → Int32} {C : xC} {M : xM} {σ : xS} {k : Int32} {o n : Nat} {tg hd : Nat → Nat}
def qfit (σ : xS) (n : Nat) (tg hd : Nat → Nat) (u : Nat) (v : Nat → Nat) : Bool := zall (fun i => !decide (zlva σ i = u) || qh σ n tg hd i v) σ.A 0
def qgd (σ : xS) (n u : Nat) (v : Nat → Nat) : Prop := ∀ j, j ≤ u → v j ≤ n ∧ (zask σ j = true → 1 ≤ v j)
theorem l_fit (ok : xOk σ) (rc : xRC σ C) (h : dwn σ k o n tg hd) (hp : qpr σ n hd C) {u : Nat} (hu : u ≤ 3) {v : Nat → Nat} (hv : ∀ j, j ≤ u → C.vs j = nI (v j)) (hg : qgd σ n u v) {x : Int32} : ∀ (c i : Nat), c + i = σ.A → zD 98 10 [some (.ref 275), some (.ref o), some (.int (nI u)), some (.int x), some (.int (nI i))] [] (xW L xs s C M) = some (some (.int (if zall (fun i => !decide (zlva σ i = u) || qh σ n tg hd i v) c i = true then 1 else 0)), xW L xs s C M)
  | 0, i, e => by
    have A6 := ok.A6
    have e1 : nI σ.A ≤ nI i := by rw [zle (by omega) (by omega)]; omega
    rw [E_X5_isFit_h10]
    simp [E_X5_isFit, zfok, zfv, zfs', ziok, ziv, zpok, zis', zlok, zlv', zls', zbok, zrok, zrv', zrs', zaok, zan, zcok, zcs', zis, zgv, zgh, zcat, zw_1, zw_21, zw_at, zclr_int, zclr_ref, zclr_null, zclr_none, zclr_long, zclr_clr, zbv_0, zbv_1, zbv_ite, zbv_ite', Value.category, xr0, xr1, xr2, xr3, xr4, xr5, xr6, xr7, xr8, xr265, xr266, xr267, xr268, xr269, xr270, xr271, xr272, xr273, xr274, xr275, xr276, xr277, xr278, xr279, xr280, xr281, xr282, xr283, xr284, xr285, xr286, xr287, xr288, xr289, xr290, xr291, xr292, xr293, xr294, xr295, xr296, xr297, xr298, xr299, xr300, xr301, xr302, xv2, xv3, xv4, xv6, xv7, xv266, xv268, xv269, xv270, xv271, xv273, xv274, xv275, xv276, xv277, xv278, xv279, xv280, xv281, xv282, xv283, xv284, xv285, xv286, xv287, xv288, xv289, xv290, xv291, xv292, xv293, xv294, xv295, xv296, xv297, xv298, xv299, xv300, xv301, xv302, znar0, znar1, znarI, zfitb, zfitb1, xC_N_mk, xC_tg_mk, xC_hd_mk, xC_wt_mk, xC_fb_mk, xC_R_mk, xC_G_mk, xC_P_mk, xC_Q_mk, xC_E_mk, xC_kr_mk, xC_ct_mk, xC_tt_mk, xC_A_mk, xC_qs_mk, xC_qx_mk, xC_qy_mk, xC_vs_mk, xC_lo_mk, xC_hg_mk, xC_ab_mk, xC_fo_mk, xC_pk_mk, xC_K_mk, xC_kd_mk, xM_n_mk, xM_tg_mk, xM_hd_mk, xM_wt_mk, xM_fb_mk, xM_kn_mk, xM_mn_mk, xM_rk_mk, xM_rs_mk, xM_rh_mk, xM_E_mk, xM_gn_mk, xM_ks_mk, xM_kt_mk, xM_kh_mk, xM_A_mk, xM_qs_mk, xM_qx_mk, xM_qy_mk, xM_rw_mk, xM_wo_mk, xM_ia_mk, xM_fo_mk, xM_pr_mk, xM_h_mk, xS_N_mk, xS_tg_mk, xS_hd_mk, xS_wt_mk, xS_fb_mk, xS_E_mk, xS_gn_mk, xS_ks_mk, xS_kt_mk, xS_kh_mk, xS_A_mk, xS_qs_mk, xS_qx_mk, xS_qy_mk, xC_eta, xM_eta, xS_eta, rc.A, e1, zall]
  | c + 1, i, e => by
    have A6 := ok.A6
    have hi : i < σ.A := by omega
    have b := ok.q4 i hi
    have e1 : ¬ nI σ.A ≤ nI i := by rw [zle (by omega) (by omega)]; omega
    have e2 : nI i + 1 = nI (i + 1) := nI_1 i
    have lv := s_lastVar (L := L) (xs := xs) (s := s) (M := M) ok rc hi
    have l3 : zlva σ i ≤ 3 := by
      unfold zlva
      by_cases q : σ.qs i = 3
      · rw [if_pos q]; exact b.2.1
      · rw [if_neg q]
        have := b.2.2
        rw [if_neg q] at this
        omega
    have z1 : (nI (zlva σ i) = nI u) ↔ zlva σ i = u := zeq (by omega) (by omega)
    have k1 := l_fit ok rc h hp hu hv hg (x := x) c (i + 1) (by omega)
    rw [E_X5_isFit_h10, zall]
    by_cases q : zlva σ i = u
    · have qx : σ.qx i ≤ u := by
        unfold zlva at q
        split at q <;> omega
      have qy : σ.qs i ≠ 3 → σ.qy i ≤ u := fun z => by
        unfold zlva at q
        rw [if_neg z] at q; omega
      have as : σ.qs i ≠ 3 → zask σ (σ.qy i) = true := fun z => (zask1_iff σ.A 0).mpr ⟨i, by omega, by omega, Or.inr ⟨z, rfl⟩⟩
      have hs := s_holds (L := L) (xs := xs) (s := s) (M := M) ok rc h hp hi (v := v) (hv _ qx) (fun z => ⟨hv _ (qy z), (hg _ (qy z)).2 (as z)⟩) (hg _ qx).1 (fun z => (hg _ (qy z)).1)
      by_cases w : qh σ n tg hd i v = true
      · rw [if_pos w] at hs
        simp [E_X5_isFit, zfok, zfv, zfs', ziok, ziv, zpok, zis', zlok, zlv', zls', zbok, zrok, zrv', zrs', zaok, zan, zcok, zcs', zis, zgv, zgh, zcat, zw_1, zw_21, zw_at, zclr_int, zclr_ref, zclr_null, zclr_none, zclr_long, zclr_clr, zbv_0, zbv_1, zbv_ite, zbv_ite', Value.category, xr0, xr1, xr2, xr3, xr4, xr5, xr6, xr7, xr8, xr265, xr266, xr267, xr268, xr269, xr270, xr271, xr272, xr273, xr274, xr275, xr276, xr277, xr278, xr279, xr280, xr281, xr282, xr283, xr284, xr285, xr286, xr287, xr288, xr289, xr290, xr291, xr292, xr293, xr294, xr295, xr296, xr297, xr298, xr299, xr300, xr301, xr302, xv2, xv3, xv4, xv6, xv7, xv266, xv268, xv269, xv270, xv271, xv273, xv274, xv275, xv276, xv277, xv278, xv279, xv280, xv281, xv282, xv283, xv284, xv285, xv286, xv287, xv288, xv289, xv290, xv291, xv292, xv293, xv294, xv295, xv296, xv297, xv298, xv299, xv300, xv301, xv302, znar0, znar1, znarI, zfitb, zfitb1, xC_N_mk, xC_tg_mk, xC_hd_mk, xC_wt_mk, xC_fb_mk, xC_R_mk, xC_G_mk, xC_P_mk, xC_Q_mk, xC_E_mk, xC_kr_mk, xC_ct_mk, xC_tt_mk, xC_A_mk, xC_qs_mk, xC_qx_mk, xC_qy_mk, xC_vs_mk, xC_lo_mk, xC_hg_mk, xC_ab_mk, xC_fo_mk, xC_pk_mk, xC_K_mk, xC_kd_mk, xM_n_mk, xM_tg_mk, xM_hd_mk, xM_wt_mk, xM_fb_mk, xM_kn_mk, xM_mn_mk, xM_rk_mk, xM_rs_mk, xM_rh_mk, xM_E_mk, xM_gn_mk, xM_ks_mk, xM_kt_mk, xM_kh_mk, xM_A_mk, xM_qs_mk, xM_qx_mk, xM_qy_mk, xM_rw_mk, xM_wo_mk, xM_ia_mk, xM_fo_mk, xM_pr_mk, xM_h_mk, xS_N_mk, xS_tg_mk, xS_hd_mk, xS_wt_mk, xS_fb_mk, xS_E_mk, xS_gn_mk, xS_ks_mk, xS_kt_mk, xS_kh_mk, xS_A_mk, xS_qs_mk, xS_qx_mk, xS_qy_mk, xC_eta, xM_eta, xS_eta, rc.A, e1, e2, lv, z1, q, hs, w]
        exact k1
      · rw [if_neg w] at hs
        simp [E_X5_isFit, zfok, zfv, zfs', ziok, ziv, zpok, zis', zlok, zlv', zls', zbok, zrok, zrv', zrs', zaok, zan, zcok, zcs', zis, zgv, zgh, zcat, zw_1, zw_21, zw_at, zclr_int, zclr_ref, zclr_null, zclr_none, zclr_long, zclr_clr, zbv_0, zbv_1, zbv_ite, zbv_ite', Value.category, xr0, xr1, xr2, xr3, xr4, xr5, xr6, xr7, xr8, xr265, xr266, xr267, xr268, xr269, xr270, xr271, xr272, xr273, xr274, xr275, xr276, xr277, xr278, xr279, xr280, xr281, xr282, xr283, xr284, xr285, xr286, xr287, xr288, xr289, xr290, xr291, xr292, xr293, xr294, xr295, xr296, xr297, xr298, xr299, xr300, xr301, xr302, xv2, xv3, xv4, xv6, xv7, xv266, xv268, xv269, xv270, xv271, xv273, xv274, xv275, xv276, xv277, xv278, xv279, xv280, xv281, xv282, xv283, xv284, xv285, xv286, xv287, xv288, xv289, xv290, xv291, xv292, xv293, xv294, xv295, xv296, xv297, xv298, xv299, xv300, xv301, xv302, znar0, znar1, znarI, zfitb, zfitb1, xC_N_mk, xC_tg_mk, xC_hd_mk, xC_wt_mk, xC_fb_mk, xC_R_mk, xC_G_mk, xC_P_mk, xC_Q_mk, xC_E_mk, xC_kr_mk, xC_ct_mk, xC_tt_mk, xC_A_mk, xC_qs_mk, xC_qx_mk, xC_qy_mk, xC_vs_mk, xC_lo_mk, xC_hg_mk, xC_ab_mk, xC_fo_mk, xC_pk_mk, xC_K_mk, xC_kd_mk, xM_n_mk, xM_tg_mk, xM_hd_mk, xM_wt_mk, xM_fb_mk, xM_kn_mk, xM_mn_mk, xM_rk_mk, xM_rs_mk, xM_rh_mk, xM_E_mk, xM_gn_mk, xM_ks_mk, xM_kt_mk, xM_kh_mk, xM_A_mk, xM_qs_mk, xM_qx_mk, xM_qy_mk, xM_rw_mk, xM_wo_mk, xM_ia_mk, xM_fo_mk, xM_pr_mk, xM_h_mk, xS_N_mk, xS_tg_mk, xS_hd_mk, xS_wt_mk, xS_fb_mk, xS_E_mk, xS_gn_mk, xS_ks_mk, xS_kt_mk, xS_kh_mk, xS_A_mk, xS_qs_mk, xS_qx_mk, xS_qy_mk, xC_eta, xM_eta, xS_eta, rc.A, e1, e2, lv, z1, q, hs, w]
    · simp [E_X5_isFit, zfok, zfv, zfs', ziok, ziv, zpok, zis', zlok, zlv', zls', zbok, zrok, zrv', zrs', zaok, zan, zcok, zcs', zis, zgv, zgh, zcat, zw_1, zw_21, zw_at, zclr_int, zclr_ref, zclr_null, zclr_none, zclr_long, zclr_clr, zbv_0, zbv_1, zbv_ite, zbv_ite', Value.category, xr0, xr1, xr2, xr3, xr4, xr5, xr6, xr7, xr8, xr265, xr266, xr267, xr268, xr269, xr270, xr271, xr272, xr273, xr274, xr275, xr276, xr277, xr278, xr279, xr280, xr281, xr282, xr283, xr284, xr285, xr286, xr287, xr288, xr289, xr290, xr291, xr292, xr293, xr294, xr295, xr296, xr297, xr298, xr299, xr300, xr301, xr302, xv2, xv3, xv4, xv6, xv7, xv266, xv268, xv269, xv270, xv271, xv273, xv274, xv275, xv276, xv277, xv278, xv279, xv280, xv281, xv282, xv283, xv284, xv285, xv286, xv287, xv288, xv289, xv290, xv291, xv292, xv293, xv294, xv295, xv296, xv297, xv298, xv299, xv300, xv301, xv302, znar0, znar1, znarI, zfitb, zfitb1, xC_N_mk, xC_tg_mk, xC_hd_mk, xC_wt_mk, xC_fb_mk, xC_R_mk, xC_G_mk, xC_P_mk, xC_Q_mk, xC_E_mk, xC_kr_mk, xC_ct_mk, xC_tt_mk, xC_A_mk, xC_qs_mk, xC_qx_mk, xC_qy_mk, xC_vs_mk, xC_lo_mk, xC_hg_mk, xC_ab_mk, xC_fo_mk, xC_pk_mk, xC_K_mk, xC_kd_mk, xM_n_mk, xM_tg_mk, xM_hd_mk, xM_wt_mk, xM_fb_mk, xM_kn_mk, xM_mn_mk, xM_rk_mk, xM_rs_mk, xM_rh_mk, xM_E_mk, xM_gn_mk, xM_ks_mk, xM_kt_mk, xM_kh_mk, xM_A_mk, xM_qs_mk, xM_qx_mk, xM_qy_mk, xM_rw_mk, xM_wo_mk, xM_ia_mk, xM_fo_mk, xM_pr_mk, xM_h_mk, xS_N_mk, xS_tg_mk, xS_hd_mk, xS_wt_mk, xS_fb_mk, xS_E_mk, xS_gn_mk, xS_ks_mk, xS_kt_mk, xS_kh_mk, xS_A_mk, xS_qs_mk, xS_qx_mk, xS_qy_mk, xC_eta, xM_eta, xS_eta, rc.A, e1, e2, lv, z1, q]
      exact k1
theorem s_isFit (ok : xOk σ) (rc : xRC σ C) (h : dwn σ k o n tg hd) (hp : qpr σ n hd C) {u : Nat} (hu : u ≤ 3) {v : Nat → Nat} {x : Nat} (hv : ∀ j, j < u → C.vs j = nI (v j)) (hx : v u = x) (hg : qgd σ n u v) : zC 98 [.ref 275, .ref o, .int (nI u), .int (nI x)] (xW L xs s C M) = some (some (.int (if qfit σ n tg hd u v = true then 1 else 0)), xW L xs s (xC.mk C.N C.tg C.hd C.wt C.fb C.R C.G C.P C.Q C.E C.kr C.ct C.tt C.A C.qs C.qx C.qy (upd C.vs u (nI x)) C.lo C.hg C.ab C.fo C.pk C.K C.kd) M) := by
  have rc' : xRC σ (xC.mk C.N C.tg C.hd C.wt C.fb C.R C.G C.P C.Q C.E C.kr C.ct C.tt C.A C.qs C.qx C.qy (upd C.vs u (nI x)) C.lo C.hg C.ab C.fo C.pk C.K C.kd) := rc
  have hp' : qpr σ n hd (xC.mk C.N C.tg C.hd C.wt C.fb C.R C.G C.P C.Q C.E C.kr C.ct C.tt C.A C.qs C.qx C.qy (upd C.vs u (nI x)) C.lo C.hg C.ab C.fo C.pk C.K C.kd) := hp
  have k1 := l_fit (L := L) (xs := xs) (s := s) (M := M) ok rc' h hp' hu (v := v) (fun j hj => by
    show upd C.vs u (nI x) j = nI (v j)
    unfold upd
    by_cases q : j = u
    · rw [if_pos q, q, hx]
    · rw [if_neg q]; exact hv j (by omega)) hg (x := nI x) σ.A 0 (by omega)
  have e4 : zin (nI u) 4 = true := zin8 (by omega) (by omega)
  have e5 : (nI u).toNatClampNeg = u := zcl7 (by omega)
  rw [nI_0] at k1
  simp [I_X5_isFit, E_X5_isFit, zfok, zfv, zfs', ziok, ziv, zpok, zis', zlok, zlv', zls', zbok, zrok, zrv', zrs', zaok, zan, zcok, zcs', zis, zgv, zgh, zcat, zw_1, zw_21, zw_at, zclr_int, zclr_ref, zclr_null, zclr_none, zclr_long, zclr_clr, zbv_0, zbv_1, zbv_ite, zbv_ite', Value.category, xr0, xr1, xr2, xr3, xr4, xr5, xr6, xr7, xr8, xr265, xr266, xr267, xr268, xr269, xr270, xr271, xr272, xr273, xr274, xr275, xr276, xr277, xr278, xr279, xr280, xr281, xr282, xr283, xr284, xr285, xr286, xr287, xr288, xr289, xr290, xr291, xr292, xr293, xr294, xr295, xr296, xr297, xr298, xr299, xr300, xr301, xr302, xv2, xv3, xv4, xv6, xv7, xv266, xv268, xv269, xv270, xv271, xv273, xv274, xv275, xv276, xv277, xv278, xv279, xv280, xv281, xv282, xv283, xv284, xv285, xv286, xv287, xv288, xv289, xv290, xv291, xv292, xv293, xv294, xv295, xv296, xv297, xv298, xv299, xv300, xv301, xv302, znar0, znar1, znarI, zfitb, zfitb1, xC_N_mk, xC_tg_mk, xC_hd_mk, xC_wt_mk, xC_fb_mk, xC_R_mk, xC_G_mk, xC_P_mk, xC_Q_mk, xC_E_mk, xC_kr_mk, xC_ct_mk, xC_tt_mk, xC_A_mk, xC_qs_mk, xC_qx_mk, xC_qy_mk, xC_vs_mk, xC_lo_mk, xC_hg_mk, xC_ab_mk, xC_fo_mk, xC_pk_mk, xC_K_mk, xC_kd_mk, xM_n_mk, xM_tg_mk, xM_hd_mk, xM_wt_mk, xM_fb_mk, xM_kn_mk, xM_mn_mk, xM_rk_mk, xM_rs_mk, xM_rh_mk, xM_E_mk, xM_gn_mk, xM_ks_mk, xM_kt_mk, xM_kh_mk, xM_A_mk, xM_qs_mk, xM_qx_mk, xM_qy_mk, xM_rw_mk, xM_wo_mk, xM_ia_mk, xM_fo_mk, xM_pr_mk, xM_h_mk, xS_N_mk, xS_tg_mk, xS_hd_mk, xS_wt_mk, xS_fb_mk, xS_E_mk, xS_gn_mk, xS_ks_mk, xS_kt_mk, xS_kh_mk, xS_A_mk, xS_qs_mk, xS_qx_mk, xS_qy_mk, xC_eta, xM_eta, xS_eta, e4, e5]
  exact k1
def zno (w : Int32) (v : Nat → Nat) (S : Nat × Int32) : Nat × Int32 := (S.1 + 1, if nI S.1 = w then nI (1000 * v 0 + 100 * v 1 + 10 * v 2 + v 3) else S.2)
theorem zcode (a b c d : Nat) : (1000 : Int32) * nI a + 100 * nI b + 10 * nI c + nI d = nI (1000 * a + 100 * b + 10 * c + d) := by
  rw [show (1000 : Int32) = nI 1000 from rfl, show (100 : Int32) = nI 100 from rfl, show (10 : Int32) = nI 10 from rfl, pk_mul, pk_mul, pk_mul, nI_add, nI_add, nI_add]
theorem s_note {w : Int32} {vs : Nat → Int32} {v : Nat → Nat} {S : Nat × Int32} (hv : ∀ j, j < 4 → vs j = nI (v j)) : zC 13 [.ref 275, .int w] (xW L xs s (xC.mk C.N C.tg C.hd C.wt C.fb C.R C.G C.P C.Q C.E C.kr C.ct C.tt C.A C.qs C.qx C.qy vs C.lo C.hg C.ab (nI S.1) S.2 C.K C.kd) M) = some (none, xW L xs s (xC.mk C.N C.tg C.hd C.wt C.fb C.R C.G C.P C.Q C.E C.kr C.ct C.tt C.A C.qs C.qx C.qy vs C.lo C.hg C.ab (nI (zno w v S).1) ((zno w v S).2) C.K C.kd) M) := by
  have z0 : zin 0 4 = true := by decide
  have z1 : zin 1 4 = true := by decide
  have z2 : zin 2 4 = true := by decide
  have z3 : zin 3 4 = true := by decide
  have c0 : (0 : Int32).toNatClampNeg = 0 := by decide
  have c1 : (1 : Int32).toNatClampNeg = 1 := by decide
  have c2 : (2 : Int32).toNatClampNeg = 2 := by decide
  have c3 : (3 : Int32).toNatClampNeg = 3 := by decide
  have e1 : nI S.1 + 1 = nI (S.1 + 1) := nI_1 _
  unfold zno
  by_cases q : nI S.1 = w
  · simp [I_X5_note, E_X5_note, zfok, zfv, zfs', ziok, ziv, zpok, zis', zlok, zlv', zls', zbok, zrok, zrv', zrs', zaok, zan, zcok, zcs', zis, zgv, zgh, zcat, zw_1, zw_21, zw_at, zclr_int, zclr_ref, zclr_null, zclr_none, zclr_long, zclr_clr, zbv_0, zbv_1, zbv_ite, zbv_ite', Value.category, xr0, xr1, xr2, xr3, xr4, xr5, xr6, xr7, xr8, xr265, xr266, xr267, xr268, xr269, xr270, xr271, xr272, xr273, xr274, xr275, xr276, xr277, xr278, xr279, xr280, xr281, xr282, xr283, xr284, xr285, xr286, xr287, xr288, xr289, xr290, xr291, xr292, xr293, xr294, xr295, xr296, xr297, xr298, xr299, xr300, xr301, xr302, xv2, xv3, xv4, xv6, xv7, xv266, xv268, xv269, xv270, xv271, xv273, xv274, xv275, xv276, xv277, xv278, xv279, xv280, xv281, xv282, xv283, xv284, xv285, xv286, xv287, xv288, xv289, xv290, xv291, xv292, xv293, xv294, xv295, xv296, xv297, xv298, xv299, xv300, xv301, xv302, znar0, znar1, znarI, zfitb, zfitb1, xC_N_mk, xC_tg_mk, xC_hd_mk, xC_wt_mk, xC_fb_mk, xC_R_mk, xC_G_mk, xC_P_mk, xC_Q_mk, xC_E_mk, xC_kr_mk, xC_ct_mk, xC_tt_mk, xC_A_mk, xC_qs_mk, xC_qx_mk, xC_qy_mk, xC_vs_mk, xC_lo_mk, xC_hg_mk, xC_ab_mk, xC_fo_mk, xC_pk_mk, xC_K_mk, xC_kd_mk, xM_n_mk, xM_tg_mk, xM_hd_mk, xM_wt_mk, xM_fb_mk, xM_kn_mk, xM_mn_mk, xM_rk_mk, xM_rs_mk, xM_rh_mk, xM_E_mk, xM_gn_mk, xM_ks_mk, xM_kt_mk, xM_kh_mk, xM_A_mk, xM_qs_mk, xM_qx_mk, xM_qy_mk, xM_rw_mk, xM_wo_mk, xM_ia_mk, xM_fo_mk, xM_pr_mk, xM_h_mk, xS_N_mk, xS_tg_mk, xS_hd_mk, xS_wt_mk, xS_fb_mk, xS_E_mk, xS_gn_mk, xS_ks_mk, xS_kt_mk, xS_kh_mk, xS_A_mk, xS_qs_mk, xS_qx_mk, xS_qy_mk, xC_eta, xM_eta, xS_eta, q, z0, z1, z2, z3, c0, c1, c2, c3, hv 0 (by omega), hv 1 (by omega), hv 2 (by omega), hv 3 (by omega), zcode]
    rw [← q, e1]
  · simp [I_X5_note, E_X5_note, zfok, zfv, zfs', ziok, ziv, zpok, zis', zlok, zlv', zls', zbok, zrok, zrv', zrs', zaok, zan, zcok, zcs', zis, zgv, zgh, zcat, zw_1, zw_21, zw_at, zclr_int, zclr_ref, zclr_null, zclr_none, zclr_long, zclr_clr, zbv_0, zbv_1, zbv_ite, zbv_ite', Value.category, xr0, xr1, xr2, xr3, xr4, xr5, xr6, xr7, xr8, xr265, xr266, xr267, xr268, xr269, xr270, xr271, xr272, xr273, xr274, xr275, xr276, xr277, xr278, xr279, xr280, xr281, xr282, xr283, xr284, xr285, xr286, xr287, xr288, xr289, xr290, xr291, xr292, xr293, xr294, xr295, xr296, xr297, xr298, xr299, xr300, xr301, xr302, xv2, xv3, xv4, xv6, xv7, xv266, xv268, xv269, xv270, xv271, xv273, xv274, xv275, xv276, xv277, xv278, xv279, xv280, xv281, xv282, xv283, xv284, xv285, xv286, xv287, xv288, xv289, xv290, xv291, xv292, xv293, xv294, xv295, xv296, xv297, xv298, xv299, xv300, xv301, xv302, znar0, znar1, znarI, zfitb, zfitb1, xC_N_mk, xC_tg_mk, xC_hd_mk, xC_wt_mk, xC_fb_mk, xC_R_mk, xC_G_mk, xC_P_mk, xC_Q_mk, xC_E_mk, xC_kr_mk, xC_ct_mk, xC_tt_mk, xC_A_mk, xC_qs_mk, xC_qx_mk, xC_qy_mk, xC_vs_mk, xC_lo_mk, xC_hg_mk, xC_ab_mk, xC_fo_mk, xC_pk_mk, xC_K_mk, xC_kd_mk, xM_n_mk, xM_tg_mk, xM_hd_mk, xM_wt_mk, xM_fb_mk, xM_kn_mk, xM_mn_mk, xM_rk_mk, xM_rs_mk, xM_rh_mk, xM_E_mk, xM_gn_mk, xM_ks_mk, xM_kt_mk, xM_kh_mk, xM_A_mk, xM_qs_mk, xM_qx_mk, xM_qy_mk, xM_rw_mk, xM_wo_mk, xM_ia_mk, xM_fo_mk, xM_pr_mk, xM_h_mk, xS_N_mk, xS_tg_mk, xS_hd_mk, xS_wt_mk, xS_fb_mk, xS_E_mk, xS_gn_mk, xS_ks_mk, xS_kt_mk, xS_kh_mk, xS_A_mk, xS_qs_mk, xS_qx_mk, xS_qy_mk, xC_eta, xM_eta, xS_eta, q, e1]
section FOLD
variable (σ : xS) (n : Nat) (tg hd : Nat → Nat) (w : Int32)
def zrl (σ : xS) (u : Nat) : Nat := if zask σ u = true then 1 else 0
def zrg (σ : xS) (n u : Nat) : Nat := if zask σ u = true then n else 0
def zg3 (v : Nat → Nat) : Nat → Nat → Nat × Int32 → Nat × Int32
  | 0, _, S => S
  | e + 1, x, S => zg3 v e (x + 1) (if qfit σ n tg hd 3 (zupd v 3 x) = true then zno w (zupd v 3 x) S else S)
def zg2 (v : Nat → Nat) : Nat → Nat → Nat × Int32 → Nat × Int32
  | 0, _, S => S
  | e + 1, x, S => zg2 v e (x + 1) (if qfit σ n tg hd 2 (zupd v 2 x) = true then zg3 σ n tg hd w (zupd v 2 x) (zrg σ n 3 + 1 - zrl σ 3) (zrl σ 3) S else S)
def zg1 (v : Nat → Nat) : Nat → Nat → Nat × Int32 → Nat × Int32
  | 0, _, S => S
  | e + 1, x, S => zg1 v e (x + 1) (if qfit σ n tg hd 1 (zupd v 1 x) = true then zg2 σ n tg hd w (zupd v 1 x) (zrg σ n 2 + 1 - zrl σ 2) (zrl σ 2) S else S)
def zg0 (v : Nat → Nat) : Nat → Nat → Nat × Int32 → Nat × Int32
  | 0, _, S => S
  | e + 1, x, S => zg0 v e (x + 1) (if qfit σ n tg hd 0 (zupd v 0 x) = true then zg1 σ n tg hd w (zupd v 0 x) (zrg σ n 1 + 1 - zrl σ 1) (zrl σ 1) S else S)
end FOLD
theorem qgd_up {u : Nat} {v : Nat → Nat} (hv : ∀ j, j < u → v j ≤ n ∧ (zask σ j = true → 1 ≤ v j)) {x : Nat} (h1 : zrl σ u ≤ x) (h2 : x ≤ zrg σ n u) : qgd σ n u (zupd v u x) := by
  intro j hj
  unfold zupd
  by_cases q : j = u
  · rw [if_pos q, q]
    unfold zrl at h1
    unfold zrg at h2
    by_cases a : zask σ u = true
    · rw [if_pos a] at h1 h2; exact ⟨h2, fun _ => h1⟩
    · rw [if_neg a] at h1 h2; exact ⟨by omega, fun z => absurd z a⟩
  · rw [if_neg q]; exact hv j (by omega)
theorem zrg_7 (hn : n ≤ 7) (u : Nat) : zrg σ n u ≤ 7 := by unfold zrg; split <;> omega
theorem l_g3 (ok : xOk σ) (rc : xRC σ C) (h : dwn σ k o n tg hd) (hp : qpr σ n hd C) {w : Int32} {c : Nat} {v : Nat → Nat} (hg : qgd σ n 2 v) : ∀ (e x : Nat) (vs : Nat → Int32) (S : Nat × Int32), e + x = zrg σ n 3 + 1 → zrl σ 3 ≤ x → (∀ j, j ≤ 2 → vs j = nI (v j)) → ∃ vs' l4', (∀ j, j ≤ 2 → vs' j = nI (v j)) ∧ zD 130 38 [some (.ref 275), some (.ref o), some (.int w), some (.int (nI c)), some (.int (nI x))] [] (xW L xs s (xC.mk C.N C.tg C.hd C.wt C.fb C.R C.G C.P C.Q C.E C.kr C.ct C.tt C.A C.qs C.qx C.qy vs C.lo C.hg C.ab (nI S.1) S.2 C.K C.kd) M) = zD 130 7 [some (.ref 275), some (.ref o), some (.int w), some (.int (nI (c + 1))), l4'] [] (xW L xs s (xC.mk C.N C.tg C.hd C.wt C.fb C.R C.G C.P C.Q C.E C.kr C.ct C.tt C.A C.qs C.qx C.qy vs' C.lo C.hg C.ab (nI (zg3 σ n tg hd w v e x S).1) ((zg3 σ n tg hd w v e x S).2) C.K C.kd) M)
  | 0, x, vs, S, he, hx, hv => by
    have n7 := (dwn_d ok h).n7
    have r7 := zrg_7 (σ := σ) n7 3
    have e1 : nI (zrg σ n 3) < nI x := by rw [zlt (by omega) (by omega)]; omega
    have p1 := (hp.1 3 (by omega)).2
    rw [show (if zask σ 3 = true then n else 0) = zrg σ n 3 from rfl] at p1
    have z3 : zin 3 4 = true := by decide
    have c3 : (3 : Int32).toNatClampNeg = 3 := by decide
    have e2 : nI c + 1 = nI (c + 1) := nI_1 c
    refine ⟨vs, some (.int (nI x)), hv, ?_⟩
    rw [E_X5_searchBehind_h38]
    simp [E_X5_searchBehind, zfok, zfv, zfs', ziok, ziv, zpok, zis', zlok, zlv', zls', zbok, zrok, zrv', zrs', zaok, zan, zcok, zcs', zis, zgv, zgh, zcat, zw_1, zw_21, zw_at, zclr_int, zclr_ref, zclr_null, zclr_none, zclr_long, zclr_clr, zbv_0, zbv_1, zbv_ite, zbv_ite', Value.category, xr0, xr1, xr2, xr3, xr4, xr5, xr6, xr7, xr8, xr265, xr266, xr267, xr268, xr269, xr270, xr271, xr272, xr273, xr274, xr275, xr276, xr277, xr278, xr279, xr280, xr281, xr282, xr283, xr284, xr285, xr286, xr287, xr288, xr289, xr290, xr291, xr292, xr293, xr294, xr295, xr296, xr297, xr298, xr299, xr300, xr301, xr302, xv2, xv3, xv4, xv6, xv7, xv266, xv268, xv269, xv270, xv271, xv273, xv274, xv275, xv276, xv277, xv278, xv279, xv280, xv281, xv282, xv283, xv284, xv285, xv286, xv287, xv288, xv289, xv290, xv291, xv292, xv293, xv294, xv295, xv296, xv297, xv298, xv299, xv300, xv301, xv302, znar0, znar1, znarI, zfitb, zfitb1, xC_N_mk, xC_tg_mk, xC_hd_mk, xC_wt_mk, xC_fb_mk, xC_R_mk, xC_G_mk, xC_P_mk, xC_Q_mk, xC_E_mk, xC_kr_mk, xC_ct_mk, xC_tt_mk, xC_A_mk, xC_qs_mk, xC_qx_mk, xC_qy_mk, xC_vs_mk, xC_lo_mk, xC_hg_mk, xC_ab_mk, xC_fo_mk, xC_pk_mk, xC_K_mk, xC_kd_mk, xM_n_mk, xM_tg_mk, xM_hd_mk, xM_wt_mk, xM_fb_mk, xM_kn_mk, xM_mn_mk, xM_rk_mk, xM_rs_mk, xM_rh_mk, xM_E_mk, xM_gn_mk, xM_ks_mk, xM_kt_mk, xM_kh_mk, xM_A_mk, xM_qs_mk, xM_qx_mk, xM_qy_mk, xM_rw_mk, xM_wo_mk, xM_ia_mk, xM_fo_mk, xM_pr_mk, xM_h_mk, xS_N_mk, xS_tg_mk, xS_hd_mk, xS_wt_mk, xS_fb_mk, xS_E_mk, xS_gn_mk, xS_ks_mk, xS_kt_mk, xS_kh_mk, xS_A_mk, xS_qs_mk, xS_qx_mk, xS_qy_mk, xC_eta, xM_eta, xS_eta, z3, c3, p1, e1, e2, zg3]
  | e + 1, x, vs, S, he, hx, hv => by
    have n7 := (dwn_d ok h).n7
    have r7 := zrg_7 (σ := σ) n7 3
    have e1 : ¬ nI (zrg σ n 3) < nI x := by rw [zlt (by omega) (by omega)]; omega
    have p1 := (hp.1 3 (by omega)).2
    rw [show (if zask σ 3 = true then n else 0) = zrg σ n 3 from rfl] at p1
    have z3 : zin 3 4 = true := by decide
    have c3 : (3 : Int32).toNatClampNeg = 3 := by decide
    have e2 : nI x + 1 = nI (x + 1) := nI_1 x
    have rc' : xRC σ (xC.mk C.N C.tg C.hd C.wt C.fb C.R C.G C.P C.Q C.E C.kr C.ct C.tt C.A C.qs C.qx C.qy vs C.lo C.hg C.ab (nI S.1) S.2 C.K C.kd) := rc
    have hp' : qpr σ n hd (xC.mk C.N C.tg C.hd C.wt C.fb C.R C.G C.P C.Q C.E C.kr C.ct C.tt C.A C.qs C.qx C.qy vs C.lo C.hg C.ab (nI S.1) S.2 C.K C.kd) := hp
    have f := s_isFit (L := L) (xs := xs) (s := s) (M := M) ok rc' h hp' (u := 3) (by omega) (v := zupd v 3 x) (x := x) (fun j hj => by show vs j = _; unfold zupd; rw [if_neg (by omega)]; exact hv j (by omega)) (by simp [zupd]) (qgd_up (fun j hj => hg j (by omega)) hx (by omega))
    simp only [xC_N_mk, xC_tg_mk, xC_hd_mk, xC_wt_mk, xC_fb_mk, xC_R_mk, xC_G_mk, xC_P_mk, xC_Q_mk, xC_E_mk, xC_kr_mk, xC_ct_mk, xC_tt_mk, xC_A_mk, xC_qs_mk, xC_qx_mk, xC_qy_mk, xC_vs_mk, xC_lo_mk, xC_hg_mk, xC_ab_mk, xC_fo_mk, xC_pk_mk, xC_K_mk, xC_kd_mk, xM_n_mk, xM_tg_mk, xM_hd_mk, xM_wt_mk, xM_fb_mk, xM_kn_mk, xM_mn_mk, xM_rk_mk, xM_rs_mk, xM_rh_mk, xM_E_mk, xM_gn_mk, xM_ks_mk, xM_kt_mk, xM_kh_mk, xM_A_mk, xM_qs_mk, xM_qx_mk, xM_qy_mk, xM_rw_mk, xM_wo_mk, xM_ia_mk, xM_fo_mk, xM_pr_mk, xM_h_mk, xS_N_mk, xS_tg_mk, xS_hd_mk, xS_wt_mk, xS_fb_mk, xS_E_mk, xS_gn_mk, xS_ks_mk, xS_kt_mk, xS_kh_mk, xS_A_mk, xS_qs_mk, xS_qx_mk, xS_qy_mk, xC_eta, xM_eta, xS_eta] at f
    rw [show nI 3 = 3 from rfl] at f
    have vs2 : ∀ j, j < 4 → upd vs 3 (nI x) j = nI (zupd v 3 x j) := fun j hj => by
      unfold upd zupd
      by_cases q : j = 3
      · rw [if_pos q, if_pos q]
      · rw [if_neg q, if_neg q]; exact hv j (by omega)
    have vs3 : ∀ j, j ≤ 2 → upd vs 3 (nI x) j = nI (v j) := fun j hj => by
      unfold upd
      rw [if_neg (by omega)]; exact hv j hj
    by_cases q : qfit σ n tg hd 3 (zupd v 3 x) = true
    · rw [if_pos q] at f
      have nt := s_note (L := L) (xs := xs) (s := s) (M := M) (C := C) (w := w) (S := S) vs2
      obtain ⟨vs', l4', a1, a2⟩ := l_g3 ok rc h hp (w := w) (c := c) hg e (x + 1) (upd vs 3 (nI x)) (zno w (zupd v 3 x) S) (by omega) (by omega) vs3
      refine ⟨vs', l4', a1, ?_⟩
      rw [zg3, if_pos q, ← a2, E_X5_searchBehind_h38]
      simp [E_X5_searchBehind, zfok, zfv, zfs', ziok, ziv, zpok, zis', zlok, zlv', zls', zbok, zrok, zrv', zrs', zaok, zan, zcok, zcs', zis, zgv, zgh, zcat, zw_1, zw_21, zw_at, zclr_int, zclr_ref, zclr_null, zclr_none, zclr_long, zclr_clr, zbv_0, zbv_1, zbv_ite, zbv_ite', Value.category, xr0, xr1, xr2, xr3, xr4, xr5, xr6, xr7, xr8, xr265, xr266, xr267, xr268, xr269, xr270, xr271, xr272, xr273, xr274, xr275, xr276, xr277, xr278, xr279, xr280, xr281, xr282, xr283, xr284, xr285, xr286, xr287, xr288, xr289, xr290, xr291, xr292, xr293, xr294, xr295, xr296, xr297, xr298, xr299, xr300, xr301, xr302, xv2, xv3, xv4, xv6, xv7, xv266, xv268, xv269, xv270, xv271, xv273, xv274, xv275, xv276, xv277, xv278, xv279, xv280, xv281, xv282, xv283, xv284, xv285, xv286, xv287, xv288, xv289, xv290, xv291, xv292, xv293, xv294, xv295, xv296, xv297, xv298, xv299, xv300, xv301, xv302, znar0, znar1, znarI, zfitb, zfitb1, xC_N_mk, xC_tg_mk, xC_hd_mk, xC_wt_mk, xC_fb_mk, xC_R_mk, xC_G_mk, xC_P_mk, xC_Q_mk, xC_E_mk, xC_kr_mk, xC_ct_mk, xC_tt_mk, xC_A_mk, xC_qs_mk, xC_qx_mk, xC_qy_mk, xC_vs_mk, xC_lo_mk, xC_hg_mk, xC_ab_mk, xC_fo_mk, xC_pk_mk, xC_K_mk, xC_kd_mk, xM_n_mk, xM_tg_mk, xM_hd_mk, xM_wt_mk, xM_fb_mk, xM_kn_mk, xM_mn_mk, xM_rk_mk, xM_rs_mk, xM_rh_mk, xM_E_mk, xM_gn_mk, xM_ks_mk, xM_kt_mk, xM_kh_mk, xM_A_mk, xM_qs_mk, xM_qx_mk, xM_qy_mk, xM_rw_mk, xM_wo_mk, xM_ia_mk, xM_fo_mk, xM_pr_mk, xM_h_mk, xS_N_mk, xS_tg_mk, xS_hd_mk, xS_wt_mk, xS_fb_mk, xS_E_mk, xS_gn_mk, xS_ks_mk, xS_kt_mk, xS_kh_mk, xS_A_mk, xS_qs_mk, xS_qx_mk, xS_qy_mk, xC_eta, xM_eta, xS_eta, z3, c3, p1, e1, e2, f, nt]
    · rw [if_neg q] at f
      obtain ⟨vs', l4', a1, a2⟩ := l_g3 ok rc h hp (w := w) (c := c) hg e (x + 1) (upd vs 3 (nI x)) S (by omega) (by omega) vs3
      refine ⟨vs', l4', a1, ?_⟩
      rw [zg3, if_neg q, ← a2, E_X5_searchBehind_h38]
      simp [E_X5_searchBehind, zfok, zfv, zfs', ziok, ziv, zpok, zis', zlok, zlv', zls', zbok, zrok, zrv', zrs', zaok, zan, zcok, zcs', zis, zgv, zgh, zcat, zw_1, zw_21, zw_at, zclr_int, zclr_ref, zclr_null, zclr_none, zclr_long, zclr_clr, zbv_0, zbv_1, zbv_ite, zbv_ite', Value.category, xr0, xr1, xr2, xr3, xr4, xr5, xr6, xr7, xr8, xr265, xr266, xr267, xr268, xr269, xr270, xr271, xr272, xr273, xr274, xr275, xr276, xr277, xr278, xr279, xr280, xr281, xr282, xr283, xr284, xr285, xr286, xr287, xr288, xr289, xr290, xr291, xr292, xr293, xr294, xr295, xr296, xr297, xr298, xr299, xr300, xr301, xr302, xv2, xv3, xv4, xv6, xv7, xv266, xv268, xv269, xv270, xv271, xv273, xv274, xv275, xv276, xv277, xv278, xv279, xv280, xv281, xv282, xv283, xv284, xv285, xv286, xv287, xv288, xv289, xv290, xv291, xv292, xv293, xv294, xv295, xv296, xv297, xv298, xv299, xv300, xv301, xv302, znar0, znar1, znarI, zfitb, zfitb1, xC_N_mk, xC_tg_mk, xC_hd_mk, xC_wt_mk, xC_fb_mk, xC_R_mk, xC_G_mk, xC_P_mk, xC_Q_mk, xC_E_mk, xC_kr_mk, xC_ct_mk, xC_tt_mk, xC_A_mk, xC_qs_mk, xC_qx_mk, xC_qy_mk, xC_vs_mk, xC_lo_mk, xC_hg_mk, xC_ab_mk, xC_fo_mk, xC_pk_mk, xC_K_mk, xC_kd_mk, xM_n_mk, xM_tg_mk, xM_hd_mk, xM_wt_mk, xM_fb_mk, xM_kn_mk, xM_mn_mk, xM_rk_mk, xM_rs_mk, xM_rh_mk, xM_E_mk, xM_gn_mk, xM_ks_mk, xM_kt_mk, xM_kh_mk, xM_A_mk, xM_qs_mk, xM_qx_mk, xM_qy_mk, xM_rw_mk, xM_wo_mk, xM_ia_mk, xM_fo_mk, xM_pr_mk, xM_h_mk, xS_N_mk, xS_tg_mk, xS_hd_mk, xS_wt_mk, xS_fb_mk, xS_E_mk, xS_gn_mk, xS_ks_mk, xS_kt_mk, xS_kh_mk, xS_A_mk, xS_qs_mk, xS_qx_mk, xS_qy_mk, xC_eta, xM_eta, xS_eta, z3, c3, p1, e1, e2, f]
theorem l_g2 (ok : xOk σ) (rc : xRC σ C) (h : dwn σ k o n tg hd) (hp : qpr σ n hd C) {w : Int32} {v : Nat → Nat} (hg : qgd σ n 1 v) : ∀ (e x : Nat) (vs : Nat → Int32) (S : Nat × Int32) (l4 : Option Value), e + x = zrg σ n 2 + 1 → zrl σ 2 ≤ x → (∀ j, j ≤ 1 → vs j = nI (v j)) → ∃ vs', (∀ j, j ≤ 1 → vs' j = nI (v j)) ∧ zD 130 7 [some (.ref 275), some (.ref o), some (.int w), some (.int (nI x)), l4] [] (xW L xs s (xC.mk C.N C.tg C.hd C.wt C.fb C.R C.G C.P C.Q C.E C.kr C.ct C.tt C.A C.qs C.qx C.qy vs C.lo C.hg C.ab (nI S.1) S.2 C.K C.kd) M) = some (none, xW L xs s (xC.mk C.N C.tg C.hd C.wt C.fb C.R C.G C.P C.Q C.E C.kr C.ct C.tt C.A C.qs C.qx C.qy vs' C.lo C.hg C.ab (nI (zg2 σ n tg hd w v e x S).1) ((zg2 σ n tg hd w v e x S).2) C.K C.kd) M)
  | 0, x, vs, S, l4, he, hx, hv => by
    have n7 := (dwn_d ok h).n7
    have r7 := zrg_7 (σ := σ) n7 2
    have e1 : nI (zrg σ n 2) < nI x := by rw [zlt (by omega) (by omega)]; omega
    have p1 := (hp.1 2 (by omega)).2
    rw [show (if zask σ 2 = true then n else 0) = zrg σ n 2 from rfl] at p1
    have z3 : zin 2 4 = true := by decide
    have c3 : (2 : Int32).toNatClampNeg = 2 := by decide
    refine ⟨vs, hv, ?_⟩
    rw [E_X5_searchBehind_h7]
    simp [E_X5_searchBehind, zfok, zfv, zfs', ziok, ziv, zpok, zis', zlok, zlv', zls', zbok, zrok, zrv', zrs', zaok, zan, zcok, zcs', zis, zgv, zgh, zcat, zw_1, zw_21, zw_at, zclr_int, zclr_ref, zclr_null, zclr_none, zclr_long, zclr_clr, zbv_0, zbv_1, zbv_ite, zbv_ite', Value.category, xr0, xr1, xr2, xr3, xr4, xr5, xr6, xr7, xr8, xr265, xr266, xr267, xr268, xr269, xr270, xr271, xr272, xr273, xr274, xr275, xr276, xr277, xr278, xr279, xr280, xr281, xr282, xr283, xr284, xr285, xr286, xr287, xr288, xr289, xr290, xr291, xr292, xr293, xr294, xr295, xr296, xr297, xr298, xr299, xr300, xr301, xr302, xv2, xv3, xv4, xv6, xv7, xv266, xv268, xv269, xv270, xv271, xv273, xv274, xv275, xv276, xv277, xv278, xv279, xv280, xv281, xv282, xv283, xv284, xv285, xv286, xv287, xv288, xv289, xv290, xv291, xv292, xv293, xv294, xv295, xv296, xv297, xv298, xv299, xv300, xv301, xv302, znar0, znar1, znarI, zfitb, zfitb1, xC_N_mk, xC_tg_mk, xC_hd_mk, xC_wt_mk, xC_fb_mk, xC_R_mk, xC_G_mk, xC_P_mk, xC_Q_mk, xC_E_mk, xC_kr_mk, xC_ct_mk, xC_tt_mk, xC_A_mk, xC_qs_mk, xC_qx_mk, xC_qy_mk, xC_vs_mk, xC_lo_mk, xC_hg_mk, xC_ab_mk, xC_fo_mk, xC_pk_mk, xC_K_mk, xC_kd_mk, xM_n_mk, xM_tg_mk, xM_hd_mk, xM_wt_mk, xM_fb_mk, xM_kn_mk, xM_mn_mk, xM_rk_mk, xM_rs_mk, xM_rh_mk, xM_E_mk, xM_gn_mk, xM_ks_mk, xM_kt_mk, xM_kh_mk, xM_A_mk, xM_qs_mk, xM_qx_mk, xM_qy_mk, xM_rw_mk, xM_wo_mk, xM_ia_mk, xM_fo_mk, xM_pr_mk, xM_h_mk, xS_N_mk, xS_tg_mk, xS_hd_mk, xS_wt_mk, xS_fb_mk, xS_E_mk, xS_gn_mk, xS_ks_mk, xS_kt_mk, xS_kh_mk, xS_A_mk, xS_qs_mk, xS_qx_mk, xS_qy_mk, xC_eta, xM_eta, xS_eta, z3, c3, p1, e1, zg2]
  | e + 1, x, vs, S, l4, he, hx, hv => by
    have n7 := (dwn_d ok h).n7
    have r7 := zrg_7 (σ := σ) n7 2
    have r73 := zrg_7 (σ := σ) n7 3
    have e1 : ¬ nI (zrg σ n 2) < nI x := by rw [zlt (by omega) (by omega)]; omega
    have p1 := (hp.1 2 (by omega)).2
    rw [show (if zask σ 2 = true then n else 0) = zrg σ n 2 from rfl] at p1
    have p3 := (hp.1 3 (by omega)).1
    rw [show (if zask σ 3 = true then 1 else 0) = zrl σ 3 from rfl] at p3
    have z3 : zin 2 4 = true := by decide
    have c3 : (2 : Int32).toNatClampNeg = 2 := by decide
    have z4 : zin 3 4 = true := by decide
    have c4 : (3 : Int32).toNatClampNeg = 3 := by decide
    have e2 : nI x + 1 = nI (x + 1) := nI_1 x
    have rc' : xRC σ (xC.mk C.N C.tg C.hd C.wt C.fb C.R C.G C.P C.Q C.E C.kr C.ct C.tt C.A C.qs C.qx C.qy vs C.lo C.hg C.ab (nI S.1) S.2 C.K C.kd) := rc
    have hp' : qpr σ n hd (xC.mk C.N C.tg C.hd C.wt C.fb C.R C.G C.P C.Q C.E C.kr C.ct C.tt C.A C.qs C.qx C.qy vs C.lo C.hg C.ab (nI S.1) S.2 C.K C.kd) := hp
    have gd := qgd_up (σ := σ) (n := n) (u := 2) (v := v) (x := x) (fun j hj => hg j (by omega)) hx (by omega)
    have f := s_isFit (L := L) (xs := xs) (s := s) (M := M) ok rc' h hp' (u := 2) (by omega) (v := zupd v 2 x) (x := x) (fun j hj => by show vs j = _; unfold zupd; rw [if_neg (by omega)]; exact hv j (by omega)) (by simp [zupd]) gd
    simp only [xC_N_mk, xC_tg_mk, xC_hd_mk, xC_wt_mk, xC_fb_mk, xC_R_mk, xC_G_mk, xC_P_mk, xC_Q_mk, xC_E_mk, xC_kr_mk, xC_ct_mk, xC_tt_mk, xC_A_mk, xC_qs_mk, xC_qx_mk, xC_qy_mk, xC_vs_mk, xC_lo_mk, xC_hg_mk, xC_ab_mk, xC_fo_mk, xC_pk_mk, xC_K_mk, xC_kd_mk, xM_n_mk, xM_tg_mk, xM_hd_mk, xM_wt_mk, xM_fb_mk, xM_kn_mk, xM_mn_mk, xM_rk_mk, xM_rs_mk, xM_rh_mk, xM_E_mk, xM_gn_mk, xM_ks_mk, xM_kt_mk, xM_kh_mk, xM_A_mk, xM_qs_mk, xM_qx_mk, xM_qy_mk, xM_rw_mk, xM_wo_mk, xM_ia_mk, xM_fo_mk, xM_pr_mk, xM_h_mk, xS_N_mk, xS_tg_mk, xS_hd_mk, xS_wt_mk, xS_fb_mk, xS_E_mk, xS_gn_mk, xS_ks_mk, xS_kt_mk, xS_kh_mk, xS_A_mk, xS_qs_mk, xS_qx_mk, xS_qy_mk, xC_eta, xM_eta, xS_eta] at f
    rw [show nI 2 = 2 from rfl] at f
    have vs2 : ∀ j, j ≤ 2 → upd vs 2 (nI x) j = nI (zupd v 2 x j) := fun j hj => by
      unfold upd zupd
      by_cases q : j = 2
      · rw [if_pos q, if_pos q]
      · rw [if_neg q, if_neg q]; exact hv j (by omega)
    have vs3 : ∀ j, j ≤ 1 → upd vs 2 (nI x) j = nI (v j) := fun j hj => by
      unfold upd
      rw [if_neg (by omega)]; exact hv j hj
    by_cases q : qfit σ n tg hd 2 (zupd v 2 x) = true
    · rw [if_pos q] at f
      have lr : zrl σ 3 ≤ zrg σ n 3 + 1 := by unfold zrl; split <;> omega
      obtain ⟨vs1, l4', b1, b2⟩ := l_g3 (L := L) (xs := xs) (s := s) (M := M) ok rc h hp (w := w) (c := x) gd (zrg σ n 3 + 1 - zrl σ 3) (zrl σ 3) (upd vs 2 (nI x)) S (by omega) (Nat.le_refl _) vs2
      obtain ⟨vs', a1, a2⟩ := l_g2 ok rc h hp (w := w) hg e (x + 1) vs1 (zg3 σ n tg hd w (zupd v 2 x) (zrg σ n 3 + 1 - zrl σ 3) (zrl σ 3) S) l4' (by omega) (by omega) (fun j hj => by rw [b1 j (by omega)]; unfold zupd; rw [if_neg (by omega)])
      refine ⟨vs', a1, ?_⟩
      rw [zg2, if_pos q, ← a2, ← b2, E_X5_searchBehind_h7]
      simp [E_X5_searchBehind, zfok, zfv, zfs', ziok, ziv, zpok, zis', zlok, zlv', zls', zbok, zrok, zrv', zrs', zaok, zan, zcok, zcs', zis, zgv, zgh, zcat, zw_1, zw_21, zw_at, zclr_int, zclr_ref, zclr_null, zclr_none, zclr_long, zclr_clr, zbv_0, zbv_1, zbv_ite, zbv_ite', Value.category, xr0, xr1, xr2, xr3, xr4, xr5, xr6, xr7, xr8, xr265, xr266, xr267, xr268, xr269, xr270, xr271, xr272, xr273, xr274, xr275, xr276, xr277, xr278, xr279, xr280, xr281, xr282, xr283, xr284, xr285, xr286, xr287, xr288, xr289, xr290, xr291, xr292, xr293, xr294, xr295, xr296, xr297, xr298, xr299, xr300, xr301, xr302, xv2, xv3, xv4, xv6, xv7, xv266, xv268, xv269, xv270, xv271, xv273, xv274, xv275, xv276, xv277, xv278, xv279, xv280, xv281, xv282, xv283, xv284, xv285, xv286, xv287, xv288, xv289, xv290, xv291, xv292, xv293, xv294, xv295, xv296, xv297, xv298, xv299, xv300, xv301, xv302, znar0, znar1, znarI, zfitb, zfitb1, xC_N_mk, xC_tg_mk, xC_hd_mk, xC_wt_mk, xC_fb_mk, xC_R_mk, xC_G_mk, xC_P_mk, xC_Q_mk, xC_E_mk, xC_kr_mk, xC_ct_mk, xC_tt_mk, xC_A_mk, xC_qs_mk, xC_qx_mk, xC_qy_mk, xC_vs_mk, xC_lo_mk, xC_hg_mk, xC_ab_mk, xC_fo_mk, xC_pk_mk, xC_K_mk, xC_kd_mk, xM_n_mk, xM_tg_mk, xM_hd_mk, xM_wt_mk, xM_fb_mk, xM_kn_mk, xM_mn_mk, xM_rk_mk, xM_rs_mk, xM_rh_mk, xM_E_mk, xM_gn_mk, xM_ks_mk, xM_kt_mk, xM_kh_mk, xM_A_mk, xM_qs_mk, xM_qx_mk, xM_qy_mk, xM_rw_mk, xM_wo_mk, xM_ia_mk, xM_fo_mk, xM_pr_mk, xM_h_mk, xS_N_mk, xS_tg_mk, xS_hd_mk, xS_wt_mk, xS_fb_mk, xS_E_mk, xS_gn_mk, xS_ks_mk, xS_kt_mk, xS_kh_mk, xS_A_mk, xS_qs_mk, xS_qx_mk, xS_qy_mk, xC_eta, xM_eta, xS_eta, z3, c3, z4, c4, p1, p3, e1, f]
    · rw [if_neg q] at f
      obtain ⟨vs', a1, a2⟩ := l_g2 ok rc h hp (w := w) hg e (x + 1) (upd vs 2 (nI x)) S l4 (by omega) (by omega) vs3
      refine ⟨vs', a1, ?_⟩
      rw [zg2, if_neg q, ← a2, E_X5_searchBehind_h7]
      simp [E_X5_searchBehind, zfok, zfv, zfs', ziok, ziv, zpok, zis', zlok, zlv', zls', zbok, zrok, zrv', zrs', zaok, zan, zcok, zcs', zis, zgv, zgh, zcat, zw_1, zw_21, zw_at, zclr_int, zclr_ref, zclr_null, zclr_none, zclr_long, zclr_clr, zbv_0, zbv_1, zbv_ite, zbv_ite', Value.category, xr0, xr1, xr2, xr3, xr4, xr5, xr6, xr7, xr8, xr265, xr266, xr267, xr268, xr269, xr270, xr271, xr272, xr273, xr274, xr275, xr276, xr277, xr278, xr279, xr280, xr281, xr282, xr283, xr284, xr285, xr286, xr287, xr288, xr289, xr290, xr291, xr292, xr293, xr294, xr295, xr296, xr297, xr298, xr299, xr300, xr301, xr302, xv2, xv3, xv4, xv6, xv7, xv266, xv268, xv269, xv270, xv271, xv273, xv274, xv275, xv276, xv277, xv278, xv279, xv280, xv281, xv282, xv283, xv284, xv285, xv286, xv287, xv288, xv289, xv290, xv291, xv292, xv293, xv294, xv295, xv296, xv297, xv298, xv299, xv300, xv301, xv302, znar0, znar1, znarI, zfitb, zfitb1, xC_N_mk, xC_tg_mk, xC_hd_mk, xC_wt_mk, xC_fb_mk, xC_R_mk, xC_G_mk, xC_P_mk, xC_Q_mk, xC_E_mk, xC_kr_mk, xC_ct_mk, xC_tt_mk, xC_A_mk, xC_qs_mk, xC_qx_mk, xC_qy_mk, xC_vs_mk, xC_lo_mk, xC_hg_mk, xC_ab_mk, xC_fo_mk, xC_pk_mk, xC_K_mk, xC_kd_mk, xM_n_mk, xM_tg_mk, xM_hd_mk, xM_wt_mk, xM_fb_mk, xM_kn_mk, xM_mn_mk, xM_rk_mk, xM_rs_mk, xM_rh_mk, xM_E_mk, xM_gn_mk, xM_ks_mk, xM_kt_mk, xM_kh_mk, xM_A_mk, xM_qs_mk, xM_qx_mk, xM_qy_mk, xM_rw_mk, xM_wo_mk, xM_ia_mk, xM_fo_mk, xM_pr_mk, xM_h_mk, xS_N_mk, xS_tg_mk, xS_hd_mk, xS_wt_mk, xS_fb_mk, xS_E_mk, xS_gn_mk, xS_ks_mk, xS_kt_mk, xS_kh_mk, xS_A_mk, xS_qs_mk, xS_qx_mk, xS_qy_mk, xC_eta, xM_eta, xS_eta, z3, c3, p1, e1, e2, f]
theorem s_behind (ok : xOk σ) (rc : xRC σ C) (h : dwn σ k o n tg hd) (hp : qpr σ n hd C) {w : Int32} {v : Nat → Nat} (hg : qgd σ n 1 v) {vs : Nat → Int32} {S : Nat × Int32} (hv : ∀ j, j ≤ 1 → vs j = nI (v j)) : ∃ vs', (∀ j, j ≤ 1 → vs' j = nI (v j)) ∧ zC 130 [.ref 275, .ref o, .int w] (xW L xs s (xC.mk C.N C.tg C.hd C.wt C.fb C.R C.G C.P C.Q C.E C.kr C.ct C.tt C.A C.qs C.qx C.qy vs C.lo C.hg C.ab (nI S.1) S.2 C.K C.kd) M) = some (none, xW L xs s (xC.mk C.N C.tg C.hd C.wt C.fb C.R C.G C.P C.Q C.E C.kr C.ct C.tt C.A C.qs C.qx C.qy vs' C.lo C.hg C.ab (nI (zg2 σ n tg hd w v (zrg σ n 2 + 1 - zrl σ 2) (zrl σ 2) S).1) ((zg2 σ n tg hd w v (zrg σ n 2 + 1 - zrl σ 2) (zrl σ 2) S).2) C.K C.kd) M) := by
  have lr : zrl σ 2 ≤ zrg σ n 2 + 1 := by unfold zrl; split <;> omega
  obtain ⟨vs', a1, a2⟩ := l_g2 (L := L) (xs := xs) (s := s) (M := M) ok rc h hp (w := w) hg (zrg σ n 2 + 1 - zrl σ 2) (zrl σ 2) vs S none (by omega) (Nat.le_refl _) hv
  refine ⟨vs', a1, ?_⟩
  have p3 := (hp.1 2 (by omega)).1
  rw [show (if zask σ 2 = true then 1 else 0) = zrl σ 2 from rfl] at p3
  have z3 : zin 2 4 = true := by decide
  have c3 : (2 : Int32).toNatClampNeg = 2 := by decide
  rw [← a2]
  simp [I_X5_searchBehind, E_X5_searchBehind, zfok, zfv, zfs', ziok, ziv, zpok, zis', zlok, zlv', zls', zbok, zrok, zrv', zrs', zaok, zan, zcok, zcs', zis, zgv, zgh, zcat, zw_1, zw_21, zw_at, zclr_int, zclr_ref, zclr_null, zclr_none, zclr_long, zclr_clr, zbv_0, zbv_1, zbv_ite, zbv_ite', Value.category, xr0, xr1, xr2, xr3, xr4, xr5, xr6, xr7, xr8, xr265, xr266, xr267, xr268, xr269, xr270, xr271, xr272, xr273, xr274, xr275, xr276, xr277, xr278, xr279, xr280, xr281, xr282, xr283, xr284, xr285, xr286, xr287, xr288, xr289, xr290, xr291, xr292, xr293, xr294, xr295, xr296, xr297, xr298, xr299, xr300, xr301, xr302, xv2, xv3, xv4, xv6, xv7, xv266, xv268, xv269, xv270, xv271, xv273, xv274, xv275, xv276, xv277, xv278, xv279, xv280, xv281, xv282, xv283, xv284, xv285, xv286, xv287, xv288, xv289, xv290, xv291, xv292, xv293, xv294, xv295, xv296, xv297, xv298, xv299, xv300, xv301, xv302, znar0, znar1, znarI, zfitb, zfitb1, xC_N_mk, xC_tg_mk, xC_hd_mk, xC_wt_mk, xC_fb_mk, xC_R_mk, xC_G_mk, xC_P_mk, xC_Q_mk, xC_E_mk, xC_kr_mk, xC_ct_mk, xC_tt_mk, xC_A_mk, xC_qs_mk, xC_qx_mk, xC_qy_mk, xC_vs_mk, xC_lo_mk, xC_hg_mk, xC_ab_mk, xC_fo_mk, xC_pk_mk, xC_K_mk, xC_kd_mk, xM_n_mk, xM_tg_mk, xM_hd_mk, xM_wt_mk, xM_fb_mk, xM_kn_mk, xM_mn_mk, xM_rk_mk, xM_rs_mk, xM_rh_mk, xM_E_mk, xM_gn_mk, xM_ks_mk, xM_kt_mk, xM_kh_mk, xM_A_mk, xM_qs_mk, xM_qx_mk, xM_qy_mk, xM_rw_mk, xM_wo_mk, xM_ia_mk, xM_fo_mk, xM_pr_mk, xM_h_mk, xS_N_mk, xS_tg_mk, xS_hd_mk, xS_wt_mk, xS_fb_mk, xS_E_mk, xS_gn_mk, xS_ks_mk, xS_kt_mk, xS_kh_mk, xS_A_mk, xS_qs_mk, xS_qx_mk, xS_qy_mk, xC_eta, xM_eta, xS_eta, z3, c3, p3]
theorem l_g1 (ok : xOk σ) (rc : xRC σ C) (h : dwn σ k o n tg hd) (hp : qpr σ n hd C) {w : Int32} {c : Nat} {v : Nat → Nat} (hg : qgd σ n 0 v) : ∀ (e x : Nat) (vs : Nat → Int32) (S : Nat × Int32), e + x = zrg σ n 1 + 1 → zrl σ 1 ≤ x → (∀ j, j ≤ 0 → vs j = nI (v j)) → ∃ vs' l4', (∀ j, j ≤ 0 → vs' j = nI (v j)) ∧ zD 151 43 [some (.ref 275), some (.ref o), some (.int w), some (.int (nI c)), some (.int (nI x))] [] (xW L xs s (xC.mk C.N C.tg C.hd C.wt C.fb C.R C.G C.P C.Q C.E C.kr C.ct C.tt C.A C.qs C.qx C.qy vs C.lo C.hg C.ab (nI S.1) S.2 C.K C.kd) M) = zD 151 12 [some (.ref 275), some (.ref o), some (.int w), some (.int (nI (c + 1))), l4'] [] (xW L xs s (xC.mk C.N C.tg C.hd C.wt C.fb C.R C.G C.P C.Q C.E C.kr C.ct C.tt C.A C.qs C.qx C.qy vs' C.lo C.hg C.ab (nI (zg1 σ n tg hd w v e x S).1) ((zg1 σ n tg hd w v e x S).2) C.K C.kd) M)
  | 0, x, vs, S, he, hx, hv => by
    have n7 := (dwn_d ok h).n7
    have r7 := zrg_7 (σ := σ) n7 1
    have e1 : nI (zrg σ n 1) < nI x := by rw [zlt (by omega) (by omega)]; omega
    have p1 := (hp.1 1 (by omega)).2
    rw [show (if zask σ 1 = true then n else 0) = zrg σ n 1 from rfl] at p1
    have z3 : zin 1 4 = true := by decide
    have c3 : (1 : Int32).toNatClampNeg = 1 := by decide
    have e2 : nI c + 1 = nI (c + 1) := nI_1 c
    refine ⟨vs, some (.int (nI x)), hv, ?_⟩
    rw [E_X5_search_h43]
    simp [E_X5_search, zfok, zfv, zfs', ziok, ziv, zpok, zis', zlok, zlv', zls', zbok, zrok, zrv', zrs', zaok, zan, zcok, zcs', zis, zgv, zgh, zcat, zw_1, zw_21, zw_at, zclr_int, zclr_ref, zclr_null, zclr_none, zclr_long, zclr_clr, zbv_0, zbv_1, zbv_ite, zbv_ite', Value.category, xr0, xr1, xr2, xr3, xr4, xr5, xr6, xr7, xr8, xr265, xr266, xr267, xr268, xr269, xr270, xr271, xr272, xr273, xr274, xr275, xr276, xr277, xr278, xr279, xr280, xr281, xr282, xr283, xr284, xr285, xr286, xr287, xr288, xr289, xr290, xr291, xr292, xr293, xr294, xr295, xr296, xr297, xr298, xr299, xr300, xr301, xr302, xv2, xv3, xv4, xv6, xv7, xv266, xv268, xv269, xv270, xv271, xv273, xv274, xv275, xv276, xv277, xv278, xv279, xv280, xv281, xv282, xv283, xv284, xv285, xv286, xv287, xv288, xv289, xv290, xv291, xv292, xv293, xv294, xv295, xv296, xv297, xv298, xv299, xv300, xv301, xv302, znar0, znar1, znarI, zfitb, zfitb1, xC_N_mk, xC_tg_mk, xC_hd_mk, xC_wt_mk, xC_fb_mk, xC_R_mk, xC_G_mk, xC_P_mk, xC_Q_mk, xC_E_mk, xC_kr_mk, xC_ct_mk, xC_tt_mk, xC_A_mk, xC_qs_mk, xC_qx_mk, xC_qy_mk, xC_vs_mk, xC_lo_mk, xC_hg_mk, xC_ab_mk, xC_fo_mk, xC_pk_mk, xC_K_mk, xC_kd_mk, xM_n_mk, xM_tg_mk, xM_hd_mk, xM_wt_mk, xM_fb_mk, xM_kn_mk, xM_mn_mk, xM_rk_mk, xM_rs_mk, xM_rh_mk, xM_E_mk, xM_gn_mk, xM_ks_mk, xM_kt_mk, xM_kh_mk, xM_A_mk, xM_qs_mk, xM_qx_mk, xM_qy_mk, xM_rw_mk, xM_wo_mk, xM_ia_mk, xM_fo_mk, xM_pr_mk, xM_h_mk, xS_N_mk, xS_tg_mk, xS_hd_mk, xS_wt_mk, xS_fb_mk, xS_E_mk, xS_gn_mk, xS_ks_mk, xS_kt_mk, xS_kh_mk, xS_A_mk, xS_qs_mk, xS_qx_mk, xS_qy_mk, xC_eta, xM_eta, xS_eta, z3, c3, p1, e1, e2, zg1]
  | e + 1, x, vs, S, he, hx, hv => by
    have n7 := (dwn_d ok h).n7
    have r7 := zrg_7 (σ := σ) n7 1
    have e1 : ¬ nI (zrg σ n 1) < nI x := by rw [zlt (by omega) (by omega)]; omega
    have p1 := (hp.1 1 (by omega)).2
    rw [show (if zask σ 1 = true then n else 0) = zrg σ n 1 from rfl] at p1
    have z3 : zin 1 4 = true := by decide
    have c3 : (1 : Int32).toNatClampNeg = 1 := by decide
    have e2 : nI x + 1 = nI (x + 1) := nI_1 x
    have rc' : xRC σ (xC.mk C.N C.tg C.hd C.wt C.fb C.R C.G C.P C.Q C.E C.kr C.ct C.tt C.A C.qs C.qx C.qy vs C.lo C.hg C.ab (nI S.1) S.2 C.K C.kd) := rc
    have hp' : qpr σ n hd (xC.mk C.N C.tg C.hd C.wt C.fb C.R C.G C.P C.Q C.E C.kr C.ct C.tt C.A C.qs C.qx C.qy vs C.lo C.hg C.ab (nI S.1) S.2 C.K C.kd) := hp
    have gd := qgd_up (σ := σ) (n := n) (u := 1) (v := v) (x := x) (fun j hj => hg j (by omega)) hx (by omega)
    have f := s_isFit (L := L) (xs := xs) (s := s) (M := M) ok rc' h hp' (u := 1) (by omega) (v := zupd v 1 x) (x := x) (fun j hj => by show vs j = _; unfold zupd; rw [if_neg (by omega)]; exact hv j (by omega)) (by simp [zupd]) gd
    simp only [xC_N_mk, xC_tg_mk, xC_hd_mk, xC_wt_mk, xC_fb_mk, xC_R_mk, xC_G_mk, xC_P_mk, xC_Q_mk, xC_E_mk, xC_kr_mk, xC_ct_mk, xC_tt_mk, xC_A_mk, xC_qs_mk, xC_qx_mk, xC_qy_mk, xC_vs_mk, xC_lo_mk, xC_hg_mk, xC_ab_mk, xC_fo_mk, xC_pk_mk, xC_K_mk, xC_kd_mk, xM_n_mk, xM_tg_mk, xM_hd_mk, xM_wt_mk, xM_fb_mk, xM_kn_mk, xM_mn_mk, xM_rk_mk, xM_rs_mk, xM_rh_mk, xM_E_mk, xM_gn_mk, xM_ks_mk, xM_kt_mk, xM_kh_mk, xM_A_mk, xM_qs_mk, xM_qx_mk, xM_qy_mk, xM_rw_mk, xM_wo_mk, xM_ia_mk, xM_fo_mk, xM_pr_mk, xM_h_mk, xS_N_mk, xS_tg_mk, xS_hd_mk, xS_wt_mk, xS_fb_mk, xS_E_mk, xS_gn_mk, xS_ks_mk, xS_kt_mk, xS_kh_mk, xS_A_mk, xS_qs_mk, xS_qx_mk, xS_qy_mk, xC_eta, xM_eta, xS_eta] at f
    rw [show nI 1 = 1 from rfl] at f
    have vs2 : ∀ j, j ≤ 1 → upd vs 1 (nI x) j = nI (zupd v 1 x j) := fun j hj => by
      unfold upd zupd
      by_cases q : j = 1
      · rw [if_pos q, if_pos q]
      · rw [if_neg q, if_neg q]; exact hv j (by omega)
    have vs3 : ∀ j, j ≤ 0 → upd vs 1 (nI x) j = nI (v j) := fun j hj => by
      unfold upd
      rw [if_neg (by omega)]; exact hv j hj
    by_cases q : qfit σ n tg hd 1 (zupd v 1 x) = true
    · rw [if_pos q] at f
      obtain ⟨vs1, b1, b2⟩ := s_behind (L := L) (xs := xs) (s := s) (M := M) ok rc h hp (w := w) gd (vs := upd vs 1 (nI x)) (S := S) vs2
      obtain ⟨vs', l4', a1, a2⟩ := l_g1 ok rc h hp (w := w) (c := c) hg e (x + 1) vs1 (zg2 σ n tg hd w (zupd v 1 x) (zrg σ n 2 + 1 - zrl σ 2) (zrl σ 2) S) (by omega) (by omega) (fun j hj => by rw [b1 j (by omega)]; unfold zupd; rw [if_neg (by omega)])
      refine ⟨vs', l4', a1, ?_⟩
      rw [zg1, if_pos q, ← a2, E_X5_search_h43]
      simp [E_X5_search, zfok, zfv, zfs', ziok, ziv, zpok, zis', zlok, zlv', zls', zbok, zrok, zrv', zrs', zaok, zan, zcok, zcs', zis, zgv, zgh, zcat, zw_1, zw_21, zw_at, zclr_int, zclr_ref, zclr_null, zclr_none, zclr_long, zclr_clr, zbv_0, zbv_1, zbv_ite, zbv_ite', Value.category, xr0, xr1, xr2, xr3, xr4, xr5, xr6, xr7, xr8, xr265, xr266, xr267, xr268, xr269, xr270, xr271, xr272, xr273, xr274, xr275, xr276, xr277, xr278, xr279, xr280, xr281, xr282, xr283, xr284, xr285, xr286, xr287, xr288, xr289, xr290, xr291, xr292, xr293, xr294, xr295, xr296, xr297, xr298, xr299, xr300, xr301, xr302, xv2, xv3, xv4, xv6, xv7, xv266, xv268, xv269, xv270, xv271, xv273, xv274, xv275, xv276, xv277, xv278, xv279, xv280, xv281, xv282, xv283, xv284, xv285, xv286, xv287, xv288, xv289, xv290, xv291, xv292, xv293, xv294, xv295, xv296, xv297, xv298, xv299, xv300, xv301, xv302, znar0, znar1, znarI, zfitb, zfitb1, xC_N_mk, xC_tg_mk, xC_hd_mk, xC_wt_mk, xC_fb_mk, xC_R_mk, xC_G_mk, xC_P_mk, xC_Q_mk, xC_E_mk, xC_kr_mk, xC_ct_mk, xC_tt_mk, xC_A_mk, xC_qs_mk, xC_qx_mk, xC_qy_mk, xC_vs_mk, xC_lo_mk, xC_hg_mk, xC_ab_mk, xC_fo_mk, xC_pk_mk, xC_K_mk, xC_kd_mk, xM_n_mk, xM_tg_mk, xM_hd_mk, xM_wt_mk, xM_fb_mk, xM_kn_mk, xM_mn_mk, xM_rk_mk, xM_rs_mk, xM_rh_mk, xM_E_mk, xM_gn_mk, xM_ks_mk, xM_kt_mk, xM_kh_mk, xM_A_mk, xM_qs_mk, xM_qx_mk, xM_qy_mk, xM_rw_mk, xM_wo_mk, xM_ia_mk, xM_fo_mk, xM_pr_mk, xM_h_mk, xS_N_mk, xS_tg_mk, xS_hd_mk, xS_wt_mk, xS_fb_mk, xS_E_mk, xS_gn_mk, xS_ks_mk, xS_kt_mk, xS_kh_mk, xS_A_mk, xS_qs_mk, xS_qx_mk, xS_qy_mk, xC_eta, xM_eta, xS_eta, z3, c3, p1, e1, e2, f, b2]
    · rw [if_neg q] at f
      obtain ⟨vs', l4', a1, a2⟩ := l_g1 ok rc h hp (w := w) (c := c) hg e (x + 1) (upd vs 1 (nI x)) S (by omega) (by omega) vs3
      refine ⟨vs', l4', a1, ?_⟩
      rw [zg1, if_neg q, ← a2, E_X5_search_h43]
      simp [E_X5_search, zfok, zfv, zfs', ziok, ziv, zpok, zis', zlok, zlv', zls', zbok, zrok, zrv', zrs', zaok, zan, zcok, zcs', zis, zgv, zgh, zcat, zw_1, zw_21, zw_at, zclr_int, zclr_ref, zclr_null, zclr_none, zclr_long, zclr_clr, zbv_0, zbv_1, zbv_ite, zbv_ite', Value.category, xr0, xr1, xr2, xr3, xr4, xr5, xr6, xr7, xr8, xr265, xr266, xr267, xr268, xr269, xr270, xr271, xr272, xr273, xr274, xr275, xr276, xr277, xr278, xr279, xr280, xr281, xr282, xr283, xr284, xr285, xr286, xr287, xr288, xr289, xr290, xr291, xr292, xr293, xr294, xr295, xr296, xr297, xr298, xr299, xr300, xr301, xr302, xv2, xv3, xv4, xv6, xv7, xv266, xv268, xv269, xv270, xv271, xv273, xv274, xv275, xv276, xv277, xv278, xv279, xv280, xv281, xv282, xv283, xv284, xv285, xv286, xv287, xv288, xv289, xv290, xv291, xv292, xv293, xv294, xv295, xv296, xv297, xv298, xv299, xv300, xv301, xv302, znar0, znar1, znarI, zfitb, zfitb1, xC_N_mk, xC_tg_mk, xC_hd_mk, xC_wt_mk, xC_fb_mk, xC_R_mk, xC_G_mk, xC_P_mk, xC_Q_mk, xC_E_mk, xC_kr_mk, xC_ct_mk, xC_tt_mk, xC_A_mk, xC_qs_mk, xC_qx_mk, xC_qy_mk, xC_vs_mk, xC_lo_mk, xC_hg_mk, xC_ab_mk, xC_fo_mk, xC_pk_mk, xC_K_mk, xC_kd_mk, xM_n_mk, xM_tg_mk, xM_hd_mk, xM_wt_mk, xM_fb_mk, xM_kn_mk, xM_mn_mk, xM_rk_mk, xM_rs_mk, xM_rh_mk, xM_E_mk, xM_gn_mk, xM_ks_mk, xM_kt_mk, xM_kh_mk, xM_A_mk, xM_qs_mk, xM_qx_mk, xM_qy_mk, xM_rw_mk, xM_wo_mk, xM_ia_mk, xM_fo_mk, xM_pr_mk, xM_h_mk, xS_N_mk, xS_tg_mk, xS_hd_mk, xS_wt_mk, xS_fb_mk, xS_E_mk, xS_gn_mk, xS_ks_mk, xS_kt_mk, xS_kh_mk, xS_A_mk, xS_qs_mk, xS_qx_mk, xS_qy_mk, xC_eta, xM_eta, xS_eta, z3, c3, p1, e1, e2, f]
theorem l_g0 (ok : xOk σ) (rc : xRC σ C) (h : dwn σ k o n tg hd) (hp : qpr σ n hd C) {w : Int32} {v : Nat → Nat} : ∀ (e x : Nat) (vs : Nat → Int32) (S : Nat × Int32) (l4 : Option Value), e + x = zrg σ n 0 + 1 → zrl σ 0 ≤ x → ∃ vs', zD 151 12 [some (.ref 275), some (.ref o), some (.int w), some (.int (nI x)), l4] [] (xW L xs s (xC.mk C.N C.tg C.hd C.wt C.fb C.R C.G C.P C.Q C.E C.kr C.ct C.tt C.A C.qs C.qx C.qy vs C.lo C.hg C.ab (nI S.1) S.2 C.K C.kd) M) = some (some (.int (nI (zg0 σ n tg hd w v e x S).1)), xW L xs s (xC.mk C.N C.tg C.hd C.wt C.fb C.R C.G C.P C.Q C.E C.kr C.ct C.tt C.A C.qs C.qx C.qy vs' C.lo C.hg C.ab (nI (zg0 σ n tg hd w v e x S).1) ((zg0 σ n tg hd w v e x S).2) C.K C.kd) M)
  | 0, x, vs, S, l4, he, hx => by
    have n7 := (dwn_d ok h).n7
    have r7 := zrg_7 (σ := σ) n7 0
    have e1 : nI (zrg σ n 0) < nI x := by rw [zlt (by omega) (by omega)]; omega
    have p1 := (hp.1 0 (by omega)).2
    rw [show (if zask σ 0 = true then n else 0) = zrg σ n 0 from rfl] at p1
    have z3 : zin 0 4 = true := by decide
    have c3 : (0 : Int32).toNatClampNeg = 0 := by decide
    refine ⟨vs, ?_⟩
    rw [E_X5_search_h12]
    simp [E_X5_search, zfok, zfv, zfs', ziok, ziv, zpok, zis', zlok, zlv', zls', zbok, zrok, zrv', zrs', zaok, zan, zcok, zcs', zis, zgv, zgh, zcat, zw_1, zw_21, zw_at, zclr_int, zclr_ref, zclr_null, zclr_none, zclr_long, zclr_clr, zbv_0, zbv_1, zbv_ite, zbv_ite', Value.category, xr0, xr1, xr2, xr3, xr4, xr5, xr6, xr7, xr8, xr265, xr266, xr267, xr268, xr269, xr270, xr271, xr272, xr273, xr274, xr275, xr276, xr277, xr278, xr279, xr280, xr281, xr282, xr283, xr284, xr285, xr286, xr287, xr288, xr289, xr290, xr291, xr292, xr293, xr294, xr295, xr296, xr297, xr298, xr299, xr300, xr301, xr302, xv2, xv3, xv4, xv6, xv7, xv266, xv268, xv269, xv270, xv271, xv273, xv274, xv275, xv276, xv277, xv278, xv279, xv280, xv281, xv282, xv283, xv284, xv285, xv286, xv287, xv288, xv289, xv290, xv291, xv292, xv293, xv294, xv295, xv296, xv297, xv298, xv299, xv300, xv301, xv302, znar0, znar1, znarI, zfitb, zfitb1, xC_N_mk, xC_tg_mk, xC_hd_mk, xC_wt_mk, xC_fb_mk, xC_R_mk, xC_G_mk, xC_P_mk, xC_Q_mk, xC_E_mk, xC_kr_mk, xC_ct_mk, xC_tt_mk, xC_A_mk, xC_qs_mk, xC_qx_mk, xC_qy_mk, xC_vs_mk, xC_lo_mk, xC_hg_mk, xC_ab_mk, xC_fo_mk, xC_pk_mk, xC_K_mk, xC_kd_mk, xM_n_mk, xM_tg_mk, xM_hd_mk, xM_wt_mk, xM_fb_mk, xM_kn_mk, xM_mn_mk, xM_rk_mk, xM_rs_mk, xM_rh_mk, xM_E_mk, xM_gn_mk, xM_ks_mk, xM_kt_mk, xM_kh_mk, xM_A_mk, xM_qs_mk, xM_qx_mk, xM_qy_mk, xM_rw_mk, xM_wo_mk, xM_ia_mk, xM_fo_mk, xM_pr_mk, xM_h_mk, xS_N_mk, xS_tg_mk, xS_hd_mk, xS_wt_mk, xS_fb_mk, xS_E_mk, xS_gn_mk, xS_ks_mk, xS_kt_mk, xS_kh_mk, xS_A_mk, xS_qs_mk, xS_qx_mk, xS_qy_mk, xC_eta, xM_eta, xS_eta, z3, c3, p1, e1, zg0]
  | e + 1, x, vs, S, l4, he, hx => by
    have n7 := (dwn_d ok h).n7
    have r7 := zrg_7 (σ := σ) n7 0
    have r73 := zrg_7 (σ := σ) n7 1
    have e1 : ¬ nI (zrg σ n 0) < nI x := by rw [zlt (by omega) (by omega)]; omega
    have p1 := (hp.1 0 (by omega)).2
    rw [show (if zask σ 0 = true then n else 0) = zrg σ n 0 from rfl] at p1
    have p3 := (hp.1 1 (by omega)).1
    rw [show (if zask σ 1 = true then 1 else 0) = zrl σ 1 from rfl] at p3
    have z3 : zin 0 4 = true := by decide
    have c3 : (0 : Int32).toNatClampNeg = 0 := by decide
    have z4 : zin 1 4 = true := by decide
    have c4 : (1 : Int32).toNatClampNeg = 1 := by decide
    have e2 : nI x + 1 = nI (x + 1) := nI_1 x
    have rc' : xRC σ (xC.mk C.N C.tg C.hd C.wt C.fb C.R C.G C.P C.Q C.E C.kr C.ct C.tt C.A C.qs C.qx C.qy vs C.lo C.hg C.ab (nI S.1) S.2 C.K C.kd) := rc
    have hp' : qpr σ n hd (xC.mk C.N C.tg C.hd C.wt C.fb C.R C.G C.P C.Q C.E C.kr C.ct C.tt C.A C.qs C.qx C.qy vs C.lo C.hg C.ab (nI S.1) S.2 C.K C.kd) := hp
    have gd := qgd_up (σ := σ) (n := n) (u := 0) (v := v) (x := x) (fun j hj => absurd hj (Nat.not_lt_zero _)) hx (by omega)
    have f := s_isFit (L := L) (xs := xs) (s := s) (M := M) ok rc' h hp' (u := 0) (by omega) (v := zupd v 0 x) (x := x) (fun j hj => absurd hj (Nat.not_lt_zero _)) (by simp [zupd]) gd
    simp only [xC_N_mk, xC_tg_mk, xC_hd_mk, xC_wt_mk, xC_fb_mk, xC_R_mk, xC_G_mk, xC_P_mk, xC_Q_mk, xC_E_mk, xC_kr_mk, xC_ct_mk, xC_tt_mk, xC_A_mk, xC_qs_mk, xC_qx_mk, xC_qy_mk, xC_vs_mk, xC_lo_mk, xC_hg_mk, xC_ab_mk, xC_fo_mk, xC_pk_mk, xC_K_mk, xC_kd_mk, xM_n_mk, xM_tg_mk, xM_hd_mk, xM_wt_mk, xM_fb_mk, xM_kn_mk, xM_mn_mk, xM_rk_mk, xM_rs_mk, xM_rh_mk, xM_E_mk, xM_gn_mk, xM_ks_mk, xM_kt_mk, xM_kh_mk, xM_A_mk, xM_qs_mk, xM_qx_mk, xM_qy_mk, xM_rw_mk, xM_wo_mk, xM_ia_mk, xM_fo_mk, xM_pr_mk, xM_h_mk, xS_N_mk, xS_tg_mk, xS_hd_mk, xS_wt_mk, xS_fb_mk, xS_E_mk, xS_gn_mk, xS_ks_mk, xS_kt_mk, xS_kh_mk, xS_A_mk, xS_qs_mk, xS_qx_mk, xS_qy_mk, xC_eta, xM_eta, xS_eta] at f
    rw [nI_0] at f
    have vs2 : ∀ j, j ≤ 0 → upd vs 0 (nI x) j = nI (zupd v 0 x j) := fun j hj => by
      have q : j = 0 := by omega
      unfold upd zupd
      rw [if_pos q, if_pos q]
    by_cases q : qfit σ n tg hd 0 (zupd v 0 x) = true
    · rw [if_pos q] at f
      have lr : zrl σ 1 ≤ zrg σ n 1 + 1 := by unfold zrl; split <;> omega
      obtain ⟨vs1, l4', b1, b2⟩ := l_g1 (L := L) (xs := xs) (s := s) (M := M) ok rc h hp (w := w) (c := x) gd (zrg σ n 1 + 1 - zrl σ 1) (zrl σ 1) (upd vs 0 (nI x)) S (by omega) (Nat.le_refl _) vs2
      obtain ⟨vs', a2⟩ := l_g0 ok rc h hp (w := w) (v := v) e (x + 1) vs1 (zg1 σ n tg hd w (zupd v 0 x) (zrg σ n 1 + 1 - zrl σ 1) (zrl σ 1) S) l4' (by omega) (by omega)
      refine ⟨vs', ?_⟩
      rw [zg0, if_pos q, ← a2, ← b2, E_X5_search_h12]
      simp [E_X5_search, zfok, zfv, zfs', ziok, ziv, zpok, zis', zlok, zlv', zls', zbok, zrok, zrv', zrs', zaok, zan, zcok, zcs', zis, zgv, zgh, zcat, zw_1, zw_21, zw_at, zclr_int, zclr_ref, zclr_null, zclr_none, zclr_long, zclr_clr, zbv_0, zbv_1, zbv_ite, zbv_ite', Value.category, xr0, xr1, xr2, xr3, xr4, xr5, xr6, xr7, xr8, xr265, xr266, xr267, xr268, xr269, xr270, xr271, xr272, xr273, xr274, xr275, xr276, xr277, xr278, xr279, xr280, xr281, xr282, xr283, xr284, xr285, xr286, xr287, xr288, xr289, xr290, xr291, xr292, xr293, xr294, xr295, xr296, xr297, xr298, xr299, xr300, xr301, xr302, xv2, xv3, xv4, xv6, xv7, xv266, xv268, xv269, xv270, xv271, xv273, xv274, xv275, xv276, xv277, xv278, xv279, xv280, xv281, xv282, xv283, xv284, xv285, xv286, xv287, xv288, xv289, xv290, xv291, xv292, xv293, xv294, xv295, xv296, xv297, xv298, xv299, xv300, xv301, xv302, znar0, znar1, znarI, zfitb, zfitb1, xC_N_mk, xC_tg_mk, xC_hd_mk, xC_wt_mk, xC_fb_mk, xC_R_mk, xC_G_mk, xC_P_mk, xC_Q_mk, xC_E_mk, xC_kr_mk, xC_ct_mk, xC_tt_mk, xC_A_mk, xC_qs_mk, xC_qx_mk, xC_qy_mk, xC_vs_mk, xC_lo_mk, xC_hg_mk, xC_ab_mk, xC_fo_mk, xC_pk_mk, xC_K_mk, xC_kd_mk, xM_n_mk, xM_tg_mk, xM_hd_mk, xM_wt_mk, xM_fb_mk, xM_kn_mk, xM_mn_mk, xM_rk_mk, xM_rs_mk, xM_rh_mk, xM_E_mk, xM_gn_mk, xM_ks_mk, xM_kt_mk, xM_kh_mk, xM_A_mk, xM_qs_mk, xM_qx_mk, xM_qy_mk, xM_rw_mk, xM_wo_mk, xM_ia_mk, xM_fo_mk, xM_pr_mk, xM_h_mk, xS_N_mk, xS_tg_mk, xS_hd_mk, xS_wt_mk, xS_fb_mk, xS_E_mk, xS_gn_mk, xS_ks_mk, xS_kt_mk, xS_kh_mk, xS_A_mk, xS_qs_mk, xS_qx_mk, xS_qy_mk, xC_eta, xM_eta, xS_eta, z3, c3, z4, c4, p1, p3, e1, f]
    · rw [if_neg q] at f
      obtain ⟨vs', a2⟩ := l_g0 ok rc h hp (w := w) (v := v) e (x + 1) (upd vs 0 (nI x)) S l4 (by omega) (by omega)
      refine ⟨vs', ?_⟩
      rw [zg0, if_neg q, ← a2, E_X5_search_h12]
      simp [E_X5_search, zfok, zfv, zfs', ziok, ziv, zpok, zis', zlok, zlv', zls', zbok, zrok, zrv', zrs', zaok, zan, zcok, zcs', zis, zgv, zgh, zcat, zw_1, zw_21, zw_at, zclr_int, zclr_ref, zclr_null, zclr_none, zclr_long, zclr_clr, zbv_0, zbv_1, zbv_ite, zbv_ite', Value.category, xr0, xr1, xr2, xr3, xr4, xr5, xr6, xr7, xr8, xr265, xr266, xr267, xr268, xr269, xr270, xr271, xr272, xr273, xr274, xr275, xr276, xr277, xr278, xr279, xr280, xr281, xr282, xr283, xr284, xr285, xr286, xr287, xr288, xr289, xr290, xr291, xr292, xr293, xr294, xr295, xr296, xr297, xr298, xr299, xr300, xr301, xr302, xv2, xv3, xv4, xv6, xv7, xv266, xv268, xv269, xv270, xv271, xv273, xv274, xv275, xv276, xv277, xv278, xv279, xv280, xv281, xv282, xv283, xv284, xv285, xv286, xv287, xv288, xv289, xv290, xv291, xv292, xv293, xv294, xv295, xv296, xv297, xv298, xv299, xv300, xv301, xv302, znar0, znar1, znarI, zfitb, zfitb1, xC_N_mk, xC_tg_mk, xC_hd_mk, xC_wt_mk, xC_fb_mk, xC_R_mk, xC_G_mk, xC_P_mk, xC_Q_mk, xC_E_mk, xC_kr_mk, xC_ct_mk, xC_tt_mk, xC_A_mk, xC_qs_mk, xC_qx_mk, xC_qy_mk, xC_vs_mk, xC_lo_mk, xC_hg_mk, xC_ab_mk, xC_fo_mk, xC_pk_mk, xC_K_mk, xC_kd_mk, xM_n_mk, xM_tg_mk, xM_hd_mk, xM_wt_mk, xM_fb_mk, xM_kn_mk, xM_mn_mk, xM_rk_mk, xM_rs_mk, xM_rh_mk, xM_E_mk, xM_gn_mk, xM_ks_mk, xM_kt_mk, xM_kh_mk, xM_A_mk, xM_qs_mk, xM_qx_mk, xM_qy_mk, xM_rw_mk, xM_wo_mk, xM_ia_mk, xM_fo_mk, xM_pr_mk, xM_h_mk, xS_N_mk, xS_tg_mk, xS_hd_mk, xS_wt_mk, xS_fb_mk, xS_E_mk, xS_gn_mk, xS_ks_mk, xS_kt_mk, xS_kh_mk, xS_A_mk, xS_qs_mk, xS_qx_mk, xS_qy_mk, xC_eta, xM_eta, xS_eta, z3, c3, p1, e1, e2, f]
end QUEST2
