/-! the reference: a tree is noted -/
section NOTE
variable {L s : Nat} {xs : Nat → Int32} {C : xC} {M : xM} {N : Nat}
/-- how many sums from the front stay ahead of sm -/
def zpo (q : Nat → Int32) (sm : Int32) : Nat → Nat
  | 0 => 0
  | m + 1 => if q m < sm then zpo q sm m else m + 1
theorem zpo_le (q : Nat → Int32) (sm : Int32) : ∀ m, zpo q sm m ≤ m
  | 0 => Nat.le_refl 0
  | m + 1 => by
    unfold zpo
    split
    · exact Nat.le_succ_of_le (zpo_le q sm m)
    · exact Nat.le_refl _
theorem zpo_end (q : Nat → Int32) (sm : Int32) : ∀ m, zpo q sm m = 0 ∨ ¬ q (zpo q sm m - 1) < sm
  | 0 => Or.inl rfl
  | m + 1 => by
    unfold zpo
    by_cases h : q m < sm
    · rw [if_pos h]; exact zpo_end q sm m
    · rw [if_neg h]; exact Or.inr h
theorem z31 (t j : Nat) : (31 : Int32) * nI t + nI j = nI (31 * t + j) := by
  rw [show (31 : Int32) = nI 31 from rfl, pk_mul, nI_add]
theorem l_n17 {t : Nat} (ht : t < 2) {sm : Int32} : ∀ (j : Nat), j ≤ 31 → zD 33 17 [some (.ref 283), some (.int (nI t)), some (.int sm), some (.int (nI j)), none, none, none] [] (xW L xs s C M) = zD 33 17 [some (.ref 283), some (.int (nI t)), some (.int sm), some (.int (nI (zpo (fun i => M.rs (31 * t + i)) sm j))), none, none, none] [] (xW L xs s C M)
  | 0, _ => rfl
  | j + 1, hj => by
    unfold zpo
    by_cases q : M.rs (31 * t + j) < sm
    · rw [if_pos q, ← l_n17 ht j (by omega), E_X10_note_h17]
      have e1 : ¬ nI (j + 1) ≤ 0 := fun z => absurd ((zle (b := 0) (by omega) (by omega)).mp z) (by omega)
      have e2 : nI (31 * t + (j + 1)) - 1 = nI (31 * t + j) := nI_pred (31 * t + j)
      have e3 : zin (nI (31 * t + j)) 62 = true := zin8 (by omega) (by omega)
      have e4 : (nI (31 * t + j)).toNatClampNeg = 31 * t + j := zcl7 (by omega)
      have e5 : nI (j + 1) + -1 = nI j := by rw [← nI_pred j]; grind
      have e6 : ¬ sm ≤ M.rs (31 * t + j) := Int32.not_le.mpr q
      simp [E_X10_note, zfok, zfv, zfs', ziok, ziv, zpok, zis', zlok, zlv', zls', zbok, zrok, zrv', zrs', zaok, zan, zcok, zcs', zis, zgv, zgh, zcat, zw_1, zw_21, zw_at, zclr_int, zclr_ref, zclr_null, zclr_none, zclr_long, zclr_clr, zbv_0, zbv_1, zbv_ite, zbv_ite', Value.category, xr0, xr1, xr2, xr3, xr4, xr5, xr6, xr7, xr8, xr265, xr266, xr267, xr268, xr269, xr270, xr271, xr272, xr273, xr274, xr275, xr276, xr277, xr278, xr279, xr280, xr281, xr282, xr283, xr284, xr285, xr286, xr287, xr288, xr289, xr290, xr291, xr292, xr293, xr294, xr295, xr296, xr297, xr298, xr299, xr300, xr301, xr302, xv2, xv3, xv4, xv6, xv7, xv266, xv268, xv269, xv270, xv271, xv273, xv274, xv275, xv276, xv277, xv278, xv279, xv280, xv281, xv282, xv283, xv284, xv285, xv286, xv287, xv288, xv289, xv290, xv291, xv292, xv293, xv294, xv295, xv296, xv297, xv298, xv299, xv300, xv301, xv302, znar0, znar1, znarI, zfitb, zfitb1, xC_N_mk, xC_tg_mk, xC_hd_mk, xC_wt_mk, xC_fb_mk, xC_R_mk, xC_G_mk, xC_P_mk, xC_Q_mk, xC_E_mk, xC_kr_mk, xC_ct_mk, xC_tt_mk, xC_A_mk, xC_qs_mk, xC_qx_mk, xC_qy_mk, xC_vs_mk, xC_lo_mk, xC_hg_mk, xC_ab_mk, xC_fo_mk, xC_pk_mk, xC_K_mk, xC_kd_mk, xM_n_mk, xM_tg_mk, xM_hd_mk, xM_wt_mk, xM_fb_mk, xM_kn_mk, xM_mn_mk, xM_rk_mk, xM_rs_mk, xM_rh_mk, xM_E_mk, xM_gn_mk, xM_ks_mk, xM_kt_mk, xM_kh_mk, xM_A_mk, xM_qs_mk, xM_qx_mk, xM_qy_mk, xM_rw_mk, xM_wo_mk, xM_ia_mk, xM_fo_mk, xM_pr_mk, xM_h_mk, xS_N_mk, xS_tg_mk, xS_hd_mk, xS_wt_mk, xS_fb_mk, xS_E_mk, xS_gn_mk, xS_ks_mk, xS_kt_mk, xS_kh_mk, xS_A_mk, xS_qs_mk, xS_qx_mk, xS_qy_mk, xC_eta, xM_eta, xS_eta, e1, z31, e2, e3, e4, e5, e6]
    · rw [if_neg q]
theorem l_n114 (hN : N ≤ 7) {t p la k : Nat} (ht : t < 2) (hk : k < 31) (hk1 : 1 ≤ k) {sm : Int32} (hn : M.n = nI N) : ∀ (c d : Nat) (rh : Nat → Int32), c + d = N + 1 → 1 ≤ d → ∃ l6', zD 33 114 [some (.ref 283), some (.int (nI t)), some (.int sm), some (.int (nI p)), some (.int (nI la)), some (.int (nI k)), some (.int (nI d))] [] (xW L xs s C (xM.mk M.n M.tg M.hd M.wt M.fb M.kn M.mn M.rk M.rs rh M.E M.gn M.ks M.kt M.kh M.A M.qs M.qx M.qy M.rw M.wo M.ia M.fo M.pr M.h)) = zD 33 79 [some (.ref 283), some (.int (nI t)), some (.int sm), some (.int (nI p)), some (.int (nI la)), some (.int (nI (k - 1))), l6'] [] (xW L xs s C (xM.mk M.n M.tg M.hd M.wt M.fb M.kn M.mn M.rk M.rs (fun x => if 8 * (31 * t + k) + d ≤ x ∧ x ≤ 8 * (31 * t + k) + N then rh (x - 8) else rh x) M.E M.gn M.ks M.kt M.kh M.A M.qs M.qx M.qy M.rw M.wo M.ia M.fo M.pr M.h))
  | 0, d, rh, e, h1 => by
    have e1 : nI N < nI d := by rw [zlt (by omega) (by omega)]; omega
    rw [← hn] at e1
    have e2 : nI k + -1 = nI (k - 1) := by
      obtain ⟨k', rfl⟩ : ∃ k', k = k' + 1 := ⟨k - 1, by omega⟩
      rw [Nat.add_sub_cancel, ← nI_pred k']; grind
    have u : (fun x => if 8 * (31 * t + k) + d ≤ x ∧ x ≤ 8 * (31 * t + k) + N then rh (x - 8) else rh x) = rh := by
      funext x; rw [if_neg (by omega)]
    refine ⟨some (.int (nI d)), ?_⟩
    rw [E_X10_note_h114, u]
    simp [E_X10_note, zfok, zfv, zfs', ziok, ziv, zpok, zis', zlok, zlv', zls', zbok, zrok, zrv', zrs', zaok, zan, zcok, zcs', zis, zgv, zgh, zcat, zw_1, zw_21, zw_at, zclr_int, zclr_ref, zclr_null, zclr_none, zclr_long, zclr_clr, zbv_0, zbv_1, zbv_ite, zbv_ite', Value.category, xr0, xr1, xr2, xr3, xr4, xr5, xr6, xr7, xr8, xr265, xr266, xr267, xr268, xr269, xr270, xr271, xr272, xr273, xr274, xr275, xr276, xr277, xr278, xr279, xr280, xr281, xr282, xr283, xr284, xr285, xr286, xr287, xr288, xr289, xr290, xr291, xr292, xr293, xr294, xr295, xr296, xr297, xr298, xr299, xr300, xr301, xr302, xv2, xv3, xv4, xv6, xv7, xv266, xv268, xv269, xv270, xv271, xv273, xv274, xv275, xv276, xv277, xv278, xv279, xv280, xv281, xv282, xv283, xv284, xv285, xv286, xv287, xv288, xv289, xv290, xv291, xv292, xv293, xv294, xv295, xv296, xv297, xv298, xv299, xv300, xv301, xv302, znar0, znar1, znarI, zfitb, zfitb1, xC_N_mk, xC_tg_mk, xC_hd_mk, xC_wt_mk, xC_fb_mk, xC_R_mk, xC_G_mk, xC_P_mk, xC_Q_mk, xC_E_mk, xC_kr_mk, xC_ct_mk, xC_tt_mk, xC_A_mk, xC_qs_mk, xC_qx_mk, xC_qy_mk, xC_vs_mk, xC_lo_mk, xC_hg_mk, xC_ab_mk, xC_fo_mk, xC_pk_mk, xC_K_mk, xC_kd_mk, xM_n_mk, xM_tg_mk, xM_hd_mk, xM_wt_mk, xM_fb_mk, xM_kn_mk, xM_mn_mk, xM_rk_mk, xM_rs_mk, xM_rh_mk, xM_E_mk, xM_gn_mk, xM_ks_mk, xM_kt_mk, xM_kh_mk, xM_A_mk, xM_qs_mk, xM_qx_mk, xM_qy_mk, xM_rw_mk, xM_wo_mk, xM_ia_mk, xM_fo_mk, xM_pr_mk, xM_h_mk, xS_N_mk, xS_tg_mk, xS_hd_mk, xS_wt_mk, xS_fb_mk, xS_E_mk, xS_gn_mk, xS_ks_mk, xS_kt_mk, xS_kh_mk, xS_A_mk, xS_qs_mk, xS_qx_mk, xS_qy_mk, xC_eta, xM_eta, xS_eta, e1, e2]
  | c + 1, d, rh, e, h1 => by
    have e1 : ¬ nI N < nI d := by rw [zlt (by omega) (by omega)]; omega
    rw [← hn] at e1
    have e2 : nI d + 1 = nI (d + 1) := nI_1 d
    have e3 : zin (nI (8 * (31 * t + k) + d)) 496 = true := zin8 (by omega) (by omega)
    have e4 : (nI (8 * (31 * t + k) + d)).toNatClampNeg = 8 * (31 * t + k) + d := zcl7 (by omega)
    have e5 : nI (31 * t + k) - 1 = nI (31 * t + k - 1) := by
      obtain ⟨k', hk'⟩ : ∃ k', 31 * t + k = k' + 1 := ⟨31 * t + k - 1, by omega⟩
      rw [hk', Nat.add_sub_cancel, nI_pred]
    have e6 : zin (nI (8 * (31 * t + k - 1) + d)) 496 = true := zin8 (by omega) (by omega)
    have e7 : (nI (8 * (31 * t + k - 1) + d)).toNatClampNeg = 8 * (31 * t + k) + d - 8 := by rw [zcl7 (by omega)]; omega
    obtain ⟨l6', k1⟩ := l_n114 hN ht hk hk1 (p := p) (la := la) (sm := sm) hn c (d + 1) (upd rh (8 * (31 * t + k) + d) (rh (8 * (31 * t + k) + d - 8))) (by omega) (by omega)
    refine ⟨l6', ?_⟩
    have u : (fun x => if 8 * (31 * t + k) + (d + 1) ≤ x ∧ x ≤ 8 * (31 * t + k) + N then upd rh (8 * (31 * t + k) + d) (rh (8 * (31 * t + k) + d - 8)) (x - 8) else upd rh (8 * (31 * t + k) + d) (rh (8 * (31 * t + k) + d - 8)) x) = fun x => if 8 * (31 * t + k) + d ≤ x ∧ x ≤ 8 * (31 * t + k) + N then rh (x - 8) else rh x := by
      funext x
      unfold upd
      by_cases q : x = 8 * (31 * t + k) + d
      · rw [if_neg (by omega), if_pos q, if_pos (by omega), q]
      · by_cases q2 : 8 * (31 * t + k) + d ≤ x ∧ x ≤ 8 * (31 * t + k) + N
        · rw [if_pos (by omega), if_pos q2, if_neg (by omega)]
        · rw [if_neg (by omega), if_neg q, if_neg q2]
    rw [u] at k1
    rw [← k1, E_X10_note_h114]
    simp [E_X10_note, zfok, zfv, zfs', ziok, ziv, zpok, zis', zlok, zlv', zls', zbok, zrok, zrv', zrs', zaok, zan, zcok, zcs', zis, zgv, zgh, zcat, zw_1, zw_21, zw_at, zclr_int, zclr_ref, zclr_null, zclr_none, zclr_long, zclr_clr, zbv_0, zbv_1, zbv_ite, zbv_ite', Value.category, xr0, xr1, xr2, xr3, xr4, xr5, xr6, xr7, xr8, xr265, xr266, xr267, xr268, xr269, xr270, xr271, xr272, xr273, xr274, xr275, xr276, xr277, xr278, xr279, xr280, xr281, xr282, xr283, xr284, xr285, xr286, xr287, xr288, xr289, xr290, xr291, xr292, xr293, xr294, xr295, xr296, xr297, xr298, xr299, xr300, xr301, xr302, xv2, xv3, xv4, xv6, xv7, xv266, xv268, xv269, xv270, xv271, xv273, xv274, xv275, xv276, xv277, xv278, xv279, xv280, xv281, xv282, xv283, xv284, xv285, xv286, xv287, xv288, xv289, xv290, xv291, xv292, xv293, xv294, xv295, xv296, xv297, xv298, xv299, xv300, xv301, xv302, znar0, znar1, znarI, zfitb, zfitb1, xC_N_mk, xC_tg_mk, xC_hd_mk, xC_wt_mk, xC_fb_mk, xC_R_mk, xC_G_mk, xC_P_mk, xC_Q_mk, xC_E_mk, xC_kr_mk, xC_ct_mk, xC_tt_mk, xC_A_mk, xC_qs_mk, xC_qx_mk, xC_qy_mk, xC_vs_mk, xC_lo_mk, xC_hg_mk, xC_ab_mk, xC_fo_mk, xC_pk_mk, xC_K_mk, xC_kd_mk, xM_n_mk, xM_tg_mk, xM_hd_mk, xM_wt_mk, xM_fb_mk, xM_kn_mk, xM_mn_mk, xM_rk_mk, xM_rs_mk, xM_rh_mk, xM_E_mk, xM_gn_mk, xM_ks_mk, xM_kt_mk, xM_kh_mk, xM_A_mk, xM_qs_mk, xM_qx_mk, xM_qy_mk, xM_rw_mk, xM_wo_mk, xM_ia_mk, xM_fo_mk, xM_pr_mk, xM_h_mk, xS_N_mk, xS_tg_mk, xS_hd_mk, xS_wt_mk, xS_fb_mk, xS_E_mk, xS_gn_mk, xS_ks_mk, xS_kt_mk, xS_kh_mk, xS_A_mk, xS_qs_mk, xS_qx_mk, xS_qy_mk, xC_eta, xM_eta, xS_eta, e1, e2, z31, z8, e3, e4, e5, e6, e7]
def zsR (t p k : Nat) (rs : Nat → Int32) : Nat → Int32 := fun x => if 31 * t + p < x ∧ x ≤ 31 * t + k then rs (x - 1) else rs x
def zsH (t p k N : Nat) (rh : Nat → Int32) : Nat → Int32 := fun x => if 31 * t + p < x / 8 ∧ x / 8 ≤ 31 * t + k ∧ 1 ≤ x % 8 ∧ x % 8 ≤ N then rh (x - 8) else rh x
theorem l_n79 (hN : N ≤ 7) {t p la : Nat} (ht : t < 2) {sm : Int32} (hn : M.n = nI N) : ∀ (c : Nat) (rs rh : Nat → Int32) (l6 : Option Value), c + p < 31 → ∃ l6', zD 33 79 [some (.ref 283), some (.int (nI t)), some (.int sm), some (.int (nI p)), some (.int (nI la)), some (.int (nI (c + p))), l6] [] (xW L xs s C (xM.mk M.n M.tg M.hd M.wt M.fb M.kn M.mn M.rk rs rh M.E M.gn M.ks M.kt M.kh M.A M.qs M.qx M.qy M.rw M.wo M.ia M.fo M.pr M.h)) = zD 33 79 [some (.ref 283), some (.int (nI t)), some (.int sm), some (.int (nI p)), some (.int (nI la)), some (.int (nI p)), l6'] [] (xW L xs s C (xM.mk M.n M.tg M.hd M.wt M.fb M.kn M.mn M.rk (zsR t p (c + p) rs) (zsH t p (c + p) N rh) M.E M.gn M.ks M.kt M.kh M.A M.qs M.qx M.qy M.rw M.wo M.ia M.fo M.pr M.h))
  | 0, rs, rh, l6, e => by
    refine ⟨l6, ?_⟩
    have u1 : zsR t p (0 + p) rs = rs := by
      funext x; unfold zsR; rw [if_neg (by omega)]
    have u2 : zsH t p (0 + p) N rh = rh := by
      funext x; unfold zsH; rw [if_neg (by omega)]
    rw [u1, u2, Nat.zero_add]
  | c + 1, rs, rh, l6, e => by
    have e1 : ¬ nI (c + 1 + p) ≤ nI p := fun z => absurd ((zle (by omega) (by omega)).mp z) (by omega)
    have e3 : zin (nI (31 * t + (c + 1 + p))) 62 = true := zin8 (by omega) (by omega)
    have e4 : (nI (31 * t + (c + 1 + p))).toNatClampNeg = 31 * t + (c + 1 + p) := zcl7 (by omega)
    have e5 : nI (31 * t + (c + 1 + p)) - 1 = nI (31 * t + (c + p)) := by
      rw [show 31 * t + (c + 1 + p) = (31 * t + (c + p)) + 1 by omega, nI_pred]
    have e6 : zin (nI (31 * t + (c + p))) 62 = true := zin8 (by omega) (by omega)
    have e7 : (nI (31 * t + (c + p))).toNatClampNeg = 31 * t + (c + p) := zcl7 (by omega)
    have hn' : ((xM.mk M.n M.tg M.hd M.wt M.fb M.kn M.mn M.rk (upd rs (31 * t + (c + 1 + p)) (rs (31 * t + (c + p)))) M.rh M.E M.gn M.ks M.kt M.kh M.A M.qs M.qx M.qy M.rw M.wo M.ia M.fo M.pr M.h)).n = nI N := hn
    obtain ⟨l6a, k1⟩ := l_n114 (L := L) (xs := xs) (s := s) (C := C) (M := (xM.mk M.n M.tg M.hd M.wt M.fb M.kn M.mn M.rk (upd rs (31 * t + (c + 1 + p)) (rs (31 * t + (c + p)))) M.rh M.E M.gn M.ks M.kt M.kh M.A M.qs M.qx M.qy M.rw M.wo M.ia M.fo M.pr M.h)) hN ht (k := c + 1 + p) (by omega) (by omega) (p := p) (la := la) (sm := sm) hn' N 1 rh (by omega) (by omega)
    obtain ⟨l6b, k2⟩ := l_n79 hN ht (p := p) (la := la) (sm := sm) hn c (upd rs (31 * t + (c + 1 + p)) (rs (31 * t + (c + p)))) (fun x => if 8 * (31 * t + (c + 1 + p)) + 1 ≤ x ∧ x ≤ 8 * (31 * t + (c + 1 + p)) + N then rh (x - 8) else rh x) l6a (by omega)
    refine ⟨l6b, ?_⟩
    have u1 : zsR t p (c + p) (upd rs (31 * t + (c + 1 + p)) (rs (31 * t + (c + p)))) = zsR t p (c + 1 + p) rs := by
      funext x
      unfold zsR upd
      by_cases q : x = 31 * t + (c + 1 + p)
      · rw [if_neg (by omega), if_pos q, if_pos (by omega), q, show 31 * t + (c + 1 + p) - 1 = 31 * t + (c + p) by omega]
      · by_cases q2 : 31 * t + p < x ∧ x ≤ 31 * t + (c + 1 + p)
        · rw [if_pos (by omega), if_pos q2, if_neg (by omega)]
        · rw [if_neg (by omega), if_neg q, if_neg q2]
    have u2 : zsH t p (c + p) N (fun x => if 8 * (31 * t + (c + 1 + p)) + 1 ≤ x ∧ x ≤ 8 * (31 * t + (c + 1 + p)) + N then rh (x - 8) else rh x) = zsH t p (c + 1 + p) N rh := by
      funext x
      unfold zsH
      dsimp only
      by_cases q : 8 * (31 * t + (c + 1 + p)) + 1 ≤ x ∧ x ≤ 8 * (31 * t + (c + 1 + p)) + N
      · rw [if_neg (by omega), if_pos q, if_pos (by omega)]
      · by_cases q2 : 31 * t + p < x / 8 ∧ x / 8 ≤ 31 * t + (c + 1 + p) ∧ 1 ≤ x % 8 ∧ x % 8 ≤ N
        · rw [if_pos (by omega), if_neg (by omega), if_pos q2]
        · rw [if_neg (by omega), if_neg q, if_neg q2]
    rw [u1, u2] at k2
    simp only [xC_N_mk, xC_tg_mk, xC_hd_mk, xC_wt_mk, xC_fb_mk, xC_R_mk, xC_G_mk, xC_P_mk, xC_Q_mk, xC_E_mk, xC_kr_mk, xC_ct_mk, xC_tt_mk, xC_A_mk, xC_qs_mk, xC_qx_mk, xC_qy_mk, xC_vs_mk, xC_lo_mk, xC_hg_mk, xC_ab_mk, xC_fo_mk, xC_pk_mk, xC_K_mk, xC_kd_mk, xM_n_mk, xM_tg_mk, xM_hd_mk, xM_wt_mk, xM_fb_mk, xM_kn_mk, xM_mn_mk, xM_rk_mk, xM_rs_mk, xM_rh_mk, xM_E_mk, xM_gn_mk, xM_ks_mk, xM_kt_mk, xM_kh_mk, xM_A_mk, xM_qs_mk, xM_qx_mk, xM_qy_mk, xM_rw_mk, xM_wo_mk, xM_ia_mk, xM_fo_mk, xM_pr_mk, xM_h_mk, xS_N_mk, xS_tg_mk, xS_hd_mk, xS_wt_mk, xS_fb_mk, xS_E_mk, xS_gn_mk, xS_ks_mk, xS_kt_mk, xS_kh_mk, xS_A_mk, xS_qs_mk, xS_qx_mk, xS_qy_mk, xC_eta, xM_eta, xS_eta] at k1
    rw [show c + 1 + p - 1 = c + p by omega, show nI 1 = 1 from rfl] at k1
    rw [← k2, ← k1, E_X10_note_h79]
    simp [E_X10_note, zfok, zfv, zfs', ziok, ziv, zpok, zis', zlok, zlv', zls', zbok, zrok, zrv', zrs', zaok, zan, zcok, zcs', zis, zgv, zgh, zcat, zw_1, zw_21, zw_at, zclr_int, zclr_ref, zclr_null, zclr_none, zclr_long, zclr_clr, zbv_0, zbv_1, zbv_ite, zbv_ite', Value.category, xr0, xr1, xr2, xr3, xr4, xr5, xr6, xr7, xr8, xr265, xr266, xr267, xr268, xr269, xr270, xr271, xr272, xr273, xr274, xr275, xr276, xr277, xr278, xr279, xr280, xr281, xr282, xr283, xr284, xr285, xr286, xr287, xr288, xr289, xr290, xr291, xr292, xr293, xr294, xr295, xr296, xr297, xr298, xr299, xr300, xr301, xr302, xv2, xv3, xv4, xv6, xv7, xv266, xv268, xv269, xv270, xv271, xv273, xv274, xv275, xv276, xv277, xv278, xv279, xv280, xv281, xv282, xv283, xv284, xv285, xv286, xv287, xv288, xv289, xv290, xv291, xv292, xv293, xv294, xv295, xv296, xv297, xv298, xv299, xv300, xv301, xv302, znar0, znar1, znarI, zfitb, zfitb1, xC_N_mk, xC_tg_mk, xC_hd_mk, xC_wt_mk, xC_fb_mk, xC_R_mk, xC_G_mk, xC_P_mk, xC_Q_mk, xC_E_mk, xC_kr_mk, xC_ct_mk, xC_tt_mk, xC_A_mk, xC_qs_mk, xC_qx_mk, xC_qy_mk, xC_vs_mk, xC_lo_mk, xC_hg_mk, xC_ab_mk, xC_fo_mk, xC_pk_mk, xC_K_mk, xC_kd_mk, xM_n_mk, xM_tg_mk, xM_hd_mk, xM_wt_mk, xM_fb_mk, xM_kn_mk, xM_mn_mk, xM_rk_mk, xM_rs_mk, xM_rh_mk, xM_E_mk, xM_gn_mk, xM_ks_mk, xM_kt_mk, xM_kh_mk, xM_A_mk, xM_qs_mk, xM_qx_mk, xM_qy_mk, xM_rw_mk, xM_wo_mk, xM_ia_mk, xM_fo_mk, xM_pr_mk, xM_h_mk, xS_N_mk, xS_tg_mk, xS_hd_mk, xS_wt_mk, xS_fb_mk, xS_E_mk, xS_gn_mk, xS_ks_mk, xS_kt_mk, xS_kh_mk, xS_A_mk, xS_qs_mk, xS_qx_mk, xS_qy_mk, xC_eta, xM_eta, xS_eta, e1, z31, e3, e4, e5, e6, e7]
theorem l_n188 (hN : N ≤ 7) {t p la : Nat} (ht : t < 2) (hp : p < 31) {sm : Int32} (hn : M.n = nI N) : ∀ (c d : Nat) (rh : Nat → Int32) (l6 : Option Value), c + d = N + 1 → 1 ≤ d → zD 33 188 [some (.ref 283), some (.int (nI t)), some (.int sm), some (.int (nI p)), some (.int (nI la)), some (.int (nI d)), l6] [] (xW L xs s C (xM.mk M.n M.tg M.hd M.wt M.fb M.kn M.mn M.rk M.rs rh M.E M.gn M.ks M.kt M.kh M.A M.qs M.qx M.qy M.rw M.wo M.ia M.fo M.pr M.h)) = some (none, xW L xs s C (xM.mk M.n M.tg M.hd M.wt M.fb M.kn M.mn (upd M.rk t (nI (la + 1))) M.rs ((fun x => if 8 * (31 * t + p) + d ≤ x ∧ x ≤ 8 * (31 * t + p) + N then M.rw (x - 8 * (31 * t + p)) else rh x)) M.E M.gn M.ks M.kt M.kh M.A M.qs M.qx M.qy M.rw M.wo M.ia M.fo M.pr M.h))
  | 0, d, rh, l6, e, h1 => by
    have e1 : nI N < nI d := by rw [zlt (by omega) (by omega)]; omega
    rw [← hn] at e1
    have e2 : nI la + 1 = nI (la + 1) := nI_1 la
    have e3 : zin (nI t) 2 = true := zin8 (by omega) (by omega)
    have e4 : (nI t).toNatClampNeg = t := zcl7 (by omega)
    have u : (fun x => if 8 * (31 * t + p) + d ≤ x ∧ x ≤ 8 * (31 * t + p) + N then M.rw (x - 8 * (31 * t + p)) else rh x) = rh := by
      funext x; rw [if_neg (by omega)]
    rw [E_X10_note_h188, u]
    simp [E_X10_note, zfok, zfv, zfs', ziok, ziv, zpok, zis', zlok, zlv', zls', zbok, zrok, zrv', zrs', zaok, zan, zcok, zcs', zis, zgv, zgh, zcat, zw_1, zw_21, zw_at, zclr_int, zclr_ref, zclr_null, zclr_none, zclr_long, zclr_clr, zbv_0, zbv_1, zbv_ite, zbv_ite', Value.category, xr0, xr1, xr2, xr3, xr4, xr5, xr6, xr7, xr8, xr265, xr266, xr267, xr268, xr269, xr270, xr271, xr272, xr273, xr274, xr275, xr276, xr277, xr278, xr279, xr280, xr281, xr282, xr283, xr284, xr285, xr286, xr287, xr288, xr289, xr290, xr291, xr292, xr293, xr294, xr295, xr296, xr297, xr298, xr299, xr300, xr301, xr302, xv2, xv3, xv4, xv6, xv7, xv266, xv268, xv269, xv270, xv271, xv273, xv274, xv275, xv276, xv277, xv278, xv279, xv280, xv281, xv282, xv283, xv284, xv285, xv286, xv287, xv288, xv289, xv290, xv291, xv292, xv293, xv294, xv295, xv296, xv297, xv298, xv299, xv300, xv301, xv302, znar0, znar1, znarI, zfitb, zfitb1, xC_N_mk, xC_tg_mk, xC_hd_mk, xC_wt_mk, xC_fb_mk, xC_R_mk, xC_G_mk, xC_P_mk, xC_Q_mk, xC_E_mk, xC_kr_mk, xC_ct_mk, xC_tt_mk, xC_A_mk, xC_qs_mk, xC_qx_mk, xC_qy_mk, xC_vs_mk, xC_lo_mk, xC_hg_mk, xC_ab_mk, xC_fo_mk, xC_pk_mk, xC_K_mk, xC_kd_mk, xM_n_mk, xM_tg_mk, xM_hd_mk, xM_wt_mk, xM_fb_mk, xM_kn_mk, xM_mn_mk, xM_rk_mk, xM_rs_mk, xM_rh_mk, xM_E_mk, xM_gn_mk, xM_ks_mk, xM_kt_mk, xM_kh_mk, xM_A_mk, xM_qs_mk, xM_qx_mk, xM_qy_mk, xM_rw_mk, xM_wo_mk, xM_ia_mk, xM_fo_mk, xM_pr_mk, xM_h_mk, xS_N_mk, xS_tg_mk, xS_hd_mk, xS_wt_mk, xS_fb_mk, xS_E_mk, xS_gn_mk, xS_ks_mk, xS_kt_mk, xS_kh_mk, xS_A_mk, xS_qs_mk, xS_qx_mk, xS_qy_mk, xC_eta, xM_eta, xS_eta, e1, e2, e3, e4]
  | c + 1, d, rh, l6, e, h1 => by
    have e1 : ¬ nI N < nI d := by rw [zlt (by omega) (by omega)]; omega
    rw [← hn] at e1
    have e2 : nI d + 1 = nI (d + 1) := nI_1 d
    have e3 : zin (nI (8 * (31 * t + p) + d)) 496 = true := zin8 (by omega) (by omega)
    have e4 : (nI (8 * (31 * t + p) + d)).toNatClampNeg = 8 * (31 * t + p) + d := zcl7 (by omega)
    have e5 : zin (nI d) 8 = true := zin8 (by omega) (by omega)
    have e6 : (nI d).toNatClampNeg = d := zcl7 (by omega)
    have k1 := l_n188 hN ht hp (la := la) (sm := sm) hn c (d + 1) (upd rh (8 * (31 * t + p) + d) (M.rw d)) l6 (by omega) (by omega)
    have u : (fun x => if 8 * (31 * t + p) + (d + 1) ≤ x ∧ x ≤ 8 * (31 * t + p) + N then M.rw (x - 8 * (31 * t + p)) else upd rh (8 * (31 * t + p) + d) (M.rw d) x) = fun x => if 8 * (31 * t + p) + d ≤ x ∧ x ≤ 8 * (31 * t + p) + N then M.rw (x - 8 * (31 * t + p)) else rh x := by
      funext x
      unfold upd
      by_cases q : x = 8 * (31 * t + p) + d
      · rw [if_neg (by omega), if_pos q, if_pos (by omega), q, show 8 * (31 * t + p) + d - 8 * (31 * t + p) = d by omega]
      · by_cases q2 : 8 * (31 * t + p) + d ≤ x ∧ x ≤ 8 * (31 * t + p) + N
        · rw [if_pos (by omega), if_pos q2]
        · rw [if_neg (by omega), if_neg q, if_neg q2]
    rw [u] at k1
    rw [← k1, E_X10_note_h188]
    simp [E_X10_note, zfok, zfv, zfs', ziok, ziv, zpok, zis', zlok, zlv', zls', zbok, zrok, zrv', zrs', zaok, zan, zcok, zcs', zis, zgv, zgh, zcat, zw_1, zw_21, zw_at, zclr_int, zclr_ref, zclr_null, zclr_none, zclr_long, zclr_clr, zbv_0, zbv_1, zbv_ite, zbv_ite', Value.category, xr0, xr1, xr2, xr3, xr4, xr5, xr6, xr7, xr8, xr265, xr266, xr267, xr268, xr269, xr270, xr271, xr272, xr273, xr274, xr275, xr276, xr277, xr278, xr279, xr280, xr281, xr282, xr283, xr284, xr285, xr286, xr287, xr288, xr289, xr290, xr291, xr292, xr293, xr294, xr295, xr296, xr297, xr298, xr299, xr300, xr301, xr302, xv2, xv3, xv4, xv6, xv7, xv266, xv268, xv269, xv270, xv271, xv273, xv274, xv275, xv276, xv277, xv278, xv279, xv280, xv281, xv282, xv283, xv284, xv285, xv286, xv287, xv288, xv289, xv290, xv291, xv292, xv293, xv294, xv295, xv296, xv297, xv298, xv299, xv300, xv301, xv302, znar0, znar1, znarI, zfitb, zfitb1, xC_N_mk, xC_tg_mk, xC_hd_mk, xC_wt_mk, xC_fb_mk, xC_R_mk, xC_G_mk, xC_P_mk, xC_Q_mk, xC_E_mk, xC_kr_mk, xC_ct_mk, xC_tt_mk, xC_A_mk, xC_qs_mk, xC_qx_mk, xC_qy_mk, xC_vs_mk, xC_lo_mk, xC_hg_mk, xC_ab_mk, xC_fo_mk, xC_pk_mk, xC_K_mk, xC_kd_mk, xM_n_mk, xM_tg_mk, xM_hd_mk, xM_wt_mk, xM_fb_mk, xM_kn_mk, xM_mn_mk, xM_rk_mk, xM_rs_mk, xM_rh_mk, xM_E_mk, xM_gn_mk, xM_ks_mk, xM_kt_mk, xM_kh_mk, xM_A_mk, xM_qs_mk, xM_qx_mk, xM_qy_mk, xM_rw_mk, xM_wo_mk, xM_ia_mk, xM_fo_mk, xM_pr_mk, xM_h_mk, xS_N_mk, xS_tg_mk, xS_hd_mk, xS_wt_mk, xS_fb_mk, xS_E_mk, xS_gn_mk, xS_ks_mk, xS_kt_mk, xS_kh_mk, xS_A_mk, xS_qs_mk, xS_qx_mk, xS_qy_mk, xC_eta, xM_eta, xS_eta, e1, e2, z31, z8, e3, e4, e5, e6]
/-- what noting makes of the rows of sort t -/
def znS (t p la : Nat) (sm : Int32) (rs : Nat → Int32) : Nat → Int32 := upd (zsR t p la rs) (31 * t + p) sm
def znH (t p la N : Nat) (rw rh : Nat → Int32) : Nat → Int32 := fun x => if 8 * (31 * t + p) + 1 ≤ x ∧ x ≤ 8 * (31 * t + p) + N then rw (x - 8 * (31 * t + p)) else zsH t p la N rh x
theorem s_mnote (hN : N ≤ 7) {t m : Nat} (ht : t < 2) {sm : Int32} (hn : M.n = nI N) (hm : M.rk t = nI m) (hm31 : m ≤ 31) {p la : Nat} (hp : p = zpo (fun i => M.rs (31 * t + i)) sm m) (hla : la = if m < 31 then m else 30) : zC 33 [.ref 283, .int (nI t), .int sm] (xW L xs s C M) = some (none, xW L xs s C (if p = 31 then (xM.mk M.n M.tg M.hd M.wt M.fb M.kn (vp_updL M.mn t (M.mn t + 1)) M.rk M.rs M.rh M.E M.gn M.ks M.kt M.kh M.A M.qs M.qx M.qy M.rw M.wo M.ia M.fo M.pr M.h) else (xM.mk M.n M.tg M.hd M.wt M.fb M.kn (vp_updL M.mn t (M.mn t + 1)) (upd M.rk t (nI (la + 1))) (znS t p la sm M.rs) (znH t p la N M.rw M.rh) M.E M.gn M.ks M.kt M.kh M.A M.qs M.qx M.qy M.rw M.wo M.ia M.fo M.pr M.h))) := by
  have t1 : zin (nI t) 2 = true := zin8 (by omega) (by omega)
  have t2 : (nI t).toNatClampNeg = t := zcl7 (by omega)
  have pm : p ≤ m := by rw [hp]; exact zpo_le _ _ _
  have k1 := l_n17 (L := L) (xs := xs) (s := s) (C := C) (M := (xM.mk M.n M.tg M.hd M.wt M.fb M.kn (vp_updL M.mn t (M.mn t + 1)) M.rk M.rs M.rh M.E M.gn M.ks M.kt M.kh M.A M.qs M.qx M.qy M.rw M.wo M.ia M.fo M.pr M.h)) ht (sm := sm) m hm31
  simp only [xC_N_mk, xC_tg_mk, xC_hd_mk, xC_wt_mk, xC_fb_mk, xC_R_mk, xC_G_mk, xC_P_mk, xC_Q_mk, xC_E_mk, xC_kr_mk, xC_ct_mk, xC_tt_mk, xC_A_mk, xC_qs_mk, xC_qx_mk, xC_qy_mk, xC_vs_mk, xC_lo_mk, xC_hg_mk, xC_ab_mk, xC_fo_mk, xC_pk_mk, xC_K_mk, xC_kd_mk, xM_n_mk, xM_tg_mk, xM_hd_mk, xM_wt_mk, xM_fb_mk, xM_kn_mk, xM_mn_mk, xM_rk_mk, xM_rs_mk, xM_rh_mk, xM_E_mk, xM_gn_mk, xM_ks_mk, xM_kt_mk, xM_kh_mk, xM_A_mk, xM_qs_mk, xM_qx_mk, xM_qy_mk, xM_rw_mk, xM_wo_mk, xM_ia_mk, xM_fo_mk, xM_pr_mk, xM_h_mk, xS_N_mk, xS_tg_mk, xS_hd_mk, xS_wt_mk, xS_fb_mk, xS_E_mk, xS_gn_mk, xS_ks_mk, xS_kt_mk, xS_kh_mk, xS_A_mk, xS_qs_mk, xS_qx_mk, xS_qy_mk, xC_eta, xM_eta, xS_eta] at k1
  rw [← hp] at k1
  have ex : nI p ≤ 0 ∨ (¬ nI p ≤ 0 ∧ ¬ M.rs (31 * t + p - 1) < sm) := by
    rcases zpo_end (fun i => M.rs (31 * t + i)) sm m with w | w
    · left; rw [hp, w]; decide
    · rw [← hp] at w
      by_cases z : p = 0
      · left; rw [z]; decide
      · right
        refine ⟨fun y => absurd ((zle (b := 0) (by omega) (by omega)).mp y) (by omega), ?_⟩
        rw [show 31 * t + p - 1 = 31 * t + (p - 1) by omega]
        exact w
  have st : zC 33 [.ref 283, .int (nI t), .int sm] (xW L xs s C M) = zD 33 17 [some (.ref 283), some (.int (nI t)), some (.int sm), some (.int (nI m)), none, none, none] [] (xW L xs s C (xM.mk M.n M.tg M.hd M.wt M.fb M.kn (vp_updL M.mn t (M.mn t + 1)) M.rk M.rs M.rh M.E M.gn M.ks M.kt M.kh M.A M.qs M.qx M.qy M.rw M.wo M.ia M.fo M.pr M.h)) := by
    simp [I_X10_note, E_X10_note, zfok, zfv, zfs', ziok, ziv, zpok, zis', zlok, zlv', zls', zbok, zrok, zrv', zrs', zaok, zan, zcok, zcs', zis, zgv, zgh, zcat, zw_1, zw_21, zw_at, zclr_int, zclr_ref, zclr_null, zclr_none, zclr_long, zclr_clr, zbv_0, zbv_1, zbv_ite, zbv_ite', Value.category, xr0, xr1, xr2, xr3, xr4, xr5, xr6, xr7, xr8, xr265, xr266, xr267, xr268, xr269, xr270, xr271, xr272, xr273, xr274, xr275, xr276, xr277, xr278, xr279, xr280, xr281, xr282, xr283, xr284, xr285, xr286, xr287, xr288, xr289, xr290, xr291, xr292, xr293, xr294, xr295, xr296, xr297, xr298, xr299, xr300, xr301, xr302, xv2, xv3, xv4, xv6, xv7, xv266, xv268, xv269, xv270, xv271, xv273, xv274, xv275, xv276, xv277, xv278, xv279, xv280, xv281, xv282, xv283, xv284, xv285, xv286, xv287, xv288, xv289, xv290, xv291, xv292, xv293, xv294, xv295, xv296, xv297, xv298, xv299, xv300, xv301, xv302, znar0, znar1, znarI, zfitb, zfitb1, xC_N_mk, xC_tg_mk, xC_hd_mk, xC_wt_mk, xC_fb_mk, xC_R_mk, xC_G_mk, xC_P_mk, xC_Q_mk, xC_E_mk, xC_kr_mk, xC_ct_mk, xC_tt_mk, xC_A_mk, xC_qs_mk, xC_qx_mk, xC_qy_mk, xC_vs_mk, xC_lo_mk, xC_hg_mk, xC_ab_mk, xC_fo_mk, xC_pk_mk, xC_K_mk, xC_kd_mk, xM_n_mk, xM_tg_mk, xM_hd_mk, xM_wt_mk, xM_fb_mk, xM_kn_mk, xM_mn_mk, xM_rk_mk, xM_rs_mk, xM_rh_mk, xM_E_mk, xM_gn_mk, xM_ks_mk, xM_kt_mk, xM_kh_mk, xM_A_mk, xM_qs_mk, xM_qx_mk, xM_qy_mk, xM_rw_mk, xM_wo_mk, xM_ia_mk, xM_fo_mk, xM_pr_mk, xM_h_mk, xS_N_mk, xS_tg_mk, xS_hd_mk, xS_wt_mk, xS_fb_mk, xS_E_mk, xS_gn_mk, xS_ks_mk, xS_kt_mk, xS_kh_mk, xS_A_mk, xS_qs_mk, xS_qx_mk, xS_qy_mk, xC_eta, xM_eta, xS_eta, t1, t2, hm]
  rw [st, k1, E_X10_note_h17]
  have e31 : (nI p = 31) ↔ p = 31 := zeq (b := 31) (by omega) (by omega)
  have x1 : ¬ nI p ≤ 0 → nI (31 * t + p) - 1 = nI (31 * t + p - 1) := fun y => by
    have : p ≠ 0 := fun z => y (by rw [z]; decide)
    obtain ⟨k', hk'⟩ : ∃ k', 31 * t + p = k' + 1 := ⟨31 * t + p - 1, by omega⟩
    rw [hk', Nat.add_sub_cancel, nI_pred]
  have x2 : zin (nI (31 * t + p - 1)) 62 = true := zin8 (by omega) (by omega)
  have x3 : (nI (31 * t + p - 1)).toNatClampNeg = 31 * t + p - 1 := zcl7 (by omega)
  by_cases q : p = 31
  · rw [if_pos q]
    rcases ex with y | ⟨y, w⟩
    · exact absurd ((zle (b := 0) (by omega) (by omega)).mp y) (by omega)
    · have w' : sm ≤ M.rs (31 * t + p - 1) := Int32.not_lt.mp w
      have f : nI p = 31 := e31.mpr q
      simp [E_X10_note, zfok, zfv, zfs', ziok, ziv, zpok, zis', zlok, zlv', zls', zbok, zrok, zrv', zrs', zaok, zan, zcok, zcs', zis, zgv, zgh, zcat, zw_1, zw_21, zw_at, zclr_int, zclr_ref, zclr_null, zclr_none, zclr_long, zclr_clr, zbv_0, zbv_1, zbv_ite, zbv_ite', Value.category, xr0, xr1, xr2, xr3, xr4, xr5, xr6, xr7, xr8, xr265, xr266, xr267, xr268, xr269, xr270, xr271, xr272, xr273, xr274, xr275, xr276, xr277, xr278, xr279, xr280, xr281, xr282, xr283, xr284, xr285, xr286, xr287, xr288, xr289, xr290, xr291, xr292, xr293, xr294, xr295, xr296, xr297, xr298, xr299, xr300, xr301, xr302, xv2, xv3, xv4, xv6, xv7, xv266, xv268, xv269, xv270, xv271, xv273, xv274, xv275, xv276, xv277, xv278, xv279, xv280, xv281, xv282, xv283, xv284, xv285, xv286, xv287, xv288, xv289, xv290, xv291, xv292, xv293, xv294, xv295, xv296, xv297, xv298, xv299, xv300, xv301, xv302, znar0, znar1, znarI, zfitb, zfitb1, xC_N_mk, xC_tg_mk, xC_hd_mk, xC_wt_mk, xC_fb_mk, xC_R_mk, xC_G_mk, xC_P_mk, xC_Q_mk, xC_E_mk, xC_kr_mk, xC_ct_mk, xC_tt_mk, xC_A_mk, xC_qs_mk, xC_qx_mk, xC_qy_mk, xC_vs_mk, xC_lo_mk, xC_hg_mk, xC_ab_mk, xC_fo_mk, xC_pk_mk, xC_K_mk, xC_kd_mk, xM_n_mk, xM_tg_mk, xM_hd_mk, xM_wt_mk, xM_fb_mk, xM_kn_mk, xM_mn_mk, xM_rk_mk, xM_rs_mk, xM_rh_mk, xM_E_mk, xM_gn_mk, xM_ks_mk, xM_kt_mk, xM_kh_mk, xM_A_mk, xM_qs_mk, xM_qx_mk, xM_qy_mk, xM_rw_mk, xM_wo_mk, xM_ia_mk, xM_fo_mk, xM_pr_mk, xM_h_mk, xS_N_mk, xS_tg_mk, xS_hd_mk, xS_wt_mk, xS_fb_mk, xS_E_mk, xS_gn_mk, xS_ks_mk, xS_kt_mk, xS_kh_mk, xS_A_mk, xS_qs_mk, xS_qx_mk, xS_qy_mk, xC_eta, xM_eta, xS_eta, y, z31, x1 y, x2, x3, w']
      exact fun z => absurd f z
  · rw [if_neg q]
    have lp : p ≤ la := by rw [hla]; split <;> omega
    have l31 : la < 31 := by rw [hla]; split <;> omega
    have f1 : ¬ nI p = 31 := fun z => q (e31.mp z)
    obtain ⟨l6', k2⟩ := l_n79 (L := L) (xs := xs) (s := s) (C := C) (M := (xM.mk M.n M.tg M.hd M.wt M.fb M.kn (vp_updL M.mn t (M.mn t + 1)) M.rk M.rs M.rh M.E M.gn M.ks M.kt M.kh M.A M.qs M.qx M.qy M.rw M.wo M.ia M.fo M.pr M.h)) hN ht (p := p) (la := la) (sm := sm) hn (la - p) M.rs M.rh none (by omega)
    rw [show la - p + p = la by omega] at k2
    have k3 := l_n188 (L := L) (xs := xs) (s := s) (C := C) (M := (xM.mk M.n M.tg M.hd M.wt M.fb M.kn (vp_updL M.mn t (M.mn t + 1)) M.rk (znS t p la sm M.rs) M.rh M.E M.gn M.ks M.kt M.kh M.A M.qs M.qx M.qy M.rw M.wo M.ia M.fo M.pr M.h)) hN ht (p := p) (la := la) (by omega) (sm := sm) hn N 1 (zsH t p la N M.rh) l6' (by omega) (by omega)
    simp only [xC_N_mk, xC_tg_mk, xC_hd_mk, xC_wt_mk, xC_fb_mk, xC_R_mk, xC_G_mk, xC_P_mk, xC_Q_mk, xC_E_mk, xC_kr_mk, xC_ct_mk, xC_tt_mk, xC_A_mk, xC_qs_mk, xC_qx_mk, xC_qy_mk, xC_vs_mk, xC_lo_mk, xC_hg_mk, xC_ab_mk, xC_fo_mk, xC_pk_mk, xC_K_mk, xC_kd_mk, xM_n_mk, xM_tg_mk, xM_hd_mk, xM_wt_mk, xM_fb_mk, xM_kn_mk, xM_mn_mk, xM_rk_mk, xM_rs_mk, xM_rh_mk, xM_E_mk, xM_gn_mk, xM_ks_mk, xM_kt_mk, xM_kh_mk, xM_A_mk, xM_qs_mk, xM_qx_mk, xM_qy_mk, xM_rw_mk, xM_wo_mk, xM_ia_mk, xM_fo_mk, xM_pr_mk, xM_h_mk, xS_N_mk, xS_tg_mk, xS_hd_mk, xS_wt_mk, xS_fb_mk, xS_E_mk, xS_gn_mk, xS_ks_mk, xS_kt_mk, xS_kh_mk, xS_A_mk, xS_qs_mk, xS_qx_mk, xS_qy_mk, xC_eta, xM_eta, xS_eta] at k2 k3
    rw [show nI 1 = 1 from rfl] at k3
    have g1 : zin (nI (31 * t + p)) 62 = true := zin8 (by omega) (by omega)
    have g2 : (nI (31 * t + p)).toNatClampNeg = 31 * t + p := zcl7 (by omega)
    have mid : zD 33 79 [some (.ref 283), some (.int (nI t)), some (.int sm), some (.int (nI p)), some (.int (nI la)), some (.int (nI p)), l6'] [] (xW L xs s C (xM.mk M.n M.tg M.hd M.wt M.fb M.kn (vp_updL M.mn t (M.mn t + 1)) M.rk (zsR t p la M.rs) (zsH t p la N M.rh) M.E M.gn M.ks M.kt M.kh M.A M.qs M.qx M.qy M.rw M.wo M.ia M.fo M.pr M.h)) = zD 33 188 [some (.ref 283), some (.int (nI t)), some (.int sm), some (.int (nI p)), some (.int (nI la)), some (.int 1), l6'] [] (xW L xs s C (xM.mk M.n M.tg M.hd M.wt M.fb M.kn (vp_updL M.mn t (M.mn t + 1)) M.rk (znS t p la sm M.rs) (zsH t p la N M.rh) M.E M.gn M.ks M.kt M.kh M.A M.qs M.qx M.qy M.rw M.wo M.ia M.fo M.pr M.h)) := by
      rw [E_X10_note_h79]
      unfold znS
      simp [E_X10_note, zfok, zfv, zfs', ziok, ziv, zpok, zis', zlok, zlv', zls', zbok, zrok, zrv', zrs', zaok, zan, zcok, zcs', zis, zgv, zgh, zcat, zw_1, zw_21, zw_at, zclr_int, zclr_ref, zclr_null, zclr_none, zclr_long, zclr_clr, zbv_0, zbv_1, zbv_ite, zbv_ite', Value.category, xr0, xr1, xr2, xr3, xr4, xr5, xr6, xr7, xr8, xr265, xr266, xr267, xr268, xr269, xr270, xr271, xr272, xr273, xr274, xr275, xr276, xr277, xr278, xr279, xr280, xr281, xr282, xr283, xr284, xr285, xr286, xr287, xr288, xr289, xr290, xr291, xr292, xr293, xr294, xr295, xr296, xr297, xr298, xr299, xr300, xr301, xr302, xv2, xv3, xv4, xv6, xv7, xv266, xv268, xv269, xv270, xv271, xv273, xv274, xv275, xv276, xv277, xv278, xv279, xv280, xv281, xv282, xv283, xv284, xv285, xv286, xv287, xv288, xv289, xv290, xv291, xv292, xv293, xv294, xv295, xv296, xv297, xv298, xv299, xv300, xv301, xv302, znar0, znar1, znarI, zfitb, zfitb1, xC_N_mk, xC_tg_mk, xC_hd_mk, xC_wt_mk, xC_fb_mk, xC_R_mk, xC_G_mk, xC_P_mk, xC_Q_mk, xC_E_mk, xC_kr_mk, xC_ct_mk, xC_tt_mk, xC_A_mk, xC_qs_mk, xC_qx_mk, xC_qy_mk, xC_vs_mk, xC_lo_mk, xC_hg_mk, xC_ab_mk, xC_fo_mk, xC_pk_mk, xC_K_mk, xC_kd_mk, xM_n_mk, xM_tg_mk, xM_hd_mk, xM_wt_mk, xM_fb_mk, xM_kn_mk, xM_mn_mk, xM_rk_mk, xM_rs_mk, xM_rh_mk, xM_E_mk, xM_gn_mk, xM_ks_mk, xM_kt_mk, xM_kh_mk, xM_A_mk, xM_qs_mk, xM_qx_mk, xM_qy_mk, xM_rw_mk, xM_wo_mk, xM_ia_mk, xM_fo_mk, xM_pr_mk, xM_h_mk, xS_N_mk, xS_tg_mk, xS_hd_mk, xS_wt_mk, xS_fb_mk, xS_E_mk, xS_gn_mk, xS_ks_mk, xS_kt_mk, xS_kh_mk, xS_A_mk, xS_qs_mk, xS_qx_mk, xS_qy_mk, xC_eta, xM_eta, xS_eta, z31, g1, g2]
    refine Eq.trans ?_ (k2.trans (mid.trans k3))
    have cnt : ∀ (x : Int32), zD 33 44 [some (.ref 283), some (.int (nI t)), some (.int sm), some (.int (nI p)), none, none, none] [] (xW L xs s C (xM.mk M.n M.tg M.hd M.wt M.fb M.kn (vp_updL M.mn t (M.mn t + 1)) M.rk M.rs M.rh M.E M.gn M.ks M.kt M.kh M.A M.qs M.qx M.qy M.rw M.wo M.ia M.fo M.pr M.h)) = zD 33 79 [some (.ref 283), some (.int (nI t)), some (.int sm), some (.int (nI p)), some (.int (nI la)), some (.int (nI la)), none] [] (xW L xs s C (xM.mk M.n M.tg M.hd M.wt M.fb M.kn (vp_updL M.mn t (M.mn t + 1)) M.rk M.rs M.rh M.E M.gn M.ks M.kt M.kh M.A M.qs M.qx M.qy M.rw M.wo M.ia M.fo M.pr M.h)) := by
      intro x
      by_cases w : m < 31
      · have w' : ¬ (31 : Int32) ≤ nI m := fun z => absurd ((zle (a := 31) (by omega) (by omega)).mp z) (by omega)
        rw [if_pos w] at hla
        subst hla
        simp [E_X10_note, zfok, zfv, zfs', ziok, ziv, zpok, zis', zlok, zlv', zls', zbok, zrok, zrv', zrs', zaok, zan, zcok, zcs', zis, zgv, zgh, zcat, zw_1, zw_21, zw_at, zclr_int, zclr_ref, zclr_null, zclr_none, zclr_long, zclr_clr, zbv_0, zbv_1, zbv_ite, zbv_ite', Value.category, xr0, xr1, xr2, xr3, xr4, xr5, xr6, xr7, xr8, xr265, xr266, xr267, xr268, xr269, xr270, xr271, xr272, xr273, xr274, xr275, xr276, xr277, xr278, xr279, xr280, xr281, xr282, xr283, xr284, xr285, xr286, xr287, xr288, xr289, xr290, xr291, xr292, xr293, xr294, xr295, xr296, xr297, xr298, xr299, xr300, xr301, xr302, xv2, xv3, xv4, xv6, xv7, xv266, xv268, xv269, xv270, xv271, xv273, xv274, xv275, xv276, xv277, xv278, xv279, xv280, xv281, xv282, xv283, xv284, xv285, xv286, xv287, xv288, xv289, xv290, xv291, xv292, xv293, xv294, xv295, xv296, xv297, xv298, xv299, xv300, xv301, xv302, znar0, znar1, znarI, zfitb, zfitb1, xC_N_mk, xC_tg_mk, xC_hd_mk, xC_wt_mk, xC_fb_mk, xC_R_mk, xC_G_mk, xC_P_mk, xC_Q_mk, xC_E_mk, xC_kr_mk, xC_ct_mk, xC_tt_mk, xC_A_mk, xC_qs_mk, xC_qx_mk, xC_qy_mk, xC_vs_mk, xC_lo_mk, xC_hg_mk, xC_ab_mk, xC_fo_mk, xC_pk_mk, xC_K_mk, xC_kd_mk, xM_n_mk, xM_tg_mk, xM_hd_mk, xM_wt_mk, xM_fb_mk, xM_kn_mk, xM_mn_mk, xM_rk_mk, xM_rs_mk, xM_rh_mk, xM_E_mk, xM_gn_mk, xM_ks_mk, xM_kt_mk, xM_kh_mk, xM_A_mk, xM_qs_mk, xM_qx_mk, xM_qy_mk, xM_rw_mk, xM_wo_mk, xM_ia_mk, xM_fo_mk, xM_pr_mk, xM_h_mk, xS_N_mk, xS_tg_mk, xS_hd_mk, xS_wt_mk, xS_fb_mk, xS_E_mk, xS_gn_mk, xS_ks_mk, xS_kt_mk, xS_kh_mk, xS_A_mk, xS_qs_mk, xS_qx_mk, xS_qy_mk, xC_eta, xM_eta, xS_eta, f1, t1, t2, hm, w']
      · have w' : (31 : Int32) ≤ nI m := (zle (a := 31) (by omega) (by omega)).mpr (by omega)
        rw [if_neg w] at hla
        subst hla
        simp [E_X10_note, zfok, zfv, zfs', ziok, ziv, zpok, zis', zlok, zlv', zls', zbok, zrok, zrv', zrs', zaok, zan, zcok, zcs', zis, zgv, zgh, zcat, zw_1, zw_21, zw_at, zclr_int, zclr_ref, zclr_null, zclr_none, zclr_long, zclr_clr, zbv_0, zbv_1, zbv_ite, zbv_ite', Value.category, xr0, xr1, xr2, xr3, xr4, xr5, xr6, xr7, xr8, xr265, xr266, xr267, xr268, xr269, xr270, xr271, xr272, xr273, xr274, xr275, xr276, xr277, xr278, xr279, xr280, xr281, xr282, xr283, xr284, xr285, xr286, xr287, xr288, xr289, xr290, xr291, xr292, xr293, xr294, xr295, xr296, xr297, xr298, xr299, xr300, xr301, xr302, xv2, xv3, xv4, xv6, xv7, xv266, xv268, xv269, xv270, xv271, xv273, xv274, xv275, xv276, xv277, xv278, xv279, xv280, xv281, xv282, xv283, xv284, xv285, xv286, xv287, xv288, xv289, xv290, xv291, xv292, xv293, xv294, xv295, xv296, xv297, xv298, xv299, xv300, xv301, xv302, znar0, znar1, znarI, zfitb, zfitb1, xC_N_mk, xC_tg_mk, xC_hd_mk, xC_wt_mk, xC_fb_mk, xC_R_mk, xC_G_mk, xC_P_mk, xC_Q_mk, xC_E_mk, xC_kr_mk, xC_ct_mk, xC_tt_mk, xC_A_mk, xC_qs_mk, xC_qx_mk, xC_qy_mk, xC_vs_mk, xC_lo_mk, xC_hg_mk, xC_ab_mk, xC_fo_mk, xC_pk_mk, xC_K_mk, xC_kd_mk, xM_n_mk, xM_tg_mk, xM_hd_mk, xM_wt_mk, xM_fb_mk, xM_kn_mk, xM_mn_mk, xM_rk_mk, xM_rs_mk, xM_rh_mk, xM_E_mk, xM_gn_mk, xM_ks_mk, xM_kt_mk, xM_kh_mk, xM_A_mk, xM_qs_mk, xM_qx_mk, xM_qy_mk, xM_rw_mk, xM_wo_mk, xM_ia_mk, xM_fo_mk, xM_pr_mk, xM_h_mk, xS_N_mk, xS_tg_mk, xS_hd_mk, xS_wt_mk, xS_fb_mk, xS_E_mk, xS_gn_mk, xS_ks_mk, xS_kt_mk, xS_kh_mk, xS_A_mk, xS_qs_mk, xS_qx_mk, xS_qy_mk, xC_eta, xM_eta, xS_eta, f1, t1, t2, hm, w', show nI 30 = 30 from rfl]
    refine Eq.trans ?_ (cnt 0)
    rcases ex with y | ⟨y, w⟩
    · simp only [E_X10_note, y, if_true]
    · have w' : sm ≤ M.rs (31 * t + p - 1) := Int32.not_lt.mp w
      simp [E_X10_note, zfok, zfv, zfs', ziok, ziv, zpok, zis', zlok, zlv', zls', zbok, zrok, zrv', zrs', zaok, zan, zcok, zcs', zis, zgv, zgh, zcat, zw_1, zw_21, zw_at, zclr_int, zclr_ref, zclr_null, zclr_none, zclr_long, zclr_clr, zbv_0, zbv_1, zbv_ite, zbv_ite', Value.category, xr0, xr1, xr2, xr3, xr4, xr5, xr6, xr7, xr8, xr265, xr266, xr267, xr268, xr269, xr270, xr271, xr272, xr273, xr274, xr275, xr276, xr277, xr278, xr279, xr280, xr281, xr282, xr283, xr284, xr285, xr286, xr287, xr288, xr289, xr290, xr291, xr292, xr293, xr294, xr295, xr296, xr297, xr298, xr299, xr300, xr301, xr302, xv2, xv3, xv4, xv6, xv7, xv266, xv268, xv269, xv270, xv271, xv273, xv274, xv275, xv276, xv277, xv278, xv279, xv280, xv281, xv282, xv283, xv284, xv285, xv286, xv287, xv288, xv289, xv290, xv291, xv292, xv293, xv294, xv295, xv296, xv297, xv298, xv299, xv300, xv301, xv302, znar0, znar1, znarI, zfitb, zfitb1, xC_N_mk, xC_tg_mk, xC_hd_mk, xC_wt_mk, xC_fb_mk, xC_R_mk, xC_G_mk, xC_P_mk, xC_Q_mk, xC_E_mk, xC_kr_mk, xC_ct_mk, xC_tt_mk, xC_A_mk, xC_qs_mk, xC_qx_mk, xC_qy_mk, xC_vs_mk, xC_lo_mk, xC_hg_mk, xC_ab_mk, xC_fo_mk, xC_pk_mk, xC_K_mk, xC_kd_mk, xM_n_mk, xM_tg_mk, xM_hd_mk, xM_wt_mk, xM_fb_mk, xM_kn_mk, xM_mn_mk, xM_rk_mk, xM_rs_mk, xM_rh_mk, xM_E_mk, xM_gn_mk, xM_ks_mk, xM_kt_mk, xM_kh_mk, xM_A_mk, xM_qs_mk, xM_qx_mk, xM_qy_mk, xM_rw_mk, xM_wo_mk, xM_ia_mk, xM_fo_mk, xM_pr_mk, xM_h_mk, xS_N_mk, xS_tg_mk, xS_hd_mk, xS_wt_mk, xS_fb_mk, xS_E_mk, xS_gn_mk, xS_ks_mk, xS_kt_mk, xS_kh_mk, xS_A_mk, xS_qs_mk, xS_qx_mk, xS_qy_mk, xC_eta, xM_eta, xS_eta, y, z31, x1 y, x2, x3, w']
end NOTE
