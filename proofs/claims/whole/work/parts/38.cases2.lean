/-! calls that tell of the tree at hand -/
theorem zsm_add {f g : Nat → Int} : ∀ {c d : Nat}, zsm (fun x => f x + g x) c d = zsm f c d + zsm g c d
  | 0, d => by simp [zsm]
  | c + 1, d => by
    simp only [zsm, zsm_add (c := c)]
    omega
theorem zsm_mul {f : Nat → Int} {k : Int} : ∀ {c d : Nat}, zsm (fun x => f x * k) c d = zsm f c d * k
  | 0, d => by simp [zsm]
  | c + 1, d => by
    simp only [zsm, zsm_mul (c := c), Int.add_mul]
theorem zsm_neg {f : Nat → Int} : ∀ {c d : Nat}, zsm (fun x => - f x) c d = - zsm f c d
  | 0, d => by simp [zsm]
  | c + 1, d => by
    simp only [zsm, zsm_neg (c := c)]
    omega
/-- the heads as digits -/
def zdig (hd : Nat → Nat) (c d : Nat) : Int := zsm (fun x => (hd x : Int) * 2 ^ (3 * (7 - x))) c d
def zwsm (wt : Nat → Int32) (hd : Nat → Nat) (c d : Nat) : Int := zsm (fun x => (wt (8 * x + hd x)).toInt) c d
theorem zkey_eq (wt : Nat → Int32) (hd : Nat → Nat) (c d : Nat) : zsm (fun x => zka (wt (8 * x + hd x)).toInt (hd x) x) c d = zwsm wt hd c d * 2097152 - zdig hd c d := by
  unfold zwsm zdig zka
  rw [show (fun x => (wt (8 * x + hd x)).toInt * 2097152 - (hd x : Int) * 2 ^ (3 * (7 - x))) = fun x => (wt (8 * x + hd x)).toInt * 2097152 + -((hd x : Int) * 2 ^ (3 * (7 - x))) from funext fun x => Int.sub_eq_add_neg, zsm_add, zsm_mul, zsm_neg]
  omega
theorem zdig_b {hd : Nat → Nat} (hh : ∀ d, hd d ≤ 7) : ∀ (c d : Nat), 1 ≤ d → c + d ≤ 8 → 0 ≤ zdig hd c d ∧ zdig hd c d + 2 ^ (3 * (8 - (c + d))) ≤ 2 ^ (3 * (8 - d))
  | 0, d, h1, h8 => by
    unfold zdig zsm
    simp
  | c + 1, d, h1, h8 => by
    have ih := zdig_b hh c (d + 1) (by omega) (by omega)
    have hx := hh d
    unfold zdig zsm
    have e1 : (2 : Int) ^ (3 * (8 - d)) = 8 * 2 ^ (3 * (7 - d)) := by
      rw [show 3 * (8 - d) = 3 * (7 - d) + 3 by omega, Int.pow_add]
      omega
    have e2 : 3 * (8 - (d + 1)) = 3 * (7 - d) := by omega
    have e3 : 3 * (8 - (c + 1 + d)) = 3 * (8 - (c + (d + 1))) := by omega
    rw [e1, e3]
    rw [e2] at ih
    have e4 : (0 : Int) < 2 ^ (3 * (7 - d)) := Int.pow_pos (by omega)
    have e5 : 0 ≤ (hd d : Int) * 2 ^ (3 * (7 - d)) := Int.mul_nonneg (by omega) (by omega)
    have e6 : (hd d : Int) * 2 ^ (3 * (7 - d)) ≤ 7 * 2 ^ (3 * (7 - d)) := Int.mul_le_mul_of_nonneg_right (by omega) (by omega)
    show 0 ≤ _ + zdig hd c (d + 1) ∧ _ + zdig hd c (d + 1) + _ ≤ _
    omega
theorem zdig_b1 {hd : Nat → Nat} (hh : ∀ d, hd d ≤ 7) {N : Nat} (hN : N ≤ 7) : 0 ≤ zdig hd N 1 ∧ zdig hd N 1 < 2097152 := by
  have h := zdig_b hh N 1 (by omega) (by omega)
  have e4 : (0 : Int) < 2 ^ (3 * (8 - (N + 1))) := Int.pow_pos (by omega)
  have : (2 : Int) ^ (3 * (8 - 1)) = 2097152 := by decide
  omega
theorem zsm_bd {f : Nat → Int} {b : Int} (hb : 0 ≤ b) (hf : ∀ x, -b ≤ f x ∧ f x ≤ b) : ∀ {c d : Nat}, -(b * c) ≤ zsm f c d ∧ zsm f c d ≤ b * c
  | 0, d => by simp [zsm]
  | c + 1, d => by
    have ih := zsm_bd hb hf (c := c) (d := d + 1)
    have h := hf d
    unfold zsm
    have e : b * ((c + 1 : Nat) : Int) = b * c + b := by
      rw [show ((c + 1 : Nat) : Int) = (c : Int) + 1 by omega, Int.mul_add, Int.mul_one]
    rw [e]
    omega
section CASES2
variable {L s : Nat} {xs : Nat → Int32} {C : xC} {M : xM} {σ : xS} {ca : Nat → (Nat → Int32) → (Nat → Nat) → (Nat → Int64) → (Nat → Int32) → (Nat → Int32) → (Nat → Int32) → Prop}
theorem zwsm_b (ok : xOk σ) {hd : Nat → Nat} {c : Nat} (hc : c ≤ 7) (d : Nat) : -7000000 ≤ zwsm σ.wt hd c d ∧ zwsm σ.wt hd c d ≤ 7000000 := by
  have h := zsm_bd (f := fun x => (σ.wt (8 * x + hd x)).toInt) (b := 1000000) (by omega) (fun x => ok.w1 _) (c := c) (d := d)
  have : (1000000 : Int) * (c : Int) ≤ 7000000 := by omega
  unfold zwsm
  omega
/-- the sum that a key tells -/
theorem zsum_key {S D : Int} (h1 : 0 ≤ D) (h2 : D < 2097152) : -(-(S * 2097152 - D) / 2097152) = S := by omega
theorem l_msum (rm : xRM ca σ M) (ok : xOk σ) : ∀ (c d : Nat) (a : Int32), c + d = σ.N + 1 → 1 ≤ d → zD 31 4 [some (.ref 283), some (.int a), some (.int (nI d))] [] (xW L xs s C M) = some (some (.int (a + Int32.ofInt (zwsm σ.wt σ.hd c d))), xW L xs s C M)
  | 0, d, a, hs, h1 => by
    rw [E_X10_sum_h4]
    have n7 := ok.d.n7
    have e1 : nI σ.N < nI d := by rw [zlt (by omega) (by omega)]; omega
    have e2 : a + Int32.ofInt 0 = a := by rw [show Int32.ofInt 0 = 0 from rfl, Int32.add_zero]
    simp [E_X10_sum, zfok, zfv, zfs', ziok, ziv, zpok, zis', zlok, zlv', zls', zbok, zrok, zrv', zrs', zaok, zan, zcok, zcs', zis, zgv, zgh, zcat, zw_1, zw_21, zw_at, zclr_int, zclr_ref, zclr_null, zclr_none, zclr_long, zclr_clr, zbv_0, zbv_1, zbv_ite, zbv_ite', Value.category, xr0, xr1, xr2, xr3, xr4, xr5, xr6, xr7, xr8, xr265, xr266, xr267, xr268, xr269, xr270, xr271, xr272, xr273, xr274, xr275, xr276, xr277, xr278, xr279, xr280, xr281, xr282, xr283, xr284, xr285, xr286, xr287, xr288, xr289, xr290, xr291, xr292, xr293, xr294, xr295, xr296, xr297, xr298, xr299, xr300, xr301, xr302, xv2, xv3, xv4, xv6, xv7, xv266, xv268, xv269, xv270, xv271, xv273, xv274, xv275, xv276, xv277, xv278, xv279, xv280, xv281, xv282, xv283, xv284, xv285, xv286, xv287, xv288, xv289, xv290, xv291, xv292, xv293, xv294, xv295, xv296, xv297, xv298, xv299, xv300, xv301, xv302, znar0, znar1, znarI, zfitb, zfitb1, xC_N_mk, xC_tg_mk, xC_hd_mk, xC_wt_mk, xC_fb_mk, xC_R_mk, xC_G_mk, xC_P_mk, xC_Q_mk, xC_E_mk, xC_kr_mk, xC_ct_mk, xC_tt_mk, xC_A_mk, xC_qs_mk, xC_qx_mk, xC_qy_mk, xC_vs_mk, xC_lo_mk, xC_hg_mk, xC_ab_mk, xC_fo_mk, xC_pk_mk, xC_K_mk, xC_kd_mk, xM_n_mk, xM_tg_mk, xM_hd_mk, xM_wt_mk, xM_fb_mk, xM_kn_mk, xM_mn_mk, xM_rk_mk, xM_rs_mk, xM_rh_mk, xM_E_mk, xM_gn_mk, xM_ks_mk, xM_kt_mk, xM_kh_mk, xM_A_mk, xM_qs_mk, xM_qx_mk, xM_qy_mk, xM_rw_mk, xM_wo_mk, xM_ia_mk, xM_fo_mk, xM_pr_mk, xM_h_mk, xS_N_mk, xS_tg_mk, xS_hd_mk, xS_wt_mk, xS_fb_mk, xS_E_mk, xS_gn_mk, xS_ks_mk, xS_kt_mk, xS_kh_mk, xS_A_mk, xS_qs_mk, xS_qx_mk, xS_qy_mk, xC_eta, xM_eta, xS_eta, e1, rm.N, zwsm, zsm]
  | c + 1, d, a, hs, h1 => by
    rw [E_X10_sum_h4]
    have n7 := ok.d.n7
    have hn := ok.d.hn d
    have e1 : ¬ nI σ.N < nI d := by rw [zlt (by omega) (by omega)]; omega
    have e2 : zin (nI d) 8 = true := zin8 (by omega) (by omega)
    have e3 : (nI d).toNatClampNeg = d := zcl7 (by omega)
    have e4 : zin (nI (8 * d + σ.hd d)) 64 = true := zin8 (by omega) (by omega)
    have e5 : (nI (8 * d + σ.hd d)).toNatClampNeg = 8 * d + σ.hd d := zcl7 (by omega)
    have e6 : nI d + 1 = nI (d + 1) := nI_1 d
    have k := l_msum rm ok c (d + 1) (a + σ.wt (8 * d + σ.hd d)) (by omega) (by omega)
    have u : a + σ.wt (8 * d + σ.hd d) + Int32.ofInt (zwsm σ.wt σ.hd c (d + 1)) = a + Int32.ofInt (zwsm σ.wt σ.hd (c + 1) d) := by
      show _ = a + Int32.ofInt ((σ.wt (8 * d + σ.hd d)).toInt + zwsm σ.wt σ.hd c (d + 1))
      rw [Int32.ofInt_add, Int32.ofInt_toInt, Int32.add_assoc]
    rw [u] at k
    simp [E_X10_sum, zfok, zfv, zfs', ziok, ziv, zpok, zis', zlok, zlv', zls', zbok, zrok, zrv', zrs', zaok, zan, zcok, zcs', zis, zgv, zgh, zcat, zw_1, zw_21, zw_at, zclr_int, zclr_ref, zclr_null, zclr_none, zclr_long, zclr_clr, zbv_0, zbv_1, zbv_ite, zbv_ite', Value.category, xr0, xr1, xr2, xr3, xr4, xr5, xr6, xr7, xr8, xr265, xr266, xr267, xr268, xr269, xr270, xr271, xr272, xr273, xr274, xr275, xr276, xr277, xr278, xr279, xr280, xr281, xr282, xr283, xr284, xr285, xr286, xr287, xr288, xr289, xr290, xr291, xr292, xr293, xr294, xr295, xr296, xr297, xr298, xr299, xr300, xr301, xr302, xv2, xv3, xv4, xv6, xv7, xv266, xv268, xv269, xv270, xv271, xv273, xv274, xv275, xv276, xv277, xv278, xv279, xv280, xv281, xv282, xv283, xv284, xv285, xv286, xv287, xv288, xv289, xv290, xv291, xv292, xv293, xv294, xv295, xv296, xv297, xv298, xv299, xv300, xv301, xv302, znar0, znar1, znarI, zfitb, zfitb1, xC_N_mk, xC_tg_mk, xC_hd_mk, xC_wt_mk, xC_fb_mk, xC_R_mk, xC_G_mk, xC_P_mk, xC_Q_mk, xC_E_mk, xC_kr_mk, xC_ct_mk, xC_tt_mk, xC_A_mk, xC_qs_mk, xC_qx_mk, xC_qy_mk, xC_vs_mk, xC_lo_mk, xC_hg_mk, xC_ab_mk, xC_fo_mk, xC_pk_mk, xC_K_mk, xC_kd_mk, xM_n_mk, xM_tg_mk, xM_hd_mk, xM_wt_mk, xM_fb_mk, xM_kn_mk, xM_mn_mk, xM_rk_mk, xM_rs_mk, xM_rh_mk, xM_E_mk, xM_gn_mk, xM_ks_mk, xM_kt_mk, xM_kh_mk, xM_A_mk, xM_qs_mk, xM_qx_mk, xM_qy_mk, xM_rw_mk, xM_wo_mk, xM_ia_mk, xM_fo_mk, xM_pr_mk, xM_h_mk, xS_N_mk, xS_tg_mk, xS_hd_mk, xS_wt_mk, xS_fb_mk, xS_E_mk, xS_gn_mk, xS_ks_mk, xS_kt_mk, xS_kh_mk, xS_A_mk, xS_qs_mk, xS_qx_mk, xS_qy_mk, xC_eta, xM_eta, xS_eta, e1, e2, e3, e4, e5, e6, z8, rm.N, rm.hd, rm.wt]
    exact k
theorem c_sum (ok : xOk σ) (rc : xRC σ C) (rm : xRM ca σ M) : xOut ca 154 31 [] [] L xs s C M σ := by
  have n7 := ok.d.n7
  have hh : ∀ d, σ.hd d ≤ 7 := fun d => by have := ok.d.hn d; omega
  have e1 := s_keyOf (h := xW L xs s C M) (o := 5) (w := 6) (b := 7) (wt := σ.wt) (o2 := 2) (t := 3) (q := 4) (hd := σ.hd) (N := σ.N) xr5 (by rw [xr6, rc.wt]) (by rw [xr2, rc.N]) (by rw [xr4, rc.hd]) n7 hh
  rw [zkey_eq] at e1
  have b1 := zwsm_b ok (hd := σ.hd) n7 1
  have b2 := zdig_b1 hh n7
  have e2 := s_sumIn (h := xW L xs s C M) (z := zwsm σ.wt σ.hd σ.N 1 * 2097152 - zdig σ.hd σ.N 1) (by omega) (by omega)
  rw [zsum_key b2.1 b2.2] at e2
  have e3 := l_msum (L := L) (s := s) (xs := xs) (C := C) rm ok σ.N 1 0 (by omega) (by omega)
  rw [Int32.zero_add, show nI 1 = 1 from rfl] at e3
  refine ⟨.int (Int32.ofInt (zwsm σ.wt σ.hd σ.N 1)), σ, s, C, M, ?_, ?_, ok, rc, rm, rfl⟩
  · simp [I_X9_sum, E_X9_sum, zfok, zfv, zfs', ziok, ziv, zpok, zis', zlok, zlv', zls', zbok, zrok, zrv', zrs', zaok, zan, zcok, zcs', zis, zgv, zgh, zcat, zw_1, zw_21, zw_at, zclr_int, zclr_ref, zclr_null, zclr_none, zclr_long, zclr_clr, zbv_0, zbv_1, zbv_ite, zbv_ite', Value.category, xr0, xr1, xr2, xr3, xr4, xr5, xr6, xr7, xr8, xr265, xr266, xr267, xr268, xr269, xr270, xr271, xr272, xr273, xr274, xr275, xr276, xr277, xr278, xr279, xr280, xr281, xr282, xr283, xr284, xr285, xr286, xr287, xr288, xr289, xr290, xr291, xr292, xr293, xr294, xr295, xr296, xr297, xr298, xr299, xr300, xr301, xr302, xv2, xv3, xv4, xv6, xv7, xv266, xv268, xv269, xv270, xv271, xv273, xv274, xv275, xv276, xv277, xv278, xv279, xv280, xv281, xv282, xv283, xv284, xv285, xv286, xv287, xv288, xv289, xv290, xv291, xv292, xv293, xv294, xv295, xv296, xv297, xv298, xv299, xv300, xv301, xv302, znar0, znar1, znarI, zfitb, zfitb1, xC_N_mk, xC_tg_mk, xC_hd_mk, xC_wt_mk, xC_fb_mk, xC_R_mk, xC_G_mk, xC_P_mk, xC_Q_mk, xC_E_mk, xC_kr_mk, xC_ct_mk, xC_tt_mk, xC_A_mk, xC_qs_mk, xC_qx_mk, xC_qy_mk, xC_vs_mk, xC_lo_mk, xC_hg_mk, xC_ab_mk, xC_fo_mk, xC_pk_mk, xC_K_mk, xC_kd_mk, xM_n_mk, xM_tg_mk, xM_hd_mk, xM_wt_mk, xM_fb_mk, xM_kn_mk, xM_mn_mk, xM_rk_mk, xM_rs_mk, xM_rh_mk, xM_E_mk, xM_gn_mk, xM_ks_mk, xM_kt_mk, xM_kh_mk, xM_A_mk, xM_qs_mk, xM_qx_mk, xM_qy_mk, xM_rw_mk, xM_wo_mk, xM_ia_mk, xM_fo_mk, xM_pr_mk, xM_h_mk, xS_N_mk, xS_tg_mk, xS_hd_mk, xS_wt_mk, xS_fb_mk, xS_E_mk, xS_gn_mk, xS_ks_mk, xS_kt_mk, xS_kh_mk, xS_A_mk, xS_qs_mk, xS_qx_mk, xS_qy_mk, xC_eta, xM_eta, xS_eta, e1, e2]
  · simp only [I_X10_sum, E_X10_sum, zclr_none]
    exact e3
theorem x_mtree (ok : xOk σ) (rm : xRM ca σ M) : zC 80 [.ref 283] (xW L xs s C M) = some (some (.int (if zTr σ.hd σ.N = true then 1 else 0)), xW L xs s C (xM.mk M.n M.tg M.hd M.wt M.fb M.kn M.mn M.rk M.rs M.rh M.E M.gn M.ks M.kt M.kh M.A M.qs M.qx M.qy (fun d => nI (σ.hd d)) M.wo M.ia M.fo M.pr M.h)) := by
  have n7 := ok.d.n7
  have h0 : ∀ d, d = 0 ∨ 8 ≤ d → σ.hd d = 0 := fun d h => by
    rcases h with h | h
    · rw [h]; exact ok.d.h0
    · exact ok.d.hz d (by omega)
  have e1 := m_lay0 (L := L) (s := s) (xs := xs) (C := C) (M := M) (f := σ.hd) rm.rw rm.hd h0
  have e2 := m_isTree (L := L) (s := s) (xs := xs) (C := C) (M := (xM.mk M.n M.tg M.hd M.wt M.fb M.kn M.mn M.rk M.rs M.rh M.E M.gn M.ks M.kt M.kh M.A M.qs M.qx M.qy (fun d => nI (σ.hd d)) M.wo M.ia M.fo M.pr M.h)) (N := σ.N) (f := σ.hd) rfl (fun d => by have := ok.d.hn d; omega) ok.d.h0 n7
  rw [zTr_m ok.d.hn ok.d.h0] at e2
  rw [← rm.N] at e2
  simp [I_X10_isTreeAtHand, E_X10_isTreeAtHand, zfok, zfv, zfs', ziok, ziv, zpok, zis', zlok, zlv', zls', zbok, zrok, zrv', zrs', zaok, zan, zcok, zcs', zis, zgv, zgh, zcat, zw_1, zw_21, zw_at, zclr_int, zclr_ref, zclr_null, zclr_none, zclr_long, zclr_clr, zbv_0, zbv_1, zbv_ite, zbv_ite', Value.category, xr0, xr1, xr2, xr3, xr4, xr5, xr6, xr7, xr8, xr265, xr266, xr267, xr268, xr269, xr270, xr271, xr272, xr273, xr274, xr275, xr276, xr277, xr278, xr279, xr280, xr281, xr282, xr283, xr284, xr285, xr286, xr287, xr288, xr289, xr290, xr291, xr292, xr293, xr294, xr295, xr296, xr297, xr298, xr299, xr300, xr301, xr302, xv2, xv3, xv4, xv6, xv7, xv266, xv268, xv269, xv270, xv271, xv273, xv274, xv275, xv276, xv277, xv278, xv279, xv280, xv281, xv282, xv283, xv284, xv285, xv286, xv287, xv288, xv289, xv290, xv291, xv292, xv293, xv294, xv295, xv296, xv297, xv298, xv299, xv300, xv301, xv302, znar0, znar1, znarI, zfitb, zfitb1, xC_N_mk, xC_tg_mk, xC_hd_mk, xC_wt_mk, xC_fb_mk, xC_R_mk, xC_G_mk, xC_P_mk, xC_Q_mk, xC_E_mk, xC_kr_mk, xC_ct_mk, xC_tt_mk, xC_A_mk, xC_qs_mk, xC_qx_mk, xC_qy_mk, xC_vs_mk, xC_lo_mk, xC_hg_mk, xC_ab_mk, xC_fo_mk, xC_pk_mk, xC_K_mk, xC_kd_mk, xM_n_mk, xM_tg_mk, xM_hd_mk, xM_wt_mk, xM_fb_mk, xM_kn_mk, xM_mn_mk, xM_rk_mk, xM_rs_mk, xM_rh_mk, xM_E_mk, xM_gn_mk, xM_ks_mk, xM_kt_mk, xM_kh_mk, xM_A_mk, xM_qs_mk, xM_qx_mk, xM_qy_mk, xM_rw_mk, xM_wo_mk, xM_ia_mk, xM_fo_mk, xM_pr_mk, xM_h_mk, xS_N_mk, xS_tg_mk, xS_hd_mk, xS_wt_mk, xS_fb_mk, xS_E_mk, xS_gn_mk, xS_ks_mk, xS_kt_mk, xS_kh_mk, xS_A_mk, xS_qs_mk, xS_qx_mk, xS_qy_mk, xC_eta, xM_eta, xS_eta, e1, e2]
theorem x_ctree (ok : xOk σ) (rc : xRC σ C) : zC 92 [.ref 2] (xW L xs s C M) = some (some (.int (if zTr σ.hd σ.N = true then 1 else 0)), xW L xs s C M) := by
  have e := s_isTree (h := xW L xs s C M) (o := 2) (t := 3) (q := 4) (N := σ.N) (hd := σ.hd) (by rw [xr2, rc.N]) (by rw [xr4, rc.hd]) ok.d.n7 (fun d => by have := ok.d.hn d; have := ok.d.n7; omega)
  rw [zTr_c ok.d.h0] at e
  exact e
theorem rm_rw (ok : xOk σ) (rm : xRM ca σ M) : xRM ca σ (xM.mk M.n M.tg M.hd M.wt M.fb M.kn M.mn M.rk M.rs M.rh M.E M.gn M.ks M.kt M.kh M.A M.qs M.qx M.qy (fun d => nI (σ.hd d)) M.wo M.ia M.fo M.pr M.h) := by
  refine (xRM.mk rm.N rm.tg rm.hd rm.wt rm.fb rm.kn rm.E rm.k rm.kz rm.A rm.q ?_)
  intro d h
  show nI (σ.hd d) = 0
  have n7 := ok.d.n7
  rcases h with h | h
  · rw [h, ok.d.h0]; rfl
  · rw [ok.d.hz d (by omega)]; rfl
def zisv (T S A : Bool) : Int32 := (if T = true then (if S = true then 2 else 1) else 0) + (if A = true then 4 else 0)
theorem l_mis {T S : Bool} (hn : M.n = nI σ.N) (hh : M.hd = fun d => nI (σ.hd d)) (hf : M.fb = fun k => nI (σ.fb k)) (ok : xOk σ) (hS : T = true → zC 79 [.ref 283, .int (nI σ.N)] (xW L xs s C M) = some (some (.int (if S = true then 1 else 0)), xW L xs s C M)) : ∀ (c d : Nat) (b : Bool), c + d = σ.N + 1 → 1 ≤ d → zD 116 9 [some (.ref 283), some (.int (if T = true then 1 else 0)), some (.int (if b = true then 1 else 0)), some (.int (nI d))] [] (xW L xs s C M) = some (some (.int (zisv T S (b && zall (fun x => decide (σ.fb (8 * x + σ.hd x) = 0)) c d))), xW L xs s C M)
  | 0, d, b, hs, h1 => by
    rw [E_X10_is_h9, show (b && zall (fun x => decide (σ.fb (8 * x + σ.hd x) = 0)) 0 d) = b by simp [zall]]
    have n7 := ok.d.n7
    have e1 : nI σ.N < nI d := by rw [zlt (by omega) (by omega)]; omega
    cases T
    · cases b <;> simp [E_X10_is, zfok, zfv, zfs', ziok, ziv, zpok, zis', zlok, zlv', zls', zbok, zrok, zrv', zrs', zaok, zan, zcok, zcs', zis, zgv, zgh, zcat, zw_1, zw_21, zw_at, zclr_int, zclr_ref, zclr_null, zclr_none, zclr_long, zclr_clr, zbv_0, zbv_1, zbv_ite, zbv_ite', Value.category, xr0, xr1, xr2, xr3, xr4, xr5, xr6, xr7, xr8, xr265, xr266, xr267, xr268, xr269, xr270, xr271, xr272, xr273, xr274, xr275, xr276, xr277, xr278, xr279, xr280, xr281, xr282, xr283, xr284, xr285, xr286, xr287, xr288, xr289, xr290, xr291, xr292, xr293, xr294, xr295, xr296, xr297, xr298, xr299, xr300, xr301, xr302, xv2, xv3, xv4, xv6, xv7, xv266, xv268, xv269, xv270, xv271, xv273, xv274, xv275, xv276, xv277, xv278, xv279, xv280, xv281, xv282, xv283, xv284, xv285, xv286, xv287, xv288, xv289, xv290, xv291, xv292, xv293, xv294, xv295, xv296, xv297, xv298, xv299, xv300, xv301, xv302, znar0, znar1, znarI, zfitb, zfitb1, xC_N_mk, xC_tg_mk, xC_hd_mk, xC_wt_mk, xC_fb_mk, xC_R_mk, xC_G_mk, xC_P_mk, xC_Q_mk, xC_E_mk, xC_kr_mk, xC_ct_mk, xC_tt_mk, xC_A_mk, xC_qs_mk, xC_qx_mk, xC_qy_mk, xC_vs_mk, xC_lo_mk, xC_hg_mk, xC_ab_mk, xC_fo_mk, xC_pk_mk, xC_K_mk, xC_kd_mk, xM_n_mk, xM_tg_mk, xM_hd_mk, xM_wt_mk, xM_fb_mk, xM_kn_mk, xM_mn_mk, xM_rk_mk, xM_rs_mk, xM_rh_mk, xM_E_mk, xM_gn_mk, xM_ks_mk, xM_kt_mk, xM_kh_mk, xM_A_mk, xM_qs_mk, xM_qx_mk, xM_qy_mk, xM_rw_mk, xM_wo_mk, xM_ia_mk, xM_fo_mk, xM_pr_mk, xM_h_mk, xS_N_mk, xS_tg_mk, xS_hd_mk, xS_wt_mk, xS_fb_mk, xS_E_mk, xS_gn_mk, xS_ks_mk, xS_kt_mk, xS_kh_mk, xS_A_mk, xS_qs_mk, xS_qx_mk, xS_qy_mk, xC_eta, xM_eta, xS_eta, hn, e1, zisv]
    · have h := hS rfl
      cases b <;> cases S <;> simp at h <;> simp [E_X10_is, zfok, zfv, zfs', ziok, ziv, zpok, zis', zlok, zlv', zls', zbok, zrok, zrv', zrs', zaok, zan, zcok, zcs', zis, zgv, zgh, zcat, zw_1, zw_21, zw_at, zclr_int, zclr_ref, zclr_null, zclr_none, zclr_long, zclr_clr, zbv_0, zbv_1, zbv_ite, zbv_ite', Value.category, xr0, xr1, xr2, xr3, xr4, xr5, xr6, xr7, xr8, xr265, xr266, xr267, xr268, xr269, xr270, xr271, xr272, xr273, xr274, xr275, xr276, xr277, xr278, xr279, xr280, xr281, xr282, xr283, xr284, xr285, xr286, xr287, xr288, xr289, xr290, xr291, xr292, xr293, xr294, xr295, xr296, xr297, xr298, xr299, xr300, xr301, xr302, xv2, xv3, xv4, xv6, xv7, xv266, xv268, xv269, xv270, xv271, xv273, xv274, xv275, xv276, xv277, xv278, xv279, xv280, xv281, xv282, xv283, xv284, xv285, xv286, xv287, xv288, xv289, xv290, xv291, xv292, xv293, xv294, xv295, xv296, xv297, xv298, xv299, xv300, xv301, xv302, znar0, znar1, znarI, zfitb, zfitb1, xC_N_mk, xC_tg_mk, xC_hd_mk, xC_wt_mk, xC_fb_mk, xC_R_mk, xC_G_mk, xC_P_mk, xC_Q_mk, xC_E_mk, xC_kr_mk, xC_ct_mk, xC_tt_mk, xC_A_mk, xC_qs_mk, xC_qx_mk, xC_qy_mk, xC_vs_mk, xC_lo_mk, xC_hg_mk, xC_ab_mk, xC_fo_mk, xC_pk_mk, xC_K_mk, xC_kd_mk, xM_n_mk, xM_tg_mk, xM_hd_mk, xM_wt_mk, xM_fb_mk, xM_kn_mk, xM_mn_mk, xM_rk_mk, xM_rs_mk, xM_rh_mk, xM_E_mk, xM_gn_mk, xM_ks_mk, xM_kt_mk, xM_kh_mk, xM_A_mk, xM_qs_mk, xM_qx_mk, xM_qy_mk, xM_rw_mk, xM_wo_mk, xM_ia_mk, xM_fo_mk, xM_pr_mk, xM_h_mk, xS_N_mk, xS_tg_mk, xS_hd_mk, xS_wt_mk, xS_fb_mk, xS_E_mk, xS_gn_mk, xS_ks_mk, xS_kt_mk, xS_kh_mk, xS_A_mk, xS_qs_mk, xS_qx_mk, xS_qy_mk, xC_eta, xM_eta, xS_eta, hn, e1, zisv, h] <;> rfl
  | c + 1, d, b, hs, h1 => by
    have n7 := ok.d.n7
    have hn' := ok.d.hn d
    have e1 : ¬ nI σ.N < nI d := by rw [zlt (by omega) (by omega)]; omega
    have e2 : zin (nI d) 8 = true := zin8 (by omega) (by omega)
    have e3 : (nI d).toNatClampNeg = d := zcl7 (by omega)
    have e4 : zin (nI (8 * d + σ.hd d)) 64 = true := zin8 (by omega) (by omega)
    have e5 : (nI (8 * d + σ.hd d)).toNatClampNeg = 8 * d + σ.hd d := zcl7 (by omega)
    have e6 : nI d + 1 = nI (d + 1) := nI_1 d
    have f1 := ok.f1 (8 * d + σ.hd d)
    have e7 : (nI (σ.fb (8 * d + σ.hd d)) = 0) ↔ σ.fb (8 * d + σ.hd d) = 0 := zeq (b := 0) (by omega) (by omega)
    have k := l_mis hn hh hf ok hS c (d + 1) (b && decide (σ.fb (8 * d + σ.hd d) = 0)) (by omega) (by omega)
    rw [E_X10_is_h9, zall, ← Bool.and_assoc]
    cases b
    · simp at k
      simp [E_X10_is, zfok, zfv, zfs', ziok, ziv, zpok, zis', zlok, zlv', zls', zbok, zrok, zrv', zrs', zaok, zan, zcok, zcs', zis, zgv, zgh, zcat, zw_1, zw_21, zw_at, zclr_int, zclr_ref, zclr_null, zclr_none, zclr_long, zclr_clr, zbv_0, zbv_1, zbv_ite, zbv_ite', Value.category, xr0, xr1, xr2, xr3, xr4, xr5, xr6, xr7, xr8, xr265, xr266, xr267, xr268, xr269, xr270, xr271, xr272, xr273, xr274, xr275, xr276, xr277, xr278, xr279, xr280, xr281, xr282, xr283, xr284, xr285, xr286, xr287, xr288, xr289, xr290, xr291, xr292, xr293, xr294, xr295, xr296, xr297, xr298, xr299, xr300, xr301, xr302, xv2, xv3, xv4, xv6, xv7, xv266, xv268, xv269, xv270, xv271, xv273, xv274, xv275, xv276, xv277, xv278, xv279, xv280, xv281, xv282, xv283, xv284, xv285, xv286, xv287, xv288, xv289, xv290, xv291, xv292, xv293, xv294, xv295, xv296, xv297, xv298, xv299, xv300, xv301, xv302, znar0, znar1, znarI, zfitb, zfitb1, xC_N_mk, xC_tg_mk, xC_hd_mk, xC_wt_mk, xC_fb_mk, xC_R_mk, xC_G_mk, xC_P_mk, xC_Q_mk, xC_E_mk, xC_kr_mk, xC_ct_mk, xC_tt_mk, xC_A_mk, xC_qs_mk, xC_qx_mk, xC_qy_mk, xC_vs_mk, xC_lo_mk, xC_hg_mk, xC_ab_mk, xC_fo_mk, xC_pk_mk, xC_K_mk, xC_kd_mk, xM_n_mk, xM_tg_mk, xM_hd_mk, xM_wt_mk, xM_fb_mk, xM_kn_mk, xM_mn_mk, xM_rk_mk, xM_rs_mk, xM_rh_mk, xM_E_mk, xM_gn_mk, xM_ks_mk, xM_kt_mk, xM_kh_mk, xM_A_mk, xM_qs_mk, xM_qx_mk, xM_qy_mk, xM_rw_mk, xM_wo_mk, xM_ia_mk, xM_fo_mk, xM_pr_mk, xM_h_mk, xS_N_mk, xS_tg_mk, xS_hd_mk, xS_wt_mk, xS_fb_mk, xS_E_mk, xS_gn_mk, xS_ks_mk, xS_kt_mk, xS_kh_mk, xS_A_mk, xS_qs_mk, xS_qx_mk, xS_qy_mk, xC_eta, xM_eta, xS_eta, hn, e1, e6]
      exact k
    · by_cases q : nI (σ.fb (8 * d + σ.hd d)) = 0
      · simp [e7.mp q] at k
        simp [E_X10_is, zfok, zfv, zfs', ziok, ziv, zpok, zis', zlok, zlv', zls', zbok, zrok, zrv', zrs', zaok, zan, zcok, zcs', zis, zgv, zgh, zcat, zw_1, zw_21, zw_at, zclr_int, zclr_ref, zclr_null, zclr_none, zclr_long, zclr_clr, zbv_0, zbv_1, zbv_ite, zbv_ite', Value.category, xr0, xr1, xr2, xr3, xr4, xr5, xr6, xr7, xr8, xr265, xr266, xr267, xr268, xr269, xr270, xr271, xr272, xr273, xr274, xr275, xr276, xr277, xr278, xr279, xr280, xr281, xr282, xr283, xr284, xr285, xr286, xr287, xr288, xr289, xr290, xr291, xr292, xr293, xr294, xr295, xr296, xr297, xr298, xr299, xr300, xr301, xr302, xv2, xv3, xv4, xv6, xv7, xv266, xv268, xv269, xv270, xv271, xv273, xv274, xv275, xv276, xv277, xv278, xv279, xv280, xv281, xv282, xv283, xv284, xv285, xv286, xv287, xv288, xv289, xv290, xv291, xv292, xv293, xv294, xv295, xv296, xv297, xv298, xv299, xv300, xv301, xv302, znar0, znar1, znarI, zfitb, zfitb1, xC_N_mk, xC_tg_mk, xC_hd_mk, xC_wt_mk, xC_fb_mk, xC_R_mk, xC_G_mk, xC_P_mk, xC_Q_mk, xC_E_mk, xC_kr_mk, xC_ct_mk, xC_tt_mk, xC_A_mk, xC_qs_mk, xC_qx_mk, xC_qy_mk, xC_vs_mk, xC_lo_mk, xC_hg_mk, xC_ab_mk, xC_fo_mk, xC_pk_mk, xC_K_mk, xC_kd_mk, xM_n_mk, xM_tg_mk, xM_hd_mk, xM_wt_mk, xM_fb_mk, xM_kn_mk, xM_mn_mk, xM_rk_mk, xM_rs_mk, xM_rh_mk, xM_E_mk, xM_gn_mk, xM_ks_mk, xM_kt_mk, xM_kh_mk, xM_A_mk, xM_qs_mk, xM_qx_mk, xM_qy_mk, xM_rw_mk, xM_wo_mk, xM_ia_mk, xM_fo_mk, xM_pr_mk, xM_h_mk, xS_N_mk, xS_tg_mk, xS_hd_mk, xS_wt_mk, xS_fb_mk, xS_E_mk, xS_gn_mk, xS_ks_mk, xS_kt_mk, xS_kh_mk, xS_A_mk, xS_qs_mk, xS_qx_mk, xS_qy_mk, xC_eta, xM_eta, xS_eta, hn, hh, hf, z8, e1, e2, e3, e4, e5, e6, q, e7.mp q]
        exact k
      · have q' : ¬ σ.fb (8 * d + σ.hd d) = 0 := fun z => q (e7.mpr z)
        simp [q'] at k
        simp [E_X10_is, zfok, zfv, zfs', ziok, ziv, zpok, zis', zlok, zlv', zls', zbok, zrok, zrv', zrs', zaok, zan, zcok, zcs', zis, zgv, zgh, zcat, zw_1, zw_21, zw_at, zclr_int, zclr_ref, zclr_null, zclr_none, zclr_long, zclr_clr, zbv_0, zbv_1, zbv_ite, zbv_ite', Value.category, xr0, xr1, xr2, xr3, xr4, xr5, xr6, xr7, xr8, xr265, xr266, xr267, xr268, xr269, xr270, xr271, xr272, xr273, xr274, xr275, xr276, xr277, xr278, xr279, xr280, xr281, xr282, xr283, xr284, xr285, xr286, xr287, xr288, xr289, xr290, xr291, xr292, xr293, xr294, xr295, xr296, xr297, xr298, xr299, xr300, xr301, xr302, xv2, xv3, xv4, xv6, xv7, xv266, xv268, xv269, xv270, xv271, xv273, xv274, xv275, xv276, xv277, xv278, xv279, xv280, xv281, xv282, xv283, xv284, xv285, xv286, xv287, xv288, xv289, xv290, xv291, xv292, xv293, xv294, xv295, xv296, xv297, xv298, xv299, xv300, xv301, xv302, znar0, znar1, znarI, zfitb, zfitb1, xC_N_mk, xC_tg_mk, xC_hd_mk, xC_wt_mk, xC_fb_mk, xC_R_mk, xC_G_mk, xC_P_mk, xC_Q_mk, xC_E_mk, xC_kr_mk, xC_ct_mk, xC_tt_mk, xC_A_mk, xC_qs_mk, xC_qx_mk, xC_qy_mk, xC_vs_mk, xC_lo_mk, xC_hg_mk, xC_ab_mk, xC_fo_mk, xC_pk_mk, xC_K_mk, xC_kd_mk, xM_n_mk, xM_tg_mk, xM_hd_mk, xM_wt_mk, xM_fb_mk, xM_kn_mk, xM_mn_mk, xM_rk_mk, xM_rs_mk, xM_rh_mk, xM_E_mk, xM_gn_mk, xM_ks_mk, xM_kt_mk, xM_kh_mk, xM_A_mk, xM_qs_mk, xM_qx_mk, xM_qy_mk, xM_rw_mk, xM_wo_mk, xM_ia_mk, xM_fo_mk, xM_pr_mk, xM_h_mk, xS_N_mk, xS_tg_mk, xS_hd_mk, xS_wt_mk, xS_fb_mk, xS_E_mk, xS_gn_mk, xS_ks_mk, xS_kt_mk, xS_kh_mk, xS_A_mk, xS_qs_mk, xS_qx_mk, xS_qy_mk, xC_eta, xM_eta, xS_eta, hn, hh, hf, z8, e1, e2, e3, e4, e5, e6, q, q']
        exact k
theorem c_is (ok : xOk σ) (rc : xRC σ C) (rm : xRM ca σ M) : xOut ca 135 116 [] [] L xs s C M σ := by
  have n7 := ok.d.n7
  have hh : ∀ d, σ.hd d ≤ 7 := fun d => by have := ok.d.hn d; omega
  have t1 := x_ctree (L := L) (s := s) (xs := xs) (M := M) ok rc
  have t2 := x_mtree (L := L) (s := s) (xs := xs) (C := C) ok rm
  have a1 := s_isSmooth (h := xW L xs s C M) (o := 2) (t := 3) (q := 4) (N := σ.N) (hd := σ.hd) (by rw [xr2, rc.N]) (by rw [xr4, rc.hd]) n7 hh
  rw [zTr_sm ok.d.n1] at a1
  have a2 := s_allowAll (h := xW L xs s C M) (o := 5) (w := 6) (b := 7) (fb := σ.fb) (o2 := 2) (t := 3) (q := 4) (hd := σ.hd) (N := σ.N) xr5 (by rw [xr7, rc.fb]) ok.f1 (by rw [xr2, rc.N]) (by rw [xr4, rc.hd]) n7 hh
  refine ⟨.int (zisv (zTr σ.hd σ.N) (zall (zmsd σ.hd σ.N) σ.N 1) (zall (fun x => decide (σ.fb (8 * x + σ.hd x) = 0)) σ.N 1)), σ, s, C, (xM.mk M.n M.tg M.hd M.wt M.fb M.kn M.mn M.rk M.rs M.rh M.E M.gn M.ks M.kt M.kh M.A M.qs M.qx M.qy (fun d => nI (σ.hd d)) M.wo M.ia M.fo M.pr M.h), ?_, ?_, ok, rc, rm_rw ok rm, rfl⟩
  · by_cases q1 : zTr σ.hd σ.N = true <;> by_cases q2 : zall (zmsd σ.hd σ.N) σ.N 1 = true <;> by_cases q3 : zall (fun x => decide (σ.fb (8 * x + σ.hd x) = 0)) σ.N 1 = true <;> simp [q1, q2, q3] at t1 a1 a2 <;> simp [I_X9_is, E_X9_is, zfok, zfv, zfs', ziok, ziv, zpok, zis', zlok, zlv', zls', zbok, zrok, zrv', zrs', zaok, zan, zcok, zcs', zis, zgv, zgh, zcat, zw_1, zw_21, zw_at, zclr_int, zclr_ref, zclr_null, zclr_none, zclr_long, zclr_clr, zbv_0, zbv_1, zbv_ite, zbv_ite', Value.category, xr0, xr1, xr2, xr3, xr4, xr5, xr6, xr7, xr8, xr265, xr266, xr267, xr268, xr269, xr270, xr271, xr272, xr273, xr274, xr275, xr276, xr277, xr278, xr279, xr280, xr281, xr282, xr283, xr284, xr285, xr286, xr287, xr288, xr289, xr290, xr291, xr292, xr293, xr294, xr295, xr296, xr297, xr298, xr299, xr300, xr301, xr302, xv2, xv3, xv4, xv6, xv7, xv266, xv268, xv269, xv270, xv271, xv273, xv274, xv275, xv276, xv277, xv278, xv279, xv280, xv281, xv282, xv283, xv284, xv285, xv286, xv287, xv288, xv289, xv290, xv291, xv292, xv293, xv294, xv295, xv296, xv297, xv298, xv299, xv300, xv301, xv302, znar0, znar1, znarI, zfitb, zfitb1, xC_N_mk, xC_tg_mk, xC_hd_mk, xC_wt_mk, xC_fb_mk, xC_R_mk, xC_G_mk, xC_P_mk, xC_Q_mk, xC_E_mk, xC_kr_mk, xC_ct_mk, xC_tt_mk, xC_A_mk, xC_qs_mk, xC_qx_mk, xC_qy_mk, xC_vs_mk, xC_lo_mk, xC_hg_mk, xC_ab_mk, xC_fo_mk, xC_pk_mk, xC_K_mk, xC_kd_mk, xM_n_mk, xM_tg_mk, xM_hd_mk, xM_wt_mk, xM_fb_mk, xM_kn_mk, xM_mn_mk, xM_rk_mk, xM_rs_mk, xM_rh_mk, xM_E_mk, xM_gn_mk, xM_ks_mk, xM_kt_mk, xM_kh_mk, xM_A_mk, xM_qs_mk, xM_qx_mk, xM_qy_mk, xM_rw_mk, xM_wo_mk, xM_ia_mk, xM_fo_mk, xM_pr_mk, xM_h_mk, xS_N_mk, xS_tg_mk, xS_hd_mk, xS_wt_mk, xS_fb_mk, xS_E_mk, xS_gn_mk, xS_ks_mk, xS_kt_mk, xS_kh_mk, xS_A_mk, xS_qs_mk, xS_qx_mk, xS_qy_mk, xC_eta, xM_eta, xS_eta, t1, a1, a2, q1, q2, q3, zisv] <;> rfl
  · have k := l_mis (L := L) (s := s) (xs := xs) (C := C) (M := (xM.mk M.n M.tg M.hd M.wt M.fb M.kn M.mn M.rk M.rs M.rh M.E M.gn M.ks M.kt M.kh M.A M.qs M.qx M.qy (fun d => nI (σ.hd d)) M.wo M.ia M.fo M.pr M.h)) (T := zTr σ.hd σ.N) (S := zall (zmsd σ.hd σ.N) σ.N 1) rm.N rm.hd rm.fb ok (fun hT => m_isSmooth rfl hh (fun x _ => zTr_all ok.d.hn ok.d.h0 ok.d.hz hT ok.d.n1 x) n7) σ.N 1 true (by omega) (by omega)
    rw [Bool.true_and, show nI 1 = 1 from rfl] at k
    simp [I_X10_is, E_X10_is, zfok, zfv, zfs', ziok, ziv, zpok, zis', zlok, zlv', zls', zbok, zrok, zrv', zrs', zaok, zan, zcok, zcs', zis, zgv, zgh, zcat, zw_1, zw_21, zw_at, zclr_int, zclr_ref, zclr_null, zclr_none, zclr_long, zclr_clr, zbv_0, zbv_1, zbv_ite, zbv_ite', Value.category, xr0, xr1, xr2, xr3, xr4, xr5, xr6, xr7, xr8, xr265, xr266, xr267, xr268, xr269, xr270, xr271, xr272, xr273, xr274, xr275, xr276, xr277, xr278, xr279, xr280, xr281, xr282, xr283, xr284, xr285, xr286, xr287, xr288, xr289, xr290, xr291, xr292, xr293, xr294, xr295, xr296, xr297, xr298, xr299, xr300, xr301, xr302, xv2, xv3, xv4, xv6, xv7, xv266, xv268, xv269, xv270, xv271, xv273, xv274, xv275, xv276, xv277, xv278, xv279, xv280, xv281, xv282, xv283, xv284, xv285, xv286, xv287, xv288, xv289, xv290, xv291, xv292, xv293, xv294, xv295, xv296, xv297, xv298, xv299, xv300, xv301, xv302, znar0, znar1, znarI, zfitb, zfitb1, xC_N_mk, xC_tg_mk, xC_hd_mk, xC_wt_mk, xC_fb_mk, xC_R_mk, xC_G_mk, xC_P_mk, xC_Q_mk, xC_E_mk, xC_kr_mk, xC_ct_mk, xC_tt_mk, xC_A_mk, xC_qs_mk, xC_qx_mk, xC_qy_mk, xC_vs_mk, xC_lo_mk, xC_hg_mk, xC_ab_mk, xC_fo_mk, xC_pk_mk, xC_K_mk, xC_kd_mk, xM_n_mk, xM_tg_mk, xM_hd_mk, xM_wt_mk, xM_fb_mk, xM_kn_mk, xM_mn_mk, xM_rk_mk, xM_rs_mk, xM_rh_mk, xM_E_mk, xM_gn_mk, xM_ks_mk, xM_kt_mk, xM_kh_mk, xM_A_mk, xM_qs_mk, xM_qx_mk, xM_qy_mk, xM_rw_mk, xM_wo_mk, xM_ia_mk, xM_fo_mk, xM_pr_mk, xM_h_mk, xS_N_mk, xS_tg_mk, xS_hd_mk, xS_wt_mk, xS_fb_mk, xS_E_mk, xS_gn_mk, xS_ks_mk, xS_kt_mk, xS_kh_mk, xS_A_mk, xS_qs_mk, xS_qx_mk, xS_qy_mk, xC_eta, xM_eta, xS_eta, t2]
    exact k
theorem c_over (ok : xOk σ) (rc : xRC σ C) (rm : xRM ca σ M) (a b : Int32) : xOut ca 136 117 [.int a, .int b] [.int a, .int b] L xs s C M σ := by
  have n7 := ok.d.n7
  have hh : ∀ d, σ.hd d ≤ 7 := fun d => by have := ok.d.hn d; omega
  have t1 := x_ctree (L := L) (s := s) (xs := xs) (M := M) ok rc
  have t2 := x_mtree (L := L) (s := s) (xs := xs) (C := C) ok rm
  have w0 := s_hasPlace (h := xW L xs s C M) (o := 2) (t := 3) (q := 4) (n := C.N) (d := a) xr2
  have w1 := s_hasWord (h := xW L xs s C M) (o := 2) (t := 3) (q := 4) (n := C.N) (d := b) xr2
  have w2 := m_isWord (L := L) (s := s) (xs := xs) (C := C) (M := M) (d := b)
  have w3 := m_in (h := xW L xs s C M) (v := a) (a := 0) (b := M.n)
  rw [rc.N] at w0 w1
  have mn := rm.N
  by_cases h1 : 0 ≤ a ∧ a ≤ nI σ.N
  · by_cases h2 : 1 ≤ b ∧ b ≤ nI σ.N
    · obtain ⟨i, h3, rfl⟩ := x_place ok h1
      obtain ⟨j, h4, h5, rfl⟩ := x_word ok h2
      rw [if_pos h1] at w0
      rw [if_pos h2] at w1
      rw [if_pos (by rw [mn]; exact h2)] at w2
      rw [if_pos (by rw [mn]; exact h1)] at w3
      by_cases hT : zTr σ.hd σ.N = true
      · rw [if_pos hT] at t1 t2
        have e1 := s_isAbove (h := xW L xs s C M) (o := 2) (t := 3) (q := 4) (N := σ.N) (hd := σ.hd) (a := i) (x := j) (by rw [xr2, rc.N]) (by rw [xr4, rc.hd]) n7 hh (by omega) (by omega)
        rw [zab_zov (by omega)] at e1
        have e2 := m_isOver (L := L) (s := s) (xs := xs) (C := C) (M := (xM.mk M.n M.tg M.hd M.wt M.fb M.kn M.mn M.rk M.rs M.rh M.E M.gn M.ks M.kt M.kh M.A M.qs M.qx M.qy (fun d => nI (σ.hd d)) M.wo M.ia M.fo M.pr M.h)) (f := σ.hd) (a := i) (x := j) (c := σ.N) rfl hh (by omega) (by omega) (zTr_all ok.d.hn ok.d.h0 ok.d.hz hT ok.d.n1 j)
        refine ⟨.int (if zov σ.hd i σ.N j = true then 1 else 0), σ, s, C, (xM.mk M.n M.tg M.hd M.wt M.fb M.kn M.mn M.rk M.rs M.rh M.E M.gn M.ks M.kt M.kh M.A M.qs M.qx M.qy (fun d => nI (σ.hd d)) M.wo M.ia M.fo M.pr M.h), ?_, ?_, ok, rc, rm_rw ok rm, rfl⟩
        · by_cases q : zov σ.hd i σ.N j = true <;> simp [q] at e1 <;> simp [I_X9_over, E_X9_over, zfok, zfv, zfs', ziok, ziv, zpok, zis', zlok, zlv', zls', zbok, zrok, zrv', zrs', zaok, zan, zcok, zcs', zis, zgv, zgh, zcat, zw_1, zw_21, zw_at, zclr_int, zclr_ref, zclr_null, zclr_none, zclr_long, zclr_clr, zbv_0, zbv_1, zbv_ite, zbv_ite', Value.category, xr0, xr1, xr2, xr3, xr4, xr5, xr6, xr7, xr8, xr265, xr266, xr267, xr268, xr269, xr270, xr271, xr272, xr273, xr274, xr275, xr276, xr277, xr278, xr279, xr280, xr281, xr282, xr283, xr284, xr285, xr286, xr287, xr288, xr289, xr290, xr291, xr292, xr293, xr294, xr295, xr296, xr297, xr298, xr299, xr300, xr301, xr302, xv2, xv3, xv4, xv6, xv7, xv266, xv268, xv269, xv270, xv271, xv273, xv274, xv275, xv276, xv277, xv278, xv279, xv280, xv281, xv282, xv283, xv284, xv285, xv286, xv287, xv288, xv289, xv290, xv291, xv292, xv293, xv294, xv295, xv296, xv297, xv298, xv299, xv300, xv301, xv302, znar0, znar1, znarI, zfitb, zfitb1, xC_N_mk, xC_tg_mk, xC_hd_mk, xC_wt_mk, xC_fb_mk, xC_R_mk, xC_G_mk, xC_P_mk, xC_Q_mk, xC_E_mk, xC_kr_mk, xC_ct_mk, xC_tt_mk, xC_A_mk, xC_qs_mk, xC_qx_mk, xC_qy_mk, xC_vs_mk, xC_lo_mk, xC_hg_mk, xC_ab_mk, xC_fo_mk, xC_pk_mk, xC_K_mk, xC_kd_mk, xM_n_mk, xM_tg_mk, xM_hd_mk, xM_wt_mk, xM_fb_mk, xM_kn_mk, xM_mn_mk, xM_rk_mk, xM_rs_mk, xM_rh_mk, xM_E_mk, xM_gn_mk, xM_ks_mk, xM_kt_mk, xM_kh_mk, xM_A_mk, xM_qs_mk, xM_qx_mk, xM_qy_mk, xM_rw_mk, xM_wo_mk, xM_ia_mk, xM_fo_mk, xM_pr_mk, xM_h_mk, xS_N_mk, xS_tg_mk, xS_hd_mk, xS_wt_mk, xS_fb_mk, xS_E_mk, xS_gn_mk, xS_ks_mk, xS_kt_mk, xS_kh_mk, xS_A_mk, xS_qs_mk, xS_qx_mk, xS_qy_mk, xC_eta, xM_eta, xS_eta, w0, w1, t1, e1, q]
        · by_cases q : zov σ.hd i σ.N j = true <;> simp [q] at e2 <;> simp [I_X10_over, E_X10_over, zfok, zfv, zfs', ziok, ziv, zpok, zis', zlok, zlv', zls', zbok, zrok, zrv', zrs', zaok, zan, zcok, zcs', zis, zgv, zgh, zcat, zw_1, zw_21, zw_at, zclr_int, zclr_ref, zclr_null, zclr_none, zclr_long, zclr_clr, zbv_0, zbv_1, zbv_ite, zbv_ite', Value.category, xr0, xr1, xr2, xr3, xr4, xr5, xr6, xr7, xr8, xr265, xr266, xr267, xr268, xr269, xr270, xr271, xr272, xr273, xr274, xr275, xr276, xr277, xr278, xr279, xr280, xr281, xr282, xr283, xr284, xr285, xr286, xr287, xr288, xr289, xr290, xr291, xr292, xr293, xr294, xr295, xr296, xr297, xr298, xr299, xr300, xr301, xr302, xv2, xv3, xv4, xv6, xv7, xv266, xv268, xv269, xv270, xv271, xv273, xv274, xv275, xv276, xv277, xv278, xv279, xv280, xv281, xv282, xv283, xv284, xv285, xv286, xv287, xv288, xv289, xv290, xv291, xv292, xv293, xv294, xv295, xv296, xv297, xv298, xv299, xv300, xv301, xv302, znar0, znar1, znarI, zfitb, zfitb1, xC_N_mk, xC_tg_mk, xC_hd_mk, xC_wt_mk, xC_fb_mk, xC_R_mk, xC_G_mk, xC_P_mk, xC_Q_mk, xC_E_mk, xC_kr_mk, xC_ct_mk, xC_tt_mk, xC_A_mk, xC_qs_mk, xC_qx_mk, xC_qy_mk, xC_vs_mk, xC_lo_mk, xC_hg_mk, xC_ab_mk, xC_fo_mk, xC_pk_mk, xC_K_mk, xC_kd_mk, xM_n_mk, xM_tg_mk, xM_hd_mk, xM_wt_mk, xM_fb_mk, xM_kn_mk, xM_mn_mk, xM_rk_mk, xM_rs_mk, xM_rh_mk, xM_E_mk, xM_gn_mk, xM_ks_mk, xM_kt_mk, xM_kh_mk, xM_A_mk, xM_qs_mk, xM_qx_mk, xM_qy_mk, xM_rw_mk, xM_wo_mk, xM_ia_mk, xM_fo_mk, xM_pr_mk, xM_h_mk, xS_N_mk, xS_tg_mk, xS_hd_mk, xS_wt_mk, xS_fb_mk, xS_E_mk, xS_gn_mk, xS_ks_mk, xS_kt_mk, xS_kh_mk, xS_A_mk, xS_qs_mk, xS_qx_mk, xS_qy_mk, xC_eta, xM_eta, xS_eta, w2, w3, t2, e2, q]
      · rw [if_neg hT] at t1 t2
        refine ⟨.int (-103), σ, s, C, (xM.mk M.n M.tg M.hd M.wt M.fb M.kn M.mn M.rk M.rs M.rh M.E M.gn M.ks M.kt M.kh M.A M.qs M.qx M.qy (fun d => nI (σ.hd d)) M.wo M.ia M.fo M.pr M.h), ?_, ?_, ok, rc, rm_rw ok rm, rfl⟩
        · simp [I_X9_over, E_X9_over, zfok, zfv, zfs', ziok, ziv, zpok, zis', zlok, zlv', zls', zbok, zrok, zrv', zrs', zaok, zan, zcok, zcs', zis, zgv, zgh, zcat, zw_1, zw_21, zw_at, zclr_int, zclr_ref, zclr_null, zclr_none, zclr_long, zclr_clr, zbv_0, zbv_1, zbv_ite, zbv_ite', Value.category, xr0, xr1, xr2, xr3, xr4, xr5, xr6, xr7, xr8, xr265, xr266, xr267, xr268, xr269, xr270, xr271, xr272, xr273, xr274, xr275, xr276, xr277, xr278, xr279, xr280, xr281, xr282, xr283, xr284, xr285, xr286, xr287, xr288, xr289, xr290, xr291, xr292, xr293, xr294, xr295, xr296, xr297, xr298, xr299, xr300, xr301, xr302, xv2, xv3, xv4, xv6, xv7, xv266, xv268, xv269, xv270, xv271, xv273, xv274, xv275, xv276, xv277, xv278, xv279, xv280, xv281, xv282, xv283, xv284, xv285, xv286, xv287, xv288, xv289, xv290, xv291, xv292, xv293, xv294, xv295, xv296, xv297, xv298, xv299, xv300, xv301, xv302, znar0, znar1, znarI, zfitb, zfitb1, xC_N_mk, xC_tg_mk, xC_hd_mk, xC_wt_mk, xC_fb_mk, xC_R_mk, xC_G_mk, xC_P_mk, xC_Q_mk, xC_E_mk, xC_kr_mk, xC_ct_mk, xC_tt_mk, xC_A_mk, xC_qs_mk, xC_qx_mk, xC_qy_mk, xC_vs_mk, xC_lo_mk, xC_hg_mk, xC_ab_mk, xC_fo_mk, xC_pk_mk, xC_K_mk, xC_kd_mk, xM_n_mk, xM_tg_mk, xM_hd_mk, xM_wt_mk, xM_fb_mk, xM_kn_mk, xM_mn_mk, xM_rk_mk, xM_rs_mk, xM_rh_mk, xM_E_mk, xM_gn_mk, xM_ks_mk, xM_kt_mk, xM_kh_mk, xM_A_mk, xM_qs_mk, xM_qx_mk, xM_qy_mk, xM_rw_mk, xM_wo_mk, xM_ia_mk, xM_fo_mk, xM_pr_mk, xM_h_mk, xS_N_mk, xS_tg_mk, xS_hd_mk, xS_wt_mk, xS_fb_mk, xS_E_mk, xS_gn_mk, xS_ks_mk, xS_kt_mk, xS_kh_mk, xS_A_mk, xS_qs_mk, xS_qx_mk, xS_qy_mk, xC_eta, xM_eta, xS_eta, w0, w1, t1]
        · simp [I_X10_over, E_X10_over, zfok, zfv, zfs', ziok, ziv, zpok, zis', zlok, zlv', zls', zbok, zrok, zrv', zrs', zaok, zan, zcok, zcs', zis, zgv, zgh, zcat, zw_1, zw_21, zw_at, zclr_int, zclr_ref, zclr_null, zclr_none, zclr_long, zclr_clr, zbv_0, zbv_1, zbv_ite, zbv_ite', Value.category, xr0, xr1, xr2, xr3, xr4, xr5, xr6, xr7, xr8, xr265, xr266, xr267, xr268, xr269, xr270, xr271, xr272, xr273, xr274, xr275, xr276, xr277, xr278, xr279, xr280, xr281, xr282, xr283, xr284, xr285, xr286, xr287, xr288, xr289, xr290, xr291, xr292, xr293, xr294, xr295, xr296, xr297, xr298, xr299, xr300, xr301, xr302, xv2, xv3, xv4, xv6, xv7, xv266, xv268, xv269, xv270, xv271, xv273, xv274, xv275, xv276, xv277, xv278, xv279, xv280, xv281, xv282, xv283, xv284, xv285, xv286, xv287, xv288, xv289, xv290, xv291, xv292, xv293, xv294, xv295, xv296, xv297, xv298, xv299, xv300, xv301, xv302, znar0, znar1, znarI, zfitb, zfitb1, xC_N_mk, xC_tg_mk, xC_hd_mk, xC_wt_mk, xC_fb_mk, xC_R_mk, xC_G_mk, xC_P_mk, xC_Q_mk, xC_E_mk, xC_kr_mk, xC_ct_mk, xC_tt_mk, xC_A_mk, xC_qs_mk, xC_qx_mk, xC_qy_mk, xC_vs_mk, xC_lo_mk, xC_hg_mk, xC_ab_mk, xC_fo_mk, xC_pk_mk, xC_K_mk, xC_kd_mk, xM_n_mk, xM_tg_mk, xM_hd_mk, xM_wt_mk, xM_fb_mk, xM_kn_mk, xM_mn_mk, xM_rk_mk, xM_rs_mk, xM_rh_mk, xM_E_mk, xM_gn_mk, xM_ks_mk, xM_kt_mk, xM_kh_mk, xM_A_mk, xM_qs_mk, xM_qx_mk, xM_qy_mk, xM_rw_mk, xM_wo_mk, xM_ia_mk, xM_fo_mk, xM_pr_mk, xM_h_mk, xS_N_mk, xS_tg_mk, xS_hd_mk, xS_wt_mk, xS_fb_mk, xS_E_mk, xS_gn_mk, xS_ks_mk, xS_kt_mk, xS_kh_mk, xS_A_mk, xS_qs_mk, xS_qx_mk, xS_qy_mk, xC_eta, xM_eta, xS_eta, w2, w3, t2]
    · rw [if_neg h2] at w1
      rw [if_neg (by rw [mn]; exact h2)] at w2
      rw [if_pos h1] at w0
      rw [if_pos (by rw [mn]; exact h1)] at w3
      refine ⟨.int (-101), σ, s, C, M, ?_, ?_, ok, rc, rm, rfl⟩
      · simp [I_X9_over, E_X9_over, zfok, zfv, zfs', ziok, ziv, zpok, zis', zlok, zlv', zls', zbok, zrok, zrv', zrs', zaok, zan, zcok, zcs', zis, zgv, zgh, zcat, zw_1, zw_21, zw_at, zclr_int, zclr_ref, zclr_null, zclr_none, zclr_long, zclr_clr, zbv_0, zbv_1, zbv_ite, zbv_ite', Value.category, xr0, xr1, xr2, xr3, xr4, xr5, xr6, xr7, xr8, xr265, xr266, xr267, xr268, xr269, xr270, xr271, xr272, xr273, xr274, xr275, xr276, xr277, xr278, xr279, xr280, xr281, xr282, xr283, xr284, xr285, xr286, xr287, xr288, xr289, xr290, xr291, xr292, xr293, xr294, xr295, xr296, xr297, xr298, xr299, xr300, xr301, xr302, xv2, xv3, xv4, xv6, xv7, xv266, xv268, xv269, xv270, xv271, xv273, xv274, xv275, xv276, xv277, xv278, xv279, xv280, xv281, xv282, xv283, xv284, xv285, xv286, xv287, xv288, xv289, xv290, xv291, xv292, xv293, xv294, xv295, xv296, xv297, xv298, xv299, xv300, xv301, xv302, znar0, znar1, znarI, zfitb, zfitb1, xC_N_mk, xC_tg_mk, xC_hd_mk, xC_wt_mk, xC_fb_mk, xC_R_mk, xC_G_mk, xC_P_mk, xC_Q_mk, xC_E_mk, xC_kr_mk, xC_ct_mk, xC_tt_mk, xC_A_mk, xC_qs_mk, xC_qx_mk, xC_qy_mk, xC_vs_mk, xC_lo_mk, xC_hg_mk, xC_ab_mk, xC_fo_mk, xC_pk_mk, xC_K_mk, xC_kd_mk, xM_n_mk, xM_tg_mk, xM_hd_mk, xM_wt_mk, xM_fb_mk, xM_kn_mk, xM_mn_mk, xM_rk_mk, xM_rs_mk, xM_rh_mk, xM_E_mk, xM_gn_mk, xM_ks_mk, xM_kt_mk, xM_kh_mk, xM_A_mk, xM_qs_mk, xM_qx_mk, xM_qy_mk, xM_rw_mk, xM_wo_mk, xM_ia_mk, xM_fo_mk, xM_pr_mk, xM_h_mk, xS_N_mk, xS_tg_mk, xS_hd_mk, xS_wt_mk, xS_fb_mk, xS_E_mk, xS_gn_mk, xS_ks_mk, xS_kt_mk, xS_kh_mk, xS_A_mk, xS_qs_mk, xS_qx_mk, xS_qy_mk, xC_eta, xM_eta, xS_eta, w0, w1]
      · simp [I_X10_over, E_X10_over, zfok, zfv, zfs', ziok, ziv, zpok, zis', zlok, zlv', zls', zbok, zrok, zrv', zrs', zaok, zan, zcok, zcs', zis, zgv, zgh, zcat, zw_1, zw_21, zw_at, zclr_int, zclr_ref, zclr_null, zclr_none, zclr_long, zclr_clr, zbv_0, zbv_1, zbv_ite, zbv_ite', Value.category, xr0, xr1, xr2, xr3, xr4, xr5, xr6, xr7, xr8, xr265, xr266, xr267, xr268, xr269, xr270, xr271, xr272, xr273, xr274, xr275, xr276, xr277, xr278, xr279, xr280, xr281, xr282, xr283, xr284, xr285, xr286, xr287, xr288, xr289, xr290, xr291, xr292, xr293, xr294, xr295, xr296, xr297, xr298, xr299, xr300, xr301, xr302, xv2, xv3, xv4, xv6, xv7, xv266, xv268, xv269, xv270, xv271, xv273, xv274, xv275, xv276, xv277, xv278, xv279, xv280, xv281, xv282, xv283, xv284, xv285, xv286, xv287, xv288, xv289, xv290, xv291, xv292, xv293, xv294, xv295, xv296, xv297, xv298, xv299, xv300, xv301, xv302, znar0, znar1, znarI, zfitb, zfitb1, xC_N_mk, xC_tg_mk, xC_hd_mk, xC_wt_mk, xC_fb_mk, xC_R_mk, xC_G_mk, xC_P_mk, xC_Q_mk, xC_E_mk, xC_kr_mk, xC_ct_mk, xC_tt_mk, xC_A_mk, xC_qs_mk, xC_qx_mk, xC_qy_mk, xC_vs_mk, xC_lo_mk, xC_hg_mk, xC_ab_mk, xC_fo_mk, xC_pk_mk, xC_K_mk, xC_kd_mk, xM_n_mk, xM_tg_mk, xM_hd_mk, xM_wt_mk, xM_fb_mk, xM_kn_mk, xM_mn_mk, xM_rk_mk, xM_rs_mk, xM_rh_mk, xM_E_mk, xM_gn_mk, xM_ks_mk, xM_kt_mk, xM_kh_mk, xM_A_mk, xM_qs_mk, xM_qx_mk, xM_qy_mk, xM_rw_mk, xM_wo_mk, xM_ia_mk, xM_fo_mk, xM_pr_mk, xM_h_mk, xS_N_mk, xS_tg_mk, xS_hd_mk, xS_wt_mk, xS_fb_mk, xS_E_mk, xS_gn_mk, xS_ks_mk, xS_kt_mk, xS_kh_mk, xS_A_mk, xS_qs_mk, xS_qx_mk, xS_qy_mk, xC_eta, xM_eta, xS_eta, w2, w3]
  · rw [if_neg h1] at w0
    rw [if_neg (by rw [mn]; exact h1)] at w3
    refine ⟨.int (-101), σ, s, C, M, ?_, ?_, ok, rc, rm, rfl⟩
    · simp [I_X9_over, E_X9_over, zfok, zfv, zfs', ziok, ziv, zpok, zis', zlok, zlv', zls', zbok, zrok, zrv', zrs', zaok, zan, zcok, zcs', zis, zgv, zgh, zcat, zw_1, zw_21, zw_at, zclr_int, zclr_ref, zclr_null, zclr_none, zclr_long, zclr_clr, zbv_0, zbv_1, zbv_ite, zbv_ite', Value.category, xr0, xr1, xr2, xr3, xr4, xr5, xr6, xr7, xr8, xr265, xr266, xr267, xr268, xr269, xr270, xr271, xr272, xr273, xr274, xr275, xr276, xr277, xr278, xr279, xr280, xr281, xr282, xr283, xr284, xr285, xr286, xr287, xr288, xr289, xr290, xr291, xr292, xr293, xr294, xr295, xr296, xr297, xr298, xr299, xr300, xr301, xr302, xv2, xv3, xv4, xv6, xv7, xv266, xv268, xv269, xv270, xv271, xv273, xv274, xv275, xv276, xv277, xv278, xv279, xv280, xv281, xv282, xv283, xv284, xv285, xv286, xv287, xv288, xv289, xv290, xv291, xv292, xv293, xv294, xv295, xv296, xv297, xv298, xv299, xv300, xv301, xv302, znar0, znar1, znarI, zfitb, zfitb1, xC_N_mk, xC_tg_mk, xC_hd_mk, xC_wt_mk, xC_fb_mk, xC_R_mk, xC_G_mk, xC_P_mk, xC_Q_mk, xC_E_mk, xC_kr_mk, xC_ct_mk, xC_tt_mk, xC_A_mk, xC_qs_mk, xC_qx_mk, xC_qy_mk, xC_vs_mk, xC_lo_mk, xC_hg_mk, xC_ab_mk, xC_fo_mk, xC_pk_mk, xC_K_mk, xC_kd_mk, xM_n_mk, xM_tg_mk, xM_hd_mk, xM_wt_mk, xM_fb_mk, xM_kn_mk, xM_mn_mk, xM_rk_mk, xM_rs_mk, xM_rh_mk, xM_E_mk, xM_gn_mk, xM_ks_mk, xM_kt_mk, xM_kh_mk, xM_A_mk, xM_qs_mk, xM_qx_mk, xM_qy_mk, xM_rw_mk, xM_wo_mk, xM_ia_mk, xM_fo_mk, xM_pr_mk, xM_h_mk, xS_N_mk, xS_tg_mk, xS_hd_mk, xS_wt_mk, xS_fb_mk, xS_E_mk, xS_gn_mk, xS_ks_mk, xS_kt_mk, xS_kh_mk, xS_A_mk, xS_qs_mk, xS_qx_mk, xS_qy_mk, xC_eta, xM_eta, xS_eta, w0]
    · simp [I_X10_over, E_X10_over, zfok, zfv, zfs', ziok, ziv, zpok, zis', zlok, zlv', zls', zbok, zrok, zrv', zrs', zaok, zan, zcok, zcs', zis, zgv, zgh, zcat, zw_1, zw_21, zw_at, zclr_int, zclr_ref, zclr_null, zclr_none, zclr_long, zclr_clr, zbv_0, zbv_1, zbv_ite, zbv_ite', Value.category, xr0, xr1, xr2, xr3, xr4, xr5, xr6, xr7, xr8, xr265, xr266, xr267, xr268, xr269, xr270, xr271, xr272, xr273, xr274, xr275, xr276, xr277, xr278, xr279, xr280, xr281, xr282, xr283, xr284, xr285, xr286, xr287, xr288, xr289, xr290, xr291, xr292, xr293, xr294, xr295, xr296, xr297, xr298, xr299, xr300, xr301, xr302, xv2, xv3, xv4, xv6, xv7, xv266, xv268, xv269, xv270, xv271, xv273, xv274, xv275, xv276, xv277, xv278, xv279, xv280, xv281, xv282, xv283, xv284, xv285, xv286, xv287, xv288, xv289, xv290, xv291, xv292, xv293, xv294, xv295, xv296, xv297, xv298, xv299, xv300, xv301, xv302, znar0, znar1, znarI, zfitb, zfitb1, xC_N_mk, xC_tg_mk, xC_hd_mk, xC_wt_mk, xC_fb_mk, xC_R_mk, xC_G_mk, xC_P_mk, xC_Q_mk, xC_E_mk, xC_kr_mk, xC_ct_mk, xC_tt_mk, xC_A_mk, xC_qs_mk, xC_qx_mk, xC_qy_mk, xC_vs_mk, xC_lo_mk, xC_hg_mk, xC_ab_mk, xC_fo_mk, xC_pk_mk, xC_K_mk, xC_kd_mk, xM_n_mk, xM_tg_mk, xM_hd_mk, xM_wt_mk, xM_fb_mk, xM_kn_mk, xM_mn_mk, xM_rk_mk, xM_rs_mk, xM_rh_mk, xM_E_mk, xM_gn_mk, xM_ks_mk, xM_kt_mk, xM_kh_mk, xM_A_mk, xM_qs_mk, xM_qx_mk, xM_qy_mk, xM_rw_mk, xM_wo_mk, xM_ia_mk, xM_fo_mk, xM_pr_mk, xM_h_mk, xS_N_mk, xS_tg_mk, xS_hd_mk, xS_wt_mk, xS_fb_mk, xS_E_mk, xS_gn_mk, xS_ks_mk, xS_kt_mk, xS_kh_mk, xS_A_mk, xS_qs_mk, xS_qx_mk, xS_qy_mk, xC_eta, xM_eta, xS_eta, w3]
end CASES2
