/-! learn -/
section LEARN
variable {L s : Nat} {xs : Nat → Int32} {C : xC} {M : xM} {σ : xS} {ca : Nat → (Nat → Int32) → (Nat → Nat) → (Nat → Int64) → (Nat → Int32) → (Nat → Int32) → (Nat → Int32) → Prop}
def asum (f : Nat → Nat → Nat) : Nat → Nat → Nat
  | 0, _ => 0
  | c + 1, a => (f a 0 + f a 1) + asum f c (a + 1)
theorem asum_congr {f g : Nat → Nat → Nat} (h : ∀ a sd, f a sd = g a sd) : ∀ c a, asum f c a = asum g c a
  | 0, _ => rfl
  | c + 1, a => by rw [asum, asum, h, h, asum_congr h c]
theorem asum_add {f g : Nat → Nat → Nat} : ∀ c a, asum (fun a sd => f a sd + g a sd) c a = asum f c a + asum g c a
  | 0, _ => rfl
  | c + 1, a => by rw [asum, asum, asum, asum_add c]; omega
theorem asum_0 : ∀ c a, asum (fun _ _ => 0) c a = 0
  | 0, _ => rfl
  | c + 1, a => by rw [asum, asum_0 c]
theorem asum_1 : ∀ v, v < 11 → ∀ t, t < 2 → asum (fun a sd => if v = a ∧ t = sd then 1 else 0) 11 0 = 1 := by decide
theorem asum_kcn {tg hd : Nat → Nat} {b : Nat} (h : ∀ d, tg (hd d) ≤ 10) : ∀ c d, asum (fun a sd => zcnt (fun d => decide (tg (hd d) = a ∧ tg d = b ∧ (if hd d < d then 0 else 1) = sd)) c d) 11 0 = zcnt (fun d => decide (tg d = b)) c d
  | 0, d => asum_0 _ _
  | c + 1, d => by
    have e := asum_add (f := fun a sd => if decide (tg (hd d) = a ∧ tg d = b ∧ (if hd d < d then 0 else 1) = sd) = true then 1 else 0) (g := fun a sd => zcnt (fun d => decide (tg (hd d) = a ∧ tg d = b ∧ (if hd d < d then 0 else 1) = sd)) c (d + 1)) 11 0
    rw [asum_kcn h c (d + 1)] at e
    by_cases q : tg d = b
    · have h10 := h d
      have t2 : (if hd d < d then 0 else 1) < 2 := by split <;> omega
      have e1 := asum_1 (tg (hd d)) (by omega) (if hd d < d then 0 else 1) t2
      have e2 : asum (fun a sd => if decide (tg (hd d) = a ∧ tg d = b ∧ (if hd d < d then 0 else 1) = sd) = true then 1 else 0) 11 0 = 1 := by
        refine (asum_congr (fun a sd => ?_) _ _).trans e1
        simp [q]
      simp only [zcnt] at e ⊢
      rw [e, e2]
      simp [q]
    · have e2 : asum (fun a sd => if decide (tg (hd d) = a ∧ tg d = b ∧ (if hd d < d then 0 else 1) = sd) = true then 1 else 0) 11 0 = 0 := by
        refine (asum_congr (fun a sd => ?_) _ _).trans (asum_0 11 0)
        simp [q]
      simp only [zcnt] at e ⊢
      rw [e, e2]
      simp [q]
theorem asum_ksum {gn : Nat → Nat} {g : Nat → Nat → Nat → Nat} : ∀ c j, asum (fun a sd => ksum gn (g a sd) c j) 11 0 = ksum gn (fun j => asum (fun a sd => g a sd j) 11 0) c j
  | 0, j => asum_0 _ _
  | c + 1, j => by
    have e := asum_add (f := fun a sd => if gn j = 0 then g a sd j else 0) (g := fun a sd => ksum gn (g a sd) c (j + 1)) 11 0
    rw [asum_ksum c (j + 1)] at e
    simp only [ksum]
    rw [e]
    by_cases q : gn j = 0
    · simp [q]
    · simp [q, asum_0]
theorem x_tot (ok : xOk σ) (b : Nat) : asum (fun a sd => xcn σ a b sd) 11 0 = xtn σ b := by
  unfold xcn xtn
  rw [asum_ksum]
  refine ksum_congr _ _ (fun i h1 h2 => ⟨rfl, ?_⟩)
  have od := ok.kd i (by omega)
  unfold kcn kbn
  refine asum_kcn (fun d => ?_) _ _
  by_cases q : σ.kh i d = 0
  · rw [q, od.t0]; omega
  · have := od.t9 (σ.kh i d) (by omega); omega
theorem ksum_le {gn g : Nat → Nat} {B : Nat} (h : ∀ j, g j ≤ B) : ∀ c j, ksum gn g c j ≤ c * B
  | 0, _ => by simp [ksum]
  | c + 1, j => by
    have := ksum_le (gn := gn) h c (j + 1)
    have := h j
    rw [ksum, Nat.succ_mul]
    split <;> omega
theorem ksum_mono {gn g g' : Nat → Nat} (h : ∀ j, g j ≤ g' j) : ∀ c j, ksum gn g c j ≤ ksum gn g' c j
  | 0, _ => by simp [ksum]
  | c + 1, j => by
    have := ksum_mono (gn := gn) h c (j + 1)
    have := h j
    rw [ksum, ksum]
    split <;> omega
theorem ksum_leb {gn g : Nat → Nat} {B : Nat} : ∀ c j, (∀ i, j ≤ i → i < j + c → g i ≤ B) → ksum gn g c j ≤ c * B
  | 0, _, _ => by simp [ksum]
  | c + 1, j, h => by
    have := ksum_leb (gn := gn) (g := g) (B := B) c (j + 1) (fun i h1 h2 => h i (by omega) (by omega))
    have := h j (by omega) (by omega)
    rw [ksum, Nat.succ_mul]
    split <;> omega
theorem zcnt_mono {P Q : Nat → Bool} (h : ∀ k, P k = true → Q k = true) : ∀ {c d : Nat}, zcnt P c d ≤ zcnt Q c d
  | 0, _ => Nat.le_refl _
  | c + 1, d => by
    have := zcnt_mono h (c := c) (d := d + 1)
    have := h d
    rw [zcnt, zcnt]
    by_cases q : P d = true
    · rw [if_pos q, if_pos (this q)]; omega
    · rw [if_neg q]; split <;> omega
theorem x_tn140 (ok : xOk σ) (b : Nat) : xtn σ b ≤ 140 := by
  have E20 := ok.E20
  have := ksum_leb (gn := σ.gn) (g := fun j => kbn (σ.ks j) (σ.kt j) b) (B := 7) σ.E 0 (fun i _ h => by have := (ok.kd i (by omega)).n7; have := zcnt_le (P := fun d => decide (σ.kt i d = b)) (c := σ.ks i) (d := 1); unfold kbn; omega)
  unfold xtn
  omega
theorem x_cn_tn (a b sd : Nat) : xcn σ a b sd ≤ xtn σ b := by
  unfold xcn xtn
  refine ksum_mono (fun j => ?_) _ _
  unfold kcn kbn
  refine zcnt_mono (fun k h => ?_)
  simp only [decide_eq_true_eq] at h ⊢
  exact h.2.1
/-- a learned weight -/
def zlw (σ : xS) (p d : Nat) : Int32 := 1000 * (nI (xcn σ (σ.tg p) (σ.tg d) (zsd p d)) + 1) / nI (xtn σ (σ.tg d) + 21)
theorem zlw_b (ok : xOk σ) (p d : Nat) : 0 ≤ (zlw σ p d).toInt ∧ (zlw σ p d).toInt ≤ 1000000 := by
  have t := x_tn140 ok (σ.tg d)
  have c := x_cn_tn (σ := σ) (σ.tg p) (σ.tg d) (zsd p d)
  have e1 : (1000 : Int32) * (nI (xcn σ (σ.tg p) (σ.tg d) (zsd p d)) + 1) = nI (1000 * (xcn σ (σ.tg p) (σ.tg d) (zsd p d) + 1)) := by
    rw [nI_1, show (1000 : Int32) = nI 1000 from rfl, pk_mul]
  unfold zlw
  rw [e1, Int32.toInt_div, nI_toInt (by omega), nI_toInt (by omega)]
  have hx : 1000 * (xcn σ (σ.tg p) (σ.tg d) (zsd p d) + 1) ≤ 141000 := by omega
  generalize 1000 * (xcn σ (σ.tg p) (σ.tg d) (zsd p d) + 1) = x at hx ⊢
  generalize xtn σ (σ.tg d) + 21 = y
  rw [← Int.ofNat_tdiv]
  have : x / y ≤ x := Nat.div_le_self _ _
  generalize x / y = z at this ⊢
  rw [Int.bmod_eq_of_le (by omega) (by omega)]
  omega
theorem x_learned (ok : xOk σ) {a b sd : Nat} (ha : a ≤ 10) (hb : b ≤ 9) (hs : sd ≤ 1) (ht : C.tt b = nI (xtn σ b)) (hc : C.ct ((a * 10 + b) * 2 + sd) = nI (xcn σ a b sd)) : zC 65 [.ref 272, .int (nI a), .int (nI b), .int (nI sd)] (xW L xs s C M) = some (some (.int (1000 * (nI (xcn σ a b sd) + 1) / nI (xtn σ b + 21))), xW L xs s C M) := by
  have t := x_tn140 ok b
  have e1 : zin (nI b) 10 = true := zin8 (by omega) (by omega)
  have e2 : (nI b).toNatClampNeg = b := zcl7 (by omega)
  have e3 : nI (xtn σ b) + 21 = nI (xtn σ b + 21) := by rw [show (21 : Int32) = nI 21 from rfl, nI_add]
  have e4 : ¬ nI (xtn σ b + 21) ≤ 0 := fun z => absurd ((zle (b := 0) (by omega) (by omega)).mp z) (by omega)
  have e5 : ¬ nI (xtn σ b + 21) = 0 := fun z => absurd ((zeq (b := 0) (by omega) (by omega)).mp z) (by omega)
  have e6 : zin (nI ((a * 10 + b) * 2 + sd)) 220 = true := zin8 (by omega) (by omega)
  have e7 : (nI ((a * 10 + b) * 2 + sd)).toNatClampNeg = (a * 10 + b) * 2 + sd := zcl7 (by omega)
  simp [I_X7_learnedWeight, E_X7_learnedWeight, zfok, zfv, zfs', ziok, ziv, zpok, zis', zlok, zlv', zls', zbok, zrok, zrv', zrs', zaok, zan, zcok, zcs', zis, zgv, zgh, zcat, zw_1, zw_21, zw_at, zclr_int, zclr_ref, zclr_null, zclr_none, zclr_long, zclr_clr, zbv_0, zbv_1, zbv_ite, zbv_ite', Value.category, xr0, xr1, xr2, xr3, xr4, xr5, xr6, xr7, xr8, xr265, xr266, xr267, xr268, xr269, xr270, xr271, xr272, xr273, xr274, xr275, xr276, xr277, xr278, xr279, xr280, xr281, xr282, xr283, xr284, xr285, xr286, xr287, xr288, xr289, xr290, xr291, xr292, xr293, xr294, xr295, xr296, xr297, xr298, xr299, xr300, xr301, xr302, xv2, xv3, xv4, xv6, xv7, xv266, xv268, xv269, xv270, xv271, xv273, xv274, xv275, xv276, xv277, xv278, xv279, xv280, xv281, xv282, xv283, xv284, xv285, xv286, xv287, xv288, xv289, xv290, xv291, xv292, xv293, xv294, xv295, xv296, xv297, xv298, xv299, xv300, xv301, xv302, znar0, znar1, znarI, zfitb, zfitb1, xC_N_mk, xC_tg_mk, xC_hd_mk, xC_wt_mk, xC_fb_mk, xC_R_mk, xC_G_mk, xC_P_mk, xC_Q_mk, xC_E_mk, xC_kr_mk, xC_ct_mk, xC_tt_mk, xC_A_mk, xC_qs_mk, xC_qx_mk, xC_qy_mk, xC_vs_mk, xC_lo_mk, xC_hg_mk, xC_ab_mk, xC_fo_mk, xC_pk_mk, xC_K_mk, xC_kd_mk, xM_n_mk, xM_tg_mk, xM_hd_mk, xM_wt_mk, xM_fb_mk, xM_kn_mk, xM_mn_mk, xM_rk_mk, xM_rs_mk, xM_rh_mk, xM_E_mk, xM_gn_mk, xM_ks_mk, xM_kt_mk, xM_kh_mk, xM_A_mk, xM_qs_mk, xM_qx_mk, xM_qy_mk, xM_rw_mk, xM_wo_mk, xM_ia_mk, xM_fo_mk, xM_pr_mk, xM_h_mk, xS_N_mk, xS_tg_mk, xS_hd_mk, xS_wt_mk, xS_fb_mk, xS_E_mk, xS_gn_mk, xS_ks_mk, xS_kt_mk, xS_kh_mk, xS_A_mk, xS_qs_mk, xS_qx_mk, xS_qy_mk, xC_eta, xM_eta, xS_eta, e1, e2, ht, e3, e4, e5, s_slot7, e6, e7, hc]
/-- a word's heads, from p on; all words, from d on -/
def zln1 (σ : xS) (d : Nat) : Nat → Nat → Int32 × (Nat → Int32) → Int32 × (Nat → Int32)
  | 0, _, S => S
  | c + 1, p, S => zln1 σ d c (p + 1) (if p = d then S else (S.1 + zlw σ p d, upd S.2 (8 * d + p) (zlw σ p d)))
def zln2 (σ : xS) : Nat → Nat → Int32 × (Nat → Int32) → Int32 × (Nat → Int32)
  | 0, _, S => S
  | c + 1, d, S => zln2 σ c (d + 1) (zln1 σ d (σ.N + 1) 0 S)
theorem l_ln1 (ok : xOk σ) (rc : xRC σ C) {d : Nat} (hd1 : 1 ≤ d) (hd : d ≤ σ.N) : ∀ (c p : Nat) (S : Int32 × (Nat → Int32)) (l4 : Option Value), c + p = σ.N + 1 → ∃ l3' l4', zD 111 17 [some (.ref 1), some (.int S.1), some (.int (nI d)), some (.int (nI p)), l4] [] (xW L xs s (xC.mk C.N C.tg C.hd S.2 C.fb C.R C.G C.P C.Q C.E C.kr C.ct C.tt C.A C.qs C.qx C.qy C.vs C.lo C.hg C.ab C.fo C.pk C.K C.kd) M) = zD 111 4 [some (.ref 1), some (.int (zln1 σ d c p S).1), some (.int (nI (d + 1))), l3', l4'] [] (xW L xs s (xC.mk C.N C.tg C.hd ((zln1 σ d c p S).2) C.fb C.R C.G C.P C.Q C.E C.kr C.ct C.tt C.A C.qs C.qx C.qy C.vs C.lo C.hg C.ab C.fo C.pk C.K C.kd) M)
  | 0, p, S, l4, h => by
    have n7 := ok.d.n7
    have e1 : nI σ.N < nI p := by rw [zlt (by omega) (by omega)]; omega
    have e2 : nI d + 1 = nI (d + 1) := nI_1 d
    refine ⟨some (.int (nI p)), l4, ?_⟩
    rw [E_X9_learn_h17]
    have rn := rc.N
    rw [← rn] at e1
    simp [E_X9_learn, zfok, zfv, zfs', ziok, ziv, zpok, zis', zlok, zlv', zls', zbok, zrok, zrv', zrs', zaok, zan, zcok, zcs', zis, zgv, zgh, zcat, zw_1, zw_21, zw_at, zclr_int, zclr_ref, zclr_null, zclr_none, zclr_long, zclr_clr, zbv_0, zbv_1, zbv_ite, zbv_ite', Value.category, xr0, xr1, xr2, xr3, xr4, xr5, xr6, xr7, xr8, xr265, xr266, xr267, xr268, xr269, xr270, xr271, xr272, xr273, xr274, xr275, xr276, xr277, xr278, xr279, xr280, xr281, xr282, xr283, xr284, xr285, xr286, xr287, xr288, xr289, xr290, xr291, xr292, xr293, xr294, xr295, xr296, xr297, xr298, xr299, xr300, xr301, xr302, xv2, xv3, xv4, xv6, xv7, xv266, xv268, xv269, xv270, xv271, xv273, xv274, xv275, xv276, xv277, xv278, xv279, xv280, xv281, xv282, xv283, xv284, xv285, xv286, xv287, xv288, xv289, xv290, xv291, xv292, xv293, xv294, xv295, xv296, xv297, xv298, xv299, xv300, xv301, xv302, znar0, znar1, znarI, zfitb, zfitb1, xC_N_mk, xC_tg_mk, xC_hd_mk, xC_wt_mk, xC_fb_mk, xC_R_mk, xC_G_mk, xC_P_mk, xC_Q_mk, xC_E_mk, xC_kr_mk, xC_ct_mk, xC_tt_mk, xC_A_mk, xC_qs_mk, xC_qx_mk, xC_qy_mk, xC_vs_mk, xC_lo_mk, xC_hg_mk, xC_ab_mk, xC_fo_mk, xC_pk_mk, xC_K_mk, xC_kd_mk, xM_n_mk, xM_tg_mk, xM_hd_mk, xM_wt_mk, xM_fb_mk, xM_kn_mk, xM_mn_mk, xM_rk_mk, xM_rs_mk, xM_rh_mk, xM_E_mk, xM_gn_mk, xM_ks_mk, xM_kt_mk, xM_kh_mk, xM_A_mk, xM_qs_mk, xM_qx_mk, xM_qy_mk, xM_rw_mk, xM_wo_mk, xM_ia_mk, xM_fo_mk, xM_pr_mk, xM_h_mk, xS_N_mk, xS_tg_mk, xS_hd_mk, xS_wt_mk, xS_fb_mk, xS_E_mk, xS_gn_mk, xS_ks_mk, xS_kt_mk, xS_kh_mk, xS_A_mk, xS_qs_mk, xS_qx_mk, xS_qy_mk, xC_eta, xM_eta, xS_eta, e1, e2, zln1]
  | c + 1, p, S, l4, h => by
    have n7 := ok.d.n7
    have e1 : ¬ nI σ.N < nI p := by rw [zlt (by omega) (by omega)]; omega
    have rn := rc.N
    rw [← rn] at e1
    have e2 : nI p + 1 = nI (p + 1) := nI_1 p
    have e3 : (nI p = nI d) ↔ p = d := zeq (by omega) (by omega)
    rw [zln1]
    by_cases q : p = d
    · subst q
      obtain ⟨x3, x4, k1⟩ := l_ln1 ok rc hd1 hd c (p + 1) S l4 (by omega)
      refine ⟨x3, x4, ?_⟩
      rw [E_X9_learn_h17, if_pos rfl]
      simp [E_X9_learn, zfok, zfv, zfs', ziok, ziv, zpok, zis', zlok, zlv', zls', zbok, zrok, zrv', zrs', zaok, zan, zcok, zcs', zis, zgv, zgh, zcat, zw_1, zw_21, zw_at, zclr_int, zclr_ref, zclr_null, zclr_none, zclr_long, zclr_clr, zbv_0, zbv_1, zbv_ite, zbv_ite', Value.category, xr0, xr1, xr2, xr3, xr4, xr5, xr6, xr7, xr8, xr265, xr266, xr267, xr268, xr269, xr270, xr271, xr272, xr273, xr274, xr275, xr276, xr277, xr278, xr279, xr280, xr281, xr282, xr283, xr284, xr285, xr286, xr287, xr288, xr289, xr290, xr291, xr292, xr293, xr294, xr295, xr296, xr297, xr298, xr299, xr300, xr301, xr302, xv2, xv3, xv4, xv6, xv7, xv266, xv268, xv269, xv270, xv271, xv273, xv274, xv275, xv276, xv277, xv278, xv279, xv280, xv281, xv282, xv283, xv284, xv285, xv286, xv287, xv288, xv289, xv290, xv291, xv292, xv293, xv294, xv295, xv296, xv297, xv298, xv299, xv300, xv301, xv302, znar0, znar1, znarI, zfitb, zfitb1, xC_N_mk, xC_tg_mk, xC_hd_mk, xC_wt_mk, xC_fb_mk, xC_R_mk, xC_G_mk, xC_P_mk, xC_Q_mk, xC_E_mk, xC_kr_mk, xC_ct_mk, xC_tt_mk, xC_A_mk, xC_qs_mk, xC_qx_mk, xC_qy_mk, xC_vs_mk, xC_lo_mk, xC_hg_mk, xC_ab_mk, xC_fo_mk, xC_pk_mk, xC_K_mk, xC_kd_mk, xM_n_mk, xM_tg_mk, xM_hd_mk, xM_wt_mk, xM_fb_mk, xM_kn_mk, xM_mn_mk, xM_rk_mk, xM_rs_mk, xM_rh_mk, xM_E_mk, xM_gn_mk, xM_ks_mk, xM_kt_mk, xM_kh_mk, xM_A_mk, xM_qs_mk, xM_qx_mk, xM_qy_mk, xM_rw_mk, xM_wo_mk, xM_ia_mk, xM_fo_mk, xM_pr_mk, xM_h_mk, xS_N_mk, xS_tg_mk, xS_hd_mk, xS_wt_mk, xS_fb_mk, xS_E_mk, xS_gn_mk, xS_ks_mk, xS_kt_mk, xS_kh_mk, xS_A_mk, xS_qs_mk, xS_qx_mk, xS_qy_mk, xC_eta, xM_eta, xS_eta, e1, e2]
      exact k1
    · obtain ⟨x3, x4, k1⟩ := l_ln1 ok rc hd1 hd c (p + 1) (S.1 + zlw σ p d, upd S.2 (8 * d + p) (zlw σ p d)) (some (.int (zlw σ p d))) (by omega)
      refine ⟨x3, x4, ?_⟩
      have e4 : zin (nI p) 8 = true := zin8 (by omega) (by omega)
      have e5 : (nI p).toNatClampNeg = p := zcl7 (by omega)
      have e6 : zin (nI d) 8 = true := zin8 (by omega) (by omega)
      have e7 : (nI d).toNatClampNeg = d := zcl7 (by omega)
      have e8 := zsd_nI (p := p) (d := d) (by omega) (by omega)
      have e9 : zin (nI (8 * d + p)) 64 = true := zin8 (by omega) (by omega)
      have f9 : (nI (8 * d + p)).toNatClampNeg = 8 * d + p := zcl7 (by omega)
      have t10 : σ.tg p ≤ 10 := by
        by_cases w : p = 0
        · rw [w, ok.d.t0]; omega
        · have := ok.d.t9 p (by omega); omega
      have t9 := ok.d.t9 d hd1
      have s1 := zsd_1 p d
      have lw := x_learned (L := L) (s := s) (xs := xs) (M := M) (C := (xC.mk C.N C.tg C.hd S.2 C.fb C.R C.G C.P C.Q C.E C.kr C.ct C.tt C.A C.qs C.qx C.qy C.vs C.lo C.hg C.ab C.fo C.pk C.K C.kd)) ok (a := σ.tg p) (b := σ.tg d) (sd := zsd p d) t10 t9 s1 (rc.tt _ t9) (rc.ct _ _ _ t10 t9 s1)
      rw [show 1000 * (nI (xcn σ (σ.tg p) (σ.tg d) (zsd p d)) + 1) / nI (xtn σ (σ.tg d) + 21) = zlw σ p d from rfl] at lw
      have g1 : C.tg p = nI (σ.tg p) := by rw [rc.tg]
      have g2 : C.tg d = nI (σ.tg d) := by rw [rc.tg]
      have sl := fun h => s_slot (h := h) (p := p) (d := d) (by omega) (by omega)
      rw [E_X9_learn_h17, if_neg q]
      simp [E_X9_learn, zfok, zfv, zfs', ziok, ziv, zpok, zis', zlok, zlv', zls', zbok, zrok, zrv', zrs', zaok, zan, zcok, zcs', zis, zgv, zgh, zcat, zw_1, zw_21, zw_at, zclr_int, zclr_ref, zclr_null, zclr_none, zclr_long, zclr_clr, zbv_0, zbv_1, zbv_ite, zbv_ite', Value.category, xr0, xr1, xr2, xr3, xr4, xr5, xr6, xr7, xr8, xr265, xr266, xr267, xr268, xr269, xr270, xr271, xr272, xr273, xr274, xr275, xr276, xr277, xr278, xr279, xr280, xr281, xr282, xr283, xr284, xr285, xr286, xr287, xr288, xr289, xr290, xr291, xr292, xr293, xr294, xr295, xr296, xr297, xr298, xr299, xr300, xr301, xr302, xv2, xv3, xv4, xv6, xv7, xv266, xv268, xv269, xv270, xv271, xv273, xv274, xv275, xv276, xv277, xv278, xv279, xv280, xv281, xv282, xv283, xv284, xv285, xv286, xv287, xv288, xv289, xv290, xv291, xv292, xv293, xv294, xv295, xv296, xv297, xv298, xv299, xv300, xv301, xv302, znar0, znar1, znarI, zfitb, zfitb1, xC_N_mk, xC_tg_mk, xC_hd_mk, xC_wt_mk, xC_fb_mk, xC_R_mk, xC_G_mk, xC_P_mk, xC_Q_mk, xC_E_mk, xC_kr_mk, xC_ct_mk, xC_tt_mk, xC_A_mk, xC_qs_mk, xC_qx_mk, xC_qy_mk, xC_vs_mk, xC_lo_mk, xC_hg_mk, xC_ab_mk, xC_fo_mk, xC_pk_mk, xC_K_mk, xC_kd_mk, xM_n_mk, xM_tg_mk, xM_hd_mk, xM_wt_mk, xM_fb_mk, xM_kn_mk, xM_mn_mk, xM_rk_mk, xM_rs_mk, xM_rh_mk, xM_E_mk, xM_gn_mk, xM_ks_mk, xM_kt_mk, xM_kh_mk, xM_A_mk, xM_qs_mk, xM_qx_mk, xM_qy_mk, xM_rw_mk, xM_wo_mk, xM_ia_mk, xM_fo_mk, xM_pr_mk, xM_h_mk, xS_N_mk, xS_tg_mk, xS_hd_mk, xS_wt_mk, xS_fb_mk, xS_E_mk, xS_gn_mk, xS_ks_mk, xS_kt_mk, xS_kh_mk, xS_A_mk, xS_qs_mk, xS_qx_mk, xS_qy_mk, xC_eta, xM_eta, xS_eta, e1, e2, e3, q, e4, e5, e6, e7, g1, g2, s_sideOf, e8, lw, sl, e9, f9]
      exact k1
theorem l_ln2 (ok : xOk σ) (rc : xRC σ C) : ∀ (c d : Nat) (S : Int32 × (Nat → Int32)) (l3 l4 : Option Value), c + d = σ.N + 1 → 1 ≤ d → zD 111 4 [some (.ref 1), some (.int S.1), some (.int (nI d)), l3, l4] [] (xW L xs s (xC.mk C.N C.tg C.hd S.2 C.fb C.R C.G C.P C.Q C.E C.kr C.ct C.tt C.A C.qs C.qx C.qy C.vs C.lo C.hg C.ab C.fo C.pk C.K C.kd) M) = some (some (.int (zln2 σ c d S).1), xW L xs s (xC.mk C.N C.tg C.hd ((zln2 σ c d S).2) C.fb C.R C.G C.P C.Q C.E C.kr C.ct C.tt C.A C.qs C.qx C.qy C.vs C.lo C.hg C.ab C.fo C.pk C.K C.kd) M)
  | 0, d, S, l3, l4, h, h1 => by
    have n7 := ok.d.n7
    have e1 : nI σ.N < nI d := by rw [zlt (by omega) (by omega)]; omega
    have rn := rc.N
    rw [← rn] at e1
    rw [E_X9_learn_h4]
    simp [E_X9_learn, zfok, zfv, zfs', ziok, ziv, zpok, zis', zlok, zlv', zls', zbok, zrok, zrv', zrs', zaok, zan, zcok, zcs', zis, zgv, zgh, zcat, zw_1, zw_21, zw_at, zclr_int, zclr_ref, zclr_null, zclr_none, zclr_long, zclr_clr, zbv_0, zbv_1, zbv_ite, zbv_ite', Value.category, xr0, xr1, xr2, xr3, xr4, xr5, xr6, xr7, xr8, xr265, xr266, xr267, xr268, xr269, xr270, xr271, xr272, xr273, xr274, xr275, xr276, xr277, xr278, xr279, xr280, xr281, xr282, xr283, xr284, xr285, xr286, xr287, xr288, xr289, xr290, xr291, xr292, xr293, xr294, xr295, xr296, xr297, xr298, xr299, xr300, xr301, xr302, xv2, xv3, xv4, xv6, xv7, xv266, xv268, xv269, xv270, xv271, xv273, xv274, xv275, xv276, xv277, xv278, xv279, xv280, xv281, xv282, xv283, xv284, xv285, xv286, xv287, xv288, xv289, xv290, xv291, xv292, xv293, xv294, xv295, xv296, xv297, xv298, xv299, xv300, xv301, xv302, znar0, znar1, znarI, zfitb, zfitb1, xC_N_mk, xC_tg_mk, xC_hd_mk, xC_wt_mk, xC_fb_mk, xC_R_mk, xC_G_mk, xC_P_mk, xC_Q_mk, xC_E_mk, xC_kr_mk, xC_ct_mk, xC_tt_mk, xC_A_mk, xC_qs_mk, xC_qx_mk, xC_qy_mk, xC_vs_mk, xC_lo_mk, xC_hg_mk, xC_ab_mk, xC_fo_mk, xC_pk_mk, xC_K_mk, xC_kd_mk, xM_n_mk, xM_tg_mk, xM_hd_mk, xM_wt_mk, xM_fb_mk, xM_kn_mk, xM_mn_mk, xM_rk_mk, xM_rs_mk, xM_rh_mk, xM_E_mk, xM_gn_mk, xM_ks_mk, xM_kt_mk, xM_kh_mk, xM_A_mk, xM_qs_mk, xM_qx_mk, xM_qy_mk, xM_rw_mk, xM_wo_mk, xM_ia_mk, xM_fo_mk, xM_pr_mk, xM_h_mk, xS_N_mk, xS_tg_mk, xS_hd_mk, xS_wt_mk, xS_fb_mk, xS_E_mk, xS_gn_mk, xS_ks_mk, xS_kt_mk, xS_kh_mk, xS_A_mk, xS_qs_mk, xS_qx_mk, xS_qy_mk, xC_eta, xM_eta, xS_eta, e1, zln2]
  | c + 1, d, S, l3, l4, h, h1 => by
    have n7 := ok.d.n7
    have e1 : ¬ nI σ.N < nI d := by rw [zlt (by omega) (by omega)]; omega
    have rn := rc.N
    rw [← rn] at e1
    obtain ⟨x3, x4, k1⟩ := l_ln1 (L := L) (s := s) (xs := xs) (M := M) ok rc h1 (by omega) (σ.N + 1) 0 S l4 (by omega)
    have k2 := l_ln2 ok rc c (d + 1) (zln1 σ d (σ.N + 1) 0 S) x3 x4 (by omega) (by omega)
    rw [nI_0] at k1
    rw [E_X9_learn_h4]
    simp [E_X9_learn, zfok, zfv, zfs', ziok, ziv, zpok, zis', zlok, zlv', zls', zbok, zrok, zrv', zrs', zaok, zan, zcok, zcs', zis, zgv, zgh, zcat, zw_1, zw_21, zw_at, zclr_int, zclr_ref, zclr_null, zclr_none, zclr_long, zclr_clr, zbv_0, zbv_1, zbv_ite, zbv_ite', Value.category, xr0, xr1, xr2, xr3, xr4, xr5, xr6, xr7, xr8, xr265, xr266, xr267, xr268, xr269, xr270, xr271, xr272, xr273, xr274, xr275, xr276, xr277, xr278, xr279, xr280, xr281, xr282, xr283, xr284, xr285, xr286, xr287, xr288, xr289, xr290, xr291, xr292, xr293, xr294, xr295, xr296, xr297, xr298, xr299, xr300, xr301, xr302, xv2, xv3, xv4, xv6, xv7, xv266, xv268, xv269, xv270, xv271, xv273, xv274, xv275, xv276, xv277, xv278, xv279, xv280, xv281, xv282, xv283, xv284, xv285, xv286, xv287, xv288, xv289, xv290, xv291, xv292, xv293, xv294, xv295, xv296, xv297, xv298, xv299, xv300, xv301, xv302, znar0, znar1, znarI, zfitb, zfitb1, xC_N_mk, xC_tg_mk, xC_hd_mk, xC_wt_mk, xC_fb_mk, xC_R_mk, xC_G_mk, xC_P_mk, xC_Q_mk, xC_E_mk, xC_kr_mk, xC_ct_mk, xC_tt_mk, xC_A_mk, xC_qs_mk, xC_qx_mk, xC_qy_mk, xC_vs_mk, xC_lo_mk, xC_hg_mk, xC_ab_mk, xC_fo_mk, xC_pk_mk, xC_K_mk, xC_kd_mk, xM_n_mk, xM_tg_mk, xM_hd_mk, xM_wt_mk, xM_fb_mk, xM_kn_mk, xM_mn_mk, xM_rk_mk, xM_rs_mk, xM_rh_mk, xM_E_mk, xM_gn_mk, xM_ks_mk, xM_kt_mk, xM_kh_mk, xM_A_mk, xM_qs_mk, xM_qx_mk, xM_qy_mk, xM_rw_mk, xM_wo_mk, xM_ia_mk, xM_fo_mk, xM_pr_mk, xM_h_mk, xS_N_mk, xS_tg_mk, xS_hd_mk, xS_wt_mk, xS_fb_mk, xS_E_mk, xS_gn_mk, xS_ks_mk, xS_kt_mk, xS_kh_mk, xS_A_mk, xS_qs_mk, xS_qx_mk, xS_qy_mk, xC_eta, xM_eta, xS_eta, e1]
    rw [k1, k2]
    rfl
theorem zln1_b {σ : xS} {d : Nat} (P : Int32 → Prop) (hP : ∀ p, P (zlw σ p d)) : ∀ (c p : Nat) (S : Int32 × (Nat → Int32)), (∀ k, P (S.2 k)) → ∀ k, P ((zln1 σ d c p S).2 k)
  | 0, p, S, h, k => h k
  | c + 1, p, S, h, k => by
    rw [zln1]
    refine zln1_b P hP c (p + 1) _ (fun k => ?_) k
    split
    · exact h k
    · show P (upd S.2 (8 * d + p) (zlw σ p d) k)
      unfold upd
      split
      · exact hP p
      · exact h k
theorem zln2_b {σ : xS} (P : Int32 → Prop) (hP : ∀ p d, P (zlw σ p d)) : ∀ (c d : Nat) (S : Int32 × (Nat → Int32)), (∀ k, P (S.2 k)) → ∀ k, P ((zln2 σ c d S).2 k)
  | 0, d, S, h, k => h k
  | c + 1, d, S, h, k => by
    rw [zln2]
    exact zln2_b P hP c (d + 1) _ (zln1_b P (fun p => hP p d) _ _ _ h) k
theorem zln1_z {σ : xS} {d k : Nat} (hd : d ≤ 7) (hk : 64 ≤ k) : ∀ (c p : Nat) (S : Int32 × (Nat → Int32)), p + c ≤ 8 → (zln1 σ d c p S).2 k = S.2 k
  | 0, p, S, h => rfl
  | c + 1, p, S, h => by
    rw [zln1, zln1_z hd hk c (p + 1) _ (by omega)]
    split
    · rfl
    · show upd S.2 (8 * d + p) (zlw σ p d) k = _
      unfold upd
      rw [if_neg (by omega)]
theorem zln2_z {σ : xS} {k : Nat} (hN : σ.N ≤ 7) (hk : 64 ≤ k) : ∀ (c d : Nat) (S : Int32 × (Nat → Int32)), d + c ≤ 8 → (zln2 σ c d S).2 k = S.2 k
  | 0, d, S, h => rfl
  | c + 1, d, S, h => by
    rw [zln2, zln2_z hN hk c (d + 1) _ (by omega), zln1_z (by omega) hk _ _ _ (by omega)]
def wok (w : Nat → Int32) : Prop := (∀ k, -1000000 ≤ (w k).toInt ∧ (w k).toInt ≤ 1000000) ∧ ∀ k, 64 ≤ k → w k = 0
theorem ok_w (ok : xOk σ) {w : Nat → Int32} (h : wok w) : xOk (xS.mk σ.N σ.tg σ.hd w σ.fb σ.E σ.gn σ.ks σ.kt σ.kh σ.A σ.qs σ.qx σ.qy) := (xOk.mk ok.d h.1 h.2 ok.f1 ok.fz ok.E20 ok.g1 ok.kd ok.ktr ok.A6 ok.q4)
theorem rm_w (rm : xRM ca σ M) {w : Nat → Int32} : xRM ca (xS.mk σ.N σ.tg σ.hd w σ.fb σ.E σ.gn σ.ks σ.kt σ.kh σ.A σ.qs σ.qx σ.qy) (xM.mk M.n M.tg M.hd w M.fb 0 M.mn M.rk M.rs M.rh M.E M.gn M.ks M.kt M.kh M.A M.qs M.qx M.qy M.rw M.wo M.ia M.fo M.pr M.h) := (xRM.mk rm.N rm.tg rm.hd rfl rm.fb (Or.inl rfl) rm.E rm.k rm.kz rm.A rm.q rm.rw)
theorem wok_1 (ok : xOk σ) {d : Nat} (hd : d ≤ 7) {S : Int32 × (Nat → Int32)} (h : wok S.2) {p : Nat} (hp : p ≤ 7) : wok (upd S.2 (8 * d + p) (zlw σ p d)) := by
  refine ⟨fun k => ?_, fun k hk => ?_⟩
  · unfold upd
    split
    · have := zlw_b ok p d; omega
    · exact h.1 k
  · unfold upd
    rw [if_neg (by omega)]
    exact h.2 k hk
theorem m_cnt (ok : xOk σ) (rm : xRM ca σ M) {w : Nat → Int32} (hw : wok w) {a b sd : Nat} (ha : a < 1000) (hb : b < 1000) (hs : sd < 1000) : zC 34 [.ref 283, .int (nI a), .int (nI b), .int (nI sd)] (xW L xs s C (xM.mk M.n M.tg M.hd w M.fb 0 M.mn M.rk M.rs M.rh M.E M.gn M.ks M.kt M.kh M.A M.qs M.qx M.qy M.rw M.wo M.ia M.fo M.pr M.h)) = some (some (.int (nI (xcn σ a b sd))), xW L xs s C (xM.mk M.n M.tg M.hd w M.fb 0 M.mn M.rk M.rs M.rh M.E M.gn M.ks M.kt M.kh M.A M.qs M.qx M.qy M.rw M.wo M.ia M.fo M.pr M.h)) :=
  m_counted (ok_w ok hw) (rm_w rm) ha hb hs
theorem l_ml3 (ok : xOk σ) (rm : xRM ca σ M) {w : Nat → Int32} (hw : wok w) {d : Nat} (hd1 : 1 ≤ d) (hd : d ≤ σ.N) {sm : Int32} : ∀ (c a m : Nat) (l5 : Option Value), c + a = 11 → zD 83 23 [some (.ref 283), some (.int sm), some (.int (nI d)), some (.int (nI m)), some (.int (nI a)), l5] [] (xW L xs s C (xM.mk M.n M.tg M.hd w M.fb 0 M.mn M.rk M.rs M.rh M.E M.gn M.ks M.kt M.kh M.A M.qs M.qx M.qy M.rw M.wo M.ia M.fo M.pr M.h)) = zD 83 69 [some (.ref 283), some (.int sm), some (.int (nI d)), some (.int (nI (m + asum (fun a sd => xcn σ a (σ.tg d) sd) c a))), some (.int 0), l5] [] (xW L xs s C (xM.mk M.n M.tg M.hd w M.fb 0 M.mn M.rk M.rs M.rh M.E M.gn M.ks M.kt M.kh M.A M.qs M.qx M.qy M.rw M.wo M.ia M.fo M.pr M.h))
  | 0, a, m, l5, h => by
    have e1 : (10 : Int32) < nI a := (zlt (a := 10) (by omega) (by omega)).mpr (by omega)
    rw [E_X10_learn_h23]
    simp [E_X10_learn, zfok, zfv, zfs', ziok, ziv, zpok, zis', zlok, zlv', zls', zbok, zrok, zrv', zrs', zaok, zan, zcok, zcs', zis, zgv, zgh, zcat, zw_1, zw_21, zw_at, zclr_int, zclr_ref, zclr_null, zclr_none, zclr_long, zclr_clr, zbv_0, zbv_1, zbv_ite, zbv_ite', Value.category, xr0, xr1, xr2, xr3, xr4, xr5, xr6, xr7, xr8, xr265, xr266, xr267, xr268, xr269, xr270, xr271, xr272, xr273, xr274, xr275, xr276, xr277, xr278, xr279, xr280, xr281, xr282, xr283, xr284, xr285, xr286, xr287, xr288, xr289, xr290, xr291, xr292, xr293, xr294, xr295, xr296, xr297, xr298, xr299, xr300, xr301, xr302, xv2, xv3, xv4, xv6, xv7, xv266, xv268, xv269, xv270, xv271, xv273, xv274, xv275, xv276, xv277, xv278, xv279, xv280, xv281, xv282, xv283, xv284, xv285, xv286, xv287, xv288, xv289, xv290, xv291, xv292, xv293, xv294, xv295, xv296, xv297, xv298, xv299, xv300, xv301, xv302, znar0, znar1, znarI, zfitb, zfitb1, xC_N_mk, xC_tg_mk, xC_hd_mk, xC_wt_mk, xC_fb_mk, xC_R_mk, xC_G_mk, xC_P_mk, xC_Q_mk, xC_E_mk, xC_kr_mk, xC_ct_mk, xC_tt_mk, xC_A_mk, xC_qs_mk, xC_qx_mk, xC_qy_mk, xC_vs_mk, xC_lo_mk, xC_hg_mk, xC_ab_mk, xC_fo_mk, xC_pk_mk, xC_K_mk, xC_kd_mk, xM_n_mk, xM_tg_mk, xM_hd_mk, xM_wt_mk, xM_fb_mk, xM_kn_mk, xM_mn_mk, xM_rk_mk, xM_rs_mk, xM_rh_mk, xM_E_mk, xM_gn_mk, xM_ks_mk, xM_kt_mk, xM_kh_mk, xM_A_mk, xM_qs_mk, xM_qx_mk, xM_qy_mk, xM_rw_mk, xM_wo_mk, xM_ia_mk, xM_fo_mk, xM_pr_mk, xM_h_mk, xS_N_mk, xS_tg_mk, xS_hd_mk, xS_wt_mk, xS_fb_mk, xS_E_mk, xS_gn_mk, xS_ks_mk, xS_kt_mk, xS_kh_mk, xS_A_mk, xS_qs_mk, xS_qx_mk, xS_qy_mk, xC_eta, xM_eta, xS_eta, e1, asum]
  | c + 1, a, m, l5, h => by
    have n7 := ok.d.n7
    have e1 : ¬ (10 : Int32) < nI a := fun z => absurd ((zlt (a := 10) (by omega) (by omega)).mp z) (by omega)
    have e2 : nI a + 1 = nI (a + 1) := nI_1 a
    have e6 : zin (nI d) 8 = true := zin8 (by omega) (by omega)
    have e7 : (nI d).toNatClampNeg = d := zcl7 (by omega)
    have g2 : M.tg d = nI (σ.tg d) := by rw [rm.tg]; show (if d = 0 then 0 else nI (σ.tg d)) = _; rw [if_neg (by omega)]
    have t9 := ok.d.t9 d hd1
    have c0 := m_cnt (L := L) (s := s) (xs := xs) (C := C) ok rm hw (a := a) (b := σ.tg d) (sd := 0) (by omega) (by omega) (by omega)
    have c1 := m_cnt (L := L) (s := s) (xs := xs) (C := C) ok rm hw (a := a) (b := σ.tg d) (sd := 1) (by omega) (by omega) (by omega)
    rw [nI_0] at c0
    rw [show nI 1 = 1 from rfl] at c1
    have k1 := l_ml3 ok rm hw hd1 hd (sm := sm) c (a + 1) (m + (xcn σ a (σ.tg d) 0 + xcn σ a (σ.tg d) 1)) l5 (by omega)
    have e8 : nI m + (nI (xcn σ a (σ.tg d) 0) + nI (xcn σ a (σ.tg d) 1)) = nI (m + (xcn σ a (σ.tg d) 0 + xcn σ a (σ.tg d) 1)) := by rw [nI_add, nI_add]
    rw [E_X10_learn_h23, asum]
    simp [E_X10_learn, zfok, zfv, zfs', ziok, ziv, zpok, zis', zlok, zlv', zls', zbok, zrok, zrv', zrs', zaok, zan, zcok, zcs', zis, zgv, zgh, zcat, zw_1, zw_21, zw_at, zclr_int, zclr_ref, zclr_null, zclr_none, zclr_long, zclr_clr, zbv_0, zbv_1, zbv_ite, zbv_ite', Value.category, xr0, xr1, xr2, xr3, xr4, xr5, xr6, xr7, xr8, xr265, xr266, xr267, xr268, xr269, xr270, xr271, xr272, xr273, xr274, xr275, xr276, xr277, xr278, xr279, xr280, xr281, xr282, xr283, xr284, xr285, xr286, xr287, xr288, xr289, xr290, xr291, xr292, xr293, xr294, xr295, xr296, xr297, xr298, xr299, xr300, xr301, xr302, xv2, xv3, xv4, xv6, xv7, xv266, xv268, xv269, xv270, xv271, xv273, xv274, xv275, xv276, xv277, xv278, xv279, xv280, xv281, xv282, xv283, xv284, xv285, xv286, xv287, xv288, xv289, xv290, xv291, xv292, xv293, xv294, xv295, xv296, xv297, xv298, xv299, xv300, xv301, xv302, znar0, znar1, znarI, zfitb, zfitb1, xC_N_mk, xC_tg_mk, xC_hd_mk, xC_wt_mk, xC_fb_mk, xC_R_mk, xC_G_mk, xC_P_mk, xC_Q_mk, xC_E_mk, xC_kr_mk, xC_ct_mk, xC_tt_mk, xC_A_mk, xC_qs_mk, xC_qx_mk, xC_qy_mk, xC_vs_mk, xC_lo_mk, xC_hg_mk, xC_ab_mk, xC_fo_mk, xC_pk_mk, xC_K_mk, xC_kd_mk, xM_n_mk, xM_tg_mk, xM_hd_mk, xM_wt_mk, xM_fb_mk, xM_kn_mk, xM_mn_mk, xM_rk_mk, xM_rs_mk, xM_rh_mk, xM_E_mk, xM_gn_mk, xM_ks_mk, xM_kt_mk, xM_kh_mk, xM_A_mk, xM_qs_mk, xM_qx_mk, xM_qy_mk, xM_rw_mk, xM_wo_mk, xM_ia_mk, xM_fo_mk, xM_pr_mk, xM_h_mk, xS_N_mk, xS_tg_mk, xS_hd_mk, xS_wt_mk, xS_fb_mk, xS_E_mk, xS_gn_mk, xS_ks_mk, xS_kt_mk, xS_kh_mk, xS_A_mk, xS_qs_mk, xS_qx_mk, xS_qy_mk, xC_eta, xM_eta, xS_eta, e1, e2, e6, e7, g2, c0, c1, e8]
    rw [k1, Nat.add_assoc]
theorem l_ml1 (ok : xOk σ) (rm : xRM ca σ M) {d : Nat} (hd1 : 1 ≤ d) (hd : d ≤ σ.N) : ∀ (c p : Nat) (S : Int32 × (Nat → Int32)) (l5 : Option Value), c + p = σ.N + 1 → wok S.2 → ∃ l3' l4' l5', zD 83 69 [some (.ref 283), some (.int S.1), some (.int (nI d)), some (.int (nI (xtn σ (σ.tg d) + 21))), some (.int (nI p)), l5] [] (xW L xs s C (xM.mk M.n M.tg M.hd S.2 M.fb 0 M.mn M.rk M.rs M.rh M.E M.gn M.ks M.kt M.kh M.A M.qs M.qx M.qy M.rw M.wo M.ia M.fo M.pr M.h)) = zD 83 9 [some (.ref 283), some (.int (zln1 σ d c p S).1), some (.int (nI (d + 1))), l3', l4', l5'] [] (xW L xs s C (xM.mk M.n M.tg M.hd ((zln1 σ d c p S).2) M.fb 0 M.mn M.rk M.rs M.rh M.E M.gn M.ks M.kt M.kh M.A M.qs M.qx M.qy M.rw M.wo M.ia M.fo M.pr M.h)) ∧ wok (zln1 σ d c p S).2
  | 0, p, S, l5, h, hw => by
    have n7 := ok.d.n7
    have e1 : nI σ.N < nI p := by rw [zlt (by omega) (by omega)]; omega
    have e2 : nI d + 1 = nI (d + 1) := nI_1 d
    refine ⟨some (.int (nI (xtn σ (σ.tg d) + 21))), some (.int (nI p)), l5, ?_, hw⟩
    rw [E_X10_learn_h69]
    have rn := rm.N
    rw [← rn] at e1
    simp [E_X10_learn, zfok, zfv, zfs', ziok, ziv, zpok, zis', zlok, zlv', zls', zbok, zrok, zrv', zrs', zaok, zan, zcok, zcs', zis, zgv, zgh, zcat, zw_1, zw_21, zw_at, zclr_int, zclr_ref, zclr_null, zclr_none, zclr_long, zclr_clr, zbv_0, zbv_1, zbv_ite, zbv_ite', Value.category, xr0, xr1, xr2, xr3, xr4, xr5, xr6, xr7, xr8, xr265, xr266, xr267, xr268, xr269, xr270, xr271, xr272, xr273, xr274, xr275, xr276, xr277, xr278, xr279, xr280, xr281, xr282, xr283, xr284, xr285, xr286, xr287, xr288, xr289, xr290, xr291, xr292, xr293, xr294, xr295, xr296, xr297, xr298, xr299, xr300, xr301, xr302, xv2, xv3, xv4, xv6, xv7, xv266, xv268, xv269, xv270, xv271, xv273, xv274, xv275, xv276, xv277, xv278, xv279, xv280, xv281, xv282, xv283, xv284, xv285, xv286, xv287, xv288, xv289, xv290, xv291, xv292, xv293, xv294, xv295, xv296, xv297, xv298, xv299, xv300, xv301, xv302, znar0, znar1, znarI, zfitb, zfitb1, xC_N_mk, xC_tg_mk, xC_hd_mk, xC_wt_mk, xC_fb_mk, xC_R_mk, xC_G_mk, xC_P_mk, xC_Q_mk, xC_E_mk, xC_kr_mk, xC_ct_mk, xC_tt_mk, xC_A_mk, xC_qs_mk, xC_qx_mk, xC_qy_mk, xC_vs_mk, xC_lo_mk, xC_hg_mk, xC_ab_mk, xC_fo_mk, xC_pk_mk, xC_K_mk, xC_kd_mk, xM_n_mk, xM_tg_mk, xM_hd_mk, xM_wt_mk, xM_fb_mk, xM_kn_mk, xM_mn_mk, xM_rk_mk, xM_rs_mk, xM_rh_mk, xM_E_mk, xM_gn_mk, xM_ks_mk, xM_kt_mk, xM_kh_mk, xM_A_mk, xM_qs_mk, xM_qx_mk, xM_qy_mk, xM_rw_mk, xM_wo_mk, xM_ia_mk, xM_fo_mk, xM_pr_mk, xM_h_mk, xS_N_mk, xS_tg_mk, xS_hd_mk, xS_wt_mk, xS_fb_mk, xS_E_mk, xS_gn_mk, xS_ks_mk, xS_kt_mk, xS_kh_mk, xS_A_mk, xS_qs_mk, xS_qx_mk, xS_qy_mk, xC_eta, xM_eta, xS_eta, e1, e2, zln1]
  | c + 1, p, S, l5, h, hw => by
    have n7 := ok.d.n7
    have e1 : ¬ nI σ.N < nI p := by rw [zlt (by omega) (by omega)]; omega
    have rn := rm.N
    rw [← rn] at e1
    have e2 : nI p + 1 = nI (p + 1) := nI_1 p
    have e3 : (nI p = nI d) ↔ p = d := zeq (by omega) (by omega)
    rw [zln1]
    by_cases q : p = d
    · subst q
      obtain ⟨x3, x4, x5, k1, k2⟩ := l_ml1 ok rm hd1 hd c (p + 1) S l5 (by omega) hw
      refine ⟨x3, x4, x5, ?_, by rw [if_pos rfl]; exact k2⟩
      rw [E_X10_learn_h69, if_pos rfl]
      simp [E_X10_learn, zfok, zfv, zfs', ziok, ziv, zpok, zis', zlok, zlv', zls', zbok, zrok, zrv', zrs', zaok, zan, zcok, zcs', zis, zgv, zgh, zcat, zw_1, zw_21, zw_at, zclr_int, zclr_ref, zclr_null, zclr_none, zclr_long, zclr_clr, zbv_0, zbv_1, zbv_ite, zbv_ite', Value.category, xr0, xr1, xr2, xr3, xr4, xr5, xr6, xr7, xr8, xr265, xr266, xr267, xr268, xr269, xr270, xr271, xr272, xr273, xr274, xr275, xr276, xr277, xr278, xr279, xr280, xr281, xr282, xr283, xr284, xr285, xr286, xr287, xr288, xr289, xr290, xr291, xr292, xr293, xr294, xr295, xr296, xr297, xr298, xr299, xr300, xr301, xr302, xv2, xv3, xv4, xv6, xv7, xv266, xv268, xv269, xv270, xv271, xv273, xv274, xv275, xv276, xv277, xv278, xv279, xv280, xv281, xv282, xv283, xv284, xv285, xv286, xv287, xv288, xv289, xv290, xv291, xv292, xv293, xv294, xv295, xv296, xv297, xv298, xv299, xv300, xv301, xv302, znar0, znar1, znarI, zfitb, zfitb1, xC_N_mk, xC_tg_mk, xC_hd_mk, xC_wt_mk, xC_fb_mk, xC_R_mk, xC_G_mk, xC_P_mk, xC_Q_mk, xC_E_mk, xC_kr_mk, xC_ct_mk, xC_tt_mk, xC_A_mk, xC_qs_mk, xC_qx_mk, xC_qy_mk, xC_vs_mk, xC_lo_mk, xC_hg_mk, xC_ab_mk, xC_fo_mk, xC_pk_mk, xC_K_mk, xC_kd_mk, xM_n_mk, xM_tg_mk, xM_hd_mk, xM_wt_mk, xM_fb_mk, xM_kn_mk, xM_mn_mk, xM_rk_mk, xM_rs_mk, xM_rh_mk, xM_E_mk, xM_gn_mk, xM_ks_mk, xM_kt_mk, xM_kh_mk, xM_A_mk, xM_qs_mk, xM_qx_mk, xM_qy_mk, xM_rw_mk, xM_wo_mk, xM_ia_mk, xM_fo_mk, xM_pr_mk, xM_h_mk, xS_N_mk, xS_tg_mk, xS_hd_mk, xS_wt_mk, xS_fb_mk, xS_E_mk, xS_gn_mk, xS_ks_mk, xS_kt_mk, xS_kh_mk, xS_A_mk, xS_qs_mk, xS_qx_mk, xS_qy_mk, xC_eta, xM_eta, xS_eta, e1, e2]
      exact k1
    · have hw' : wok (upd S.2 (8 * d + p) (zlw σ p d)) := wok_1 ok (by omega) hw (by omega)
      obtain ⟨x3, x4, x5, k1, k2⟩ := l_ml1 ok rm hd1 hd c (p + 1) (S.1 + zlw σ p d, upd S.2 (8 * d + p) (zlw σ p d)) (some (.int (zlw σ p d))) (by omega) hw'
      refine ⟨x3, x4, x5, ?_, by rw [if_neg q]; exact k2⟩
      have e4 : zin (nI p) 8 = true := zin8 (by omega) (by omega)
      have e5 : (nI p).toNatClampNeg = p := zcl7 (by omega)
      have e6 : zin (nI d) 8 = true := zin8 (by omega) (by omega)
      have e7 : (nI d).toNatClampNeg = d := zcl7 (by omega)
      have e9 : zin (nI (8 * d + p)) 64 = true := zin8 (by omega) (by omega)
      have f9 : (nI (8 * d + p)).toNatClampNeg = 8 * d + p := zcl7 (by omega)
      have t := x_tn140 ok (σ.tg d)
      have f5 : ¬ nI (xtn σ (σ.tg d) + 21) = 0 := fun z => absurd ((zeq (b := 0) (by omega) (by omega)).mp z) (by omega)
      have t10 : σ.tg p ≤ 10 := by
        by_cases w : p = 0
        · rw [w, ok.d.t0]; omega
        · have := ok.d.t9 p (by omega); omega
      have t9 := ok.d.t9 d hd1
      have s1 := zsd_1 p d
      have g2 : M.tg d = nI (σ.tg d) := by rw [rm.tg]; show (if d = 0 then 0 else nI (σ.tg d)) = _; rw [if_neg (by omega)]
      have lw := m_cnt (L := L) (s := s) (xs := xs) (C := C) ok rm hw (a := σ.tg p) (b := σ.tg d) (sd := zsd p d) (by omega) (by omega) (by omega)
      have zl : 1000 * (nI (xcn σ (σ.tg p) (σ.tg d) (zsd p d)) + 1) / nI (xtn σ (σ.tg d) + 21) = zlw σ p d := rfl
      have q0 : (nI d ≤ nI p) ↔ d ≤ p := zle (by omega) (by omega)
      rw [E_X10_learn_h69, if_neg q]
      by_cases w : p = 0
      · subst w
        have q2 : ¬ nI d ≤ 0 := fun z => absurd (q0.mp z) (by omega)
        have s0 : zsd 0 d = 0 := by unfold zsd; rw [if_pos (by omega)]
        rw [s0, ok.d.t0, nI_0, show nI 10 = 10 from rfl] at lw
        rw [s0, ok.d.t0] at zl
        rw [nI_0] at e1 e2 e3
        rw [Nat.add_zero] at e9 f9
        have z8' : 8 * nI d + 0 = nI (8 * d) := z8 d 0
        simp only [Nat.add_zero] at k1
        have q' : ¬ 0 = d := q
        simp only [q', iff_false] at e3
        simp [E_X10_learn, zfok, zfv, zfs', ziok, ziv, zpok, zis', zlok, zlv', zls', zbok, zrok, zrv', zrs', zaok, zan, zcok, zcs', zis, zgv, zgh, zcat, zw_1, zw_21, zw_at, zclr_int, zclr_ref, zclr_null, zclr_none, zclr_long, zclr_clr, zbv_0, zbv_1, zbv_ite, zbv_ite', Value.category, xr0, xr1, xr2, xr3, xr4, xr5, xr6, xr7, xr8, xr265, xr266, xr267, xr268, xr269, xr270, xr271, xr272, xr273, xr274, xr275, xr276, xr277, xr278, xr279, xr280, xr281, xr282, xr283, xr284, xr285, xr286, xr287, xr288, xr289, xr290, xr291, xr292, xr293, xr294, xr295, xr296, xr297, xr298, xr299, xr300, xr301, xr302, xv2, xv3, xv4, xv6, xv7, xv266, xv268, xv269, xv270, xv271, xv273, xv274, xv275, xv276, xv277, xv278, xv279, xv280, xv281, xv282, xv283, xv284, xv285, xv286, xv287, xv288, xv289, xv290, xv291, xv292, xv293, xv294, xv295, xv296, xv297, xv298, xv299, xv300, xv301, xv302, znar0, znar1, znarI, zfitb, zfitb1, xC_N_mk, xC_tg_mk, xC_hd_mk, xC_wt_mk, xC_fb_mk, xC_R_mk, xC_G_mk, xC_P_mk, xC_Q_mk, xC_E_mk, xC_kr_mk, xC_ct_mk, xC_tt_mk, xC_A_mk, xC_qs_mk, xC_qx_mk, xC_qy_mk, xC_vs_mk, xC_lo_mk, xC_hg_mk, xC_ab_mk, xC_fo_mk, xC_pk_mk, xC_K_mk, xC_kd_mk, xM_n_mk, xM_tg_mk, xM_hd_mk, xM_wt_mk, xM_fb_mk, xM_kn_mk, xM_mn_mk, xM_rk_mk, xM_rs_mk, xM_rh_mk, xM_E_mk, xM_gn_mk, xM_ks_mk, xM_kt_mk, xM_kh_mk, xM_A_mk, xM_qs_mk, xM_qx_mk, xM_qy_mk, xM_rw_mk, xM_wo_mk, xM_ia_mk, xM_fo_mk, xM_pr_mk, xM_h_mk, xS_N_mk, xS_tg_mk, xS_hd_mk, xS_wt_mk, xS_fb_mk, xS_E_mk, xS_gn_mk, xS_ks_mk, xS_kt_mk, xS_kh_mk, xS_A_mk, xS_qs_mk, xS_qx_mk, xS_qy_mk, xC_eta, xM_eta, xS_eta, e1, e2, e3, e6, e7, g2, q2, lw, f5, zl, e9, f9, z8', nI_0]
        exact k1
      · have w' : ¬ nI p = 0 := fun y => w ((zeq (b := 0) (by omega) (by omega)).mp y)
        have g1 : M.tg p = nI (σ.tg p) := by rw [rm.tg]; show (if p = 0 then 0 else nI (σ.tg p)) = _; rw [if_neg w]
        by_cases q1 : p < d
        · have q2 : ¬ nI d ≤ nI p := fun z => absurd (q0.mp z) (by omega)
          have s0 : zsd p d = 0 := by unfold zsd; rw [if_pos q1]
          rw [s0, nI_0] at lw
          rw [s0] at zl
          simp [E_X10_learn, zfok, zfv, zfs', ziok, ziv, zpok, zis', zlok, zlv', zls', zbok, zrok, zrv', zrs', zaok, zan, zcok, zcs', zis, zgv, zgh, zcat, zw_1, zw_21, zw_at, zclr_int, zclr_ref, zclr_null, zclr_none, zclr_long, zclr_clr, zbv_0, zbv_1, zbv_ite, zbv_ite', Value.category, xr0, xr1, xr2, xr3, xr4, xr5, xr6, xr7, xr8, xr265, xr266, xr267, xr268, xr269, xr270, xr271, xr272, xr273, xr274, xr275, xr276, xr277, xr278, xr279, xr280, xr281, xr282, xr283, xr284, xr285, xr286, xr287, xr288, xr289, xr290, xr291, xr292, xr293, xr294, xr295, xr296, xr297, xr298, xr299, xr300, xr301, xr302, xv2, xv3, xv4, xv6, xv7, xv266, xv268, xv269, xv270, xv271, xv273, xv274, xv275, xv276, xv277, xv278, xv279, xv280, xv281, xv282, xv283, xv284, xv285, xv286, xv287, xv288, xv289, xv290, xv291, xv292, xv293, xv294, xv295, xv296, xv297, xv298, xv299, xv300, xv301, xv302, znar0, znar1, znarI, zfitb, zfitb1, xC_N_mk, xC_tg_mk, xC_hd_mk, xC_wt_mk, xC_fb_mk, xC_R_mk, xC_G_mk, xC_P_mk, xC_Q_mk, xC_E_mk, xC_kr_mk, xC_ct_mk, xC_tt_mk, xC_A_mk, xC_qs_mk, xC_qx_mk, xC_qy_mk, xC_vs_mk, xC_lo_mk, xC_hg_mk, xC_ab_mk, xC_fo_mk, xC_pk_mk, xC_K_mk, xC_kd_mk, xM_n_mk, xM_tg_mk, xM_hd_mk, xM_wt_mk, xM_fb_mk, xM_kn_mk, xM_mn_mk, xM_rk_mk, xM_rs_mk, xM_rh_mk, xM_E_mk, xM_gn_mk, xM_ks_mk, xM_kt_mk, xM_kh_mk, xM_A_mk, xM_qs_mk, xM_qx_mk, xM_qy_mk, xM_rw_mk, xM_wo_mk, xM_ia_mk, xM_fo_mk, xM_pr_mk, xM_h_mk, xS_N_mk, xS_tg_mk, xS_hd_mk, xS_wt_mk, xS_fb_mk, xS_E_mk, xS_gn_mk, xS_ks_mk, xS_kt_mk, xS_kh_mk, xS_A_mk, xS_qs_mk, xS_qx_mk, xS_qy_mk, xC_eta, xM_eta, xS_eta, e1, e2, e3, q, e4, e5, e6, e7, g1, g2, w', q2, lw, f5, zl, e9, f9, z8]
          exact k1
        · have q2 : nI d ≤ nI p := q0.mpr (by omega)
          have s0 : zsd p d = 1 := by unfold zsd; rw [if_neg q1]
          rw [s0, show nI 1 = 1 from rfl] at lw
          rw [s0] at zl
          simp [E_X10_learn, zfok, zfv, zfs', ziok, ziv, zpok, zis', zlok, zlv', zls', zbok, zrok, zrv', zrs', zaok, zan, zcok, zcs', zis, zgv, zgh, zcat, zw_1, zw_21, zw_at, zclr_int, zclr_ref, zclr_null, zclr_none, zclr_long, zclr_clr, zbv_0, zbv_1, zbv_ite, zbv_ite', Value.category, xr0, xr1, xr2, xr3, xr4, xr5, xr6, xr7, xr8, xr265, xr266, xr267, xr268, xr269, xr270, xr271, xr272, xr273, xr274, xr275, xr276, xr277, xr278, xr279, xr280, xr281, xr282, xr283, xr284, xr285, xr286, xr287, xr288, xr289, xr290, xr291, xr292, xr293, xr294, xr295, xr296, xr297, xr298, xr299, xr300, xr301, xr302, xv2, xv3, xv4, xv6, xv7, xv266, xv268, xv269, xv270, xv271, xv273, xv274, xv275, xv276, xv277, xv278, xv279, xv280, xv281, xv282, xv283, xv284, xv285, xv286, xv287, xv288, xv289, xv290, xv291, xv292, xv293, xv294, xv295, xv296, xv297, xv298, xv299, xv300, xv301, xv302, znar0, znar1, znarI, zfitb, zfitb1, xC_N_mk, xC_tg_mk, xC_hd_mk, xC_wt_mk, xC_fb_mk, xC_R_mk, xC_G_mk, xC_P_mk, xC_Q_mk, xC_E_mk, xC_kr_mk, xC_ct_mk, xC_tt_mk, xC_A_mk, xC_qs_mk, xC_qx_mk, xC_qy_mk, xC_vs_mk, xC_lo_mk, xC_hg_mk, xC_ab_mk, xC_fo_mk, xC_pk_mk, xC_K_mk, xC_kd_mk, xM_n_mk, xM_tg_mk, xM_hd_mk, xM_wt_mk, xM_fb_mk, xM_kn_mk, xM_mn_mk, xM_rk_mk, xM_rs_mk, xM_rh_mk, xM_E_mk, xM_gn_mk, xM_ks_mk, xM_kt_mk, xM_kh_mk, xM_A_mk, xM_qs_mk, xM_qx_mk, xM_qy_mk, xM_rw_mk, xM_wo_mk, xM_ia_mk, xM_fo_mk, xM_pr_mk, xM_h_mk, xS_N_mk, xS_tg_mk, xS_hd_mk, xS_wt_mk, xS_fb_mk, xS_E_mk, xS_gn_mk, xS_ks_mk, xS_kt_mk, xS_kh_mk, xS_A_mk, xS_qs_mk, xS_qx_mk, xS_qy_mk, xC_eta, xM_eta, xS_eta, e1, e2, e3, q, e4, e5, e6, e7, g1, g2, w', q2, lw, f5, zl, e9, f9, z8]
          exact k1
theorem l_ml2 (ok : xOk σ) (rm : xRM ca σ M) : ∀ (c d : Nat) (S : Int32 × (Nat → Int32)) (l3 l4 l5 : Option Value), c + d = σ.N + 1 → 1 ≤ d → wok S.2 → zD 83 9 [some (.ref 283), some (.int S.1), some (.int (nI d)), l3, l4, l5] [] (xW L xs s C (xM.mk M.n M.tg M.hd S.2 M.fb 0 M.mn M.rk M.rs M.rh M.E M.gn M.ks M.kt M.kh M.A M.qs M.qx M.qy M.rw M.wo M.ia M.fo M.pr M.h)) = some (some (.int (zln2 σ c d S).1), xW L xs s C (xM.mk M.n M.tg M.hd ((zln2 σ c d S).2) M.fb 0 M.mn M.rk M.rs M.rh M.E M.gn M.ks M.kt M.kh M.A M.qs M.qx M.qy M.rw M.wo M.ia M.fo M.pr M.h)) ∧ wok (zln2 σ c d S).2
  | 0, d, S, l3, l4, l5, h, h1, hw => by
    have n7 := ok.d.n7
    have e1 : nI σ.N < nI d := by rw [zlt (by omega) (by omega)]; omega
    have rn := rm.N
    rw [← rn] at e1
    rw [E_X10_learn_h9]
    refine ⟨?_, hw⟩
    simp [E_X10_learn, zfok, zfv, zfs', ziok, ziv, zpok, zis', zlok, zlv', zls', zbok, zrok, zrv', zrs', zaok, zan, zcok, zcs', zis, zgv, zgh, zcat, zw_1, zw_21, zw_at, zclr_int, zclr_ref, zclr_null, zclr_none, zclr_long, zclr_clr, zbv_0, zbv_1, zbv_ite, zbv_ite', Value.category, xr0, xr1, xr2, xr3, xr4, xr5, xr6, xr7, xr8, xr265, xr266, xr267, xr268, xr269, xr270, xr271, xr272, xr273, xr274, xr275, xr276, xr277, xr278, xr279, xr280, xr281, xr282, xr283, xr284, xr285, xr286, xr287, xr288, xr289, xr290, xr291, xr292, xr293, xr294, xr295, xr296, xr297, xr298, xr299, xr300, xr301, xr302, xv2, xv3, xv4, xv6, xv7, xv266, xv268, xv269, xv270, xv271, xv273, xv274, xv275, xv276, xv277, xv278, xv279, xv280, xv281, xv282, xv283, xv284, xv285, xv286, xv287, xv288, xv289, xv290, xv291, xv292, xv293, xv294, xv295, xv296, xv297, xv298, xv299, xv300, xv301, xv302, znar0, znar1, znarI, zfitb, zfitb1, xC_N_mk, xC_tg_mk, xC_hd_mk, xC_wt_mk, xC_fb_mk, xC_R_mk, xC_G_mk, xC_P_mk, xC_Q_mk, xC_E_mk, xC_kr_mk, xC_ct_mk, xC_tt_mk, xC_A_mk, xC_qs_mk, xC_qx_mk, xC_qy_mk, xC_vs_mk, xC_lo_mk, xC_hg_mk, xC_ab_mk, xC_fo_mk, xC_pk_mk, xC_K_mk, xC_kd_mk, xM_n_mk, xM_tg_mk, xM_hd_mk, xM_wt_mk, xM_fb_mk, xM_kn_mk, xM_mn_mk, xM_rk_mk, xM_rs_mk, xM_rh_mk, xM_E_mk, xM_gn_mk, xM_ks_mk, xM_kt_mk, xM_kh_mk, xM_A_mk, xM_qs_mk, xM_qx_mk, xM_qy_mk, xM_rw_mk, xM_wo_mk, xM_ia_mk, xM_fo_mk, xM_pr_mk, xM_h_mk, xS_N_mk, xS_tg_mk, xS_hd_mk, xS_wt_mk, xS_fb_mk, xS_E_mk, xS_gn_mk, xS_ks_mk, xS_kt_mk, xS_kh_mk, xS_A_mk, xS_qs_mk, xS_qx_mk, xS_qy_mk, xC_eta, xM_eta, xS_eta, e1, zln2]
  | c + 1, d, S, l3, l4, l5, h, h1, hw => by
    have n7 := ok.d.n7
    have e1 : ¬ nI σ.N < nI d := by rw [zlt (by omega) (by omega)]; omega
    have rn := rm.N
    rw [← rn] at e1
    have k0 := l_ml3 (L := L) (s := s) (xs := xs) (C := C) ok rm hw h1 (by omega) (sm := S.1) 11 0 21 l5 (by omega)
    rw [x_tot ok, nI_0, show nI 21 = 21 from rfl, Nat.add_comm 21] at k0
    obtain ⟨x3, x4, x5, k1, w1⟩ := l_ml1 (L := L) (s := s) (xs := xs) (C := C) ok rm h1 (by omega) (σ.N + 1) 0 S l5 (by omega) hw
    obtain ⟨k2, w2⟩ := l_ml2 ok rm c (d + 1) (zln1 σ d (σ.N + 1) 0 S) x3 x4 x5 (by omega) (by omega) w1
    rw [nI_0] at k1
    rw [E_X10_learn_h9]
    refine ⟨?_, w2⟩
    simp [E_X10_learn, zfok, zfv, zfs', ziok, ziv, zpok, zis', zlok, zlv', zls', zbok, zrok, zrv', zrs', zaok, zan, zcok, zcs', zis, zgv, zgh, zcat, zw_1, zw_21, zw_at, zclr_int, zclr_ref, zclr_null, zclr_none, zclr_long, zclr_clr, zbv_0, zbv_1, zbv_ite, zbv_ite', Value.category, xr0, xr1, xr2, xr3, xr4, xr5, xr6, xr7, xr8, xr265, xr266, xr267, xr268, xr269, xr270, xr271, xr272, xr273, xr274, xr275, xr276, xr277, xr278, xr279, xr280, xr281, xr282, xr283, xr284, xr285, xr286, xr287, xr288, xr289, xr290, xr291, xr292, xr293, xr294, xr295, xr296, xr297, xr298, xr299, xr300, xr301, xr302, xv2, xv3, xv4, xv6, xv7, xv266, xv268, xv269, xv270, xv271, xv273, xv274, xv275, xv276, xv277, xv278, xv279, xv280, xv281, xv282, xv283, xv284, xv285, xv286, xv287, xv288, xv289, xv290, xv291, xv292, xv293, xv294, xv295, xv296, xv297, xv298, xv299, xv300, xv301, xv302, znar0, znar1, znarI, zfitb, zfitb1, xC_N_mk, xC_tg_mk, xC_hd_mk, xC_wt_mk, xC_fb_mk, xC_R_mk, xC_G_mk, xC_P_mk, xC_Q_mk, xC_E_mk, xC_kr_mk, xC_ct_mk, xC_tt_mk, xC_A_mk, xC_qs_mk, xC_qx_mk, xC_qy_mk, xC_vs_mk, xC_lo_mk, xC_hg_mk, xC_ab_mk, xC_fo_mk, xC_pk_mk, xC_K_mk, xC_kd_mk, xM_n_mk, xM_tg_mk, xM_hd_mk, xM_wt_mk, xM_fb_mk, xM_kn_mk, xM_mn_mk, xM_rk_mk, xM_rs_mk, xM_rh_mk, xM_E_mk, xM_gn_mk, xM_ks_mk, xM_kt_mk, xM_kh_mk, xM_A_mk, xM_qs_mk, xM_qx_mk, xM_qy_mk, xM_rw_mk, xM_wo_mk, xM_ia_mk, xM_fo_mk, xM_pr_mk, xM_h_mk, xS_N_mk, xS_tg_mk, xS_hd_mk, xS_wt_mk, xS_fb_mk, xS_E_mk, xS_gn_mk, xS_ks_mk, xS_kt_mk, xS_kh_mk, xS_A_mk, xS_qs_mk, xS_qx_mk, xS_qy_mk, xC_eta, xM_eta, xS_eta, e1]
    rw [k0, k1, k2]
    rfl
theorem c_learn (ok : xOk σ) (rc : xRC σ C) (rm : xRM ca σ M) : xOut ca 111 83 [] [] L xs s C M σ := by
  have k1 := l_ln2 (L := L) (s := s) (xs := xs) (M := M) ok rc σ.N 1 (0, σ.wt) none none (by omega) (by omega)
  have k2 := l_ml2 (L := L) (s := s) (xs := xs) (C := (xC.mk C.N C.tg C.hd ((zln2 σ σ.N 1 (0, σ.wt)).2) C.fb C.R C.G C.P C.Q C.E C.kr C.ct C.tt C.A C.qs C.qx C.qy C.vs C.lo C.hg C.ab C.fo C.pk C.K C.kd)) ok rm σ.N 1 (0, σ.wt) none none none (by omega) (by omega) ⟨ok.w1, ok.wz⟩
  obtain ⟨k2, w2⟩ := k2
  refine ⟨.int (zln2 σ σ.N 1 (0, σ.wt)).1, (xS.mk σ.N σ.tg σ.hd ((zln2 σ σ.N 1 (0, σ.wt)).2) σ.fb σ.E σ.gn σ.ks σ.kt σ.kh σ.A σ.qs σ.qx σ.qy), s, (xC.mk C.N C.tg C.hd ((zln2 σ σ.N 1 (0, σ.wt)).2) C.fb C.R C.G C.P C.Q C.E C.kr C.ct C.tt C.A C.qs C.qx C.qy C.vs C.lo C.hg C.ab C.fo C.pk C.K C.kd), (xM.mk M.n M.tg M.hd ((zln2 σ σ.N 1 (0, σ.wt)).2) M.fb 0 M.mn M.rk M.rs M.rh M.E M.gn M.ks M.kt M.kh M.A M.qs M.qx M.qy M.rw M.wo M.ia M.fo M.pr M.h), ?_, ?_, ok_w ok w2, (xRC.mk rc.N rc.tg rc.hd rfl rc.fb rc.R rc.E rc.K rc.kr rc.kd rc.ct rc.tt rc.A rc.q), rm_w rm, rfl⟩
  · have e : ((xC.mk C.N C.tg C.hd σ.wt C.fb C.R C.G C.P C.Q C.E C.kr C.ct C.tt C.A C.qs C.qx C.qy C.vs C.lo C.hg C.ab C.fo C.pk C.K C.kd)) = C := by rw [← rc.wt, xC_eta]
    dsimp only at k1
    rw [e] at k1
    rw [show nI 1 = 1 from rfl] at k1
    simp [I_X9_learn, E_X9_learn, zfok, zfv, zfs', ziok, ziv, zpok, zis', zlok, zlv', zls', zbok, zrok, zrv', zrs', zaok, zan, zcok, zcs', zis, zgv, zgh, zcat, zw_1, zw_21, zw_at, zclr_int, zclr_ref, zclr_null, zclr_none, zclr_long, zclr_clr, zbv_0, zbv_1, zbv_ite, zbv_ite', Value.category, xr0, xr1, xr2, xr3, xr4, xr5, xr6, xr7, xr8, xr265, xr266, xr267, xr268, xr269, xr270, xr271, xr272, xr273, xr274, xr275, xr276, xr277, xr278, xr279, xr280, xr281, xr282, xr283, xr284, xr285, xr286, xr287, xr288, xr289, xr290, xr291, xr292, xr293, xr294, xr295, xr296, xr297, xr298, xr299, xr300, xr301, xr302, xv2, xv3, xv4, xv6, xv7, xv266, xv268, xv269, xv270, xv271, xv273, xv274, xv275, xv276, xv277, xv278, xv279, xv280, xv281, xv282, xv283, xv284, xv285, xv286, xv287, xv288, xv289, xv290, xv291, xv292, xv293, xv294, xv295, xv296, xv297, xv298, xv299, xv300, xv301, xv302, znar0, znar1, znarI, zfitb, zfitb1, xC_N_mk, xC_tg_mk, xC_hd_mk, xC_wt_mk, xC_fb_mk, xC_R_mk, xC_G_mk, xC_P_mk, xC_Q_mk, xC_E_mk, xC_kr_mk, xC_ct_mk, xC_tt_mk, xC_A_mk, xC_qs_mk, xC_qx_mk, xC_qy_mk, xC_vs_mk, xC_lo_mk, xC_hg_mk, xC_ab_mk, xC_fo_mk, xC_pk_mk, xC_K_mk, xC_kd_mk, xM_n_mk, xM_tg_mk, xM_hd_mk, xM_wt_mk, xM_fb_mk, xM_kn_mk, xM_mn_mk, xM_rk_mk, xM_rs_mk, xM_rh_mk, xM_E_mk, xM_gn_mk, xM_ks_mk, xM_kt_mk, xM_kh_mk, xM_A_mk, xM_qs_mk, xM_qx_mk, xM_qy_mk, xM_rw_mk, xM_wo_mk, xM_ia_mk, xM_fo_mk, xM_pr_mk, xM_h_mk, xS_N_mk, xS_tg_mk, xS_hd_mk, xS_wt_mk, xS_fb_mk, xS_E_mk, xS_gn_mk, xS_ks_mk, xS_kt_mk, xS_kh_mk, xS_A_mk, xS_qs_mk, xS_qx_mk, xS_qy_mk, xC_eta, xM_eta, xS_eta]
    exact k1
  · dsimp only at k2
    rw [← rm.wt, show nI 1 = 1 from rfl] at k2
    simp [I_X10_learn, E_X10_learn, zfok, zfv, zfs', ziok, ziv, zpok, zis', zlok, zlv', zls', zbok, zrok, zrv', zrs', zaok, zan, zcok, zcs', zis, zgv, zgh, zcat, zw_1, zw_21, zw_at, zclr_int, zclr_ref, zclr_null, zclr_none, zclr_long, zclr_clr, zbv_0, zbv_1, zbv_ite, zbv_ite', Value.category, xr0, xr1, xr2, xr3, xr4, xr5, xr6, xr7, xr8, xr265, xr266, xr267, xr268, xr269, xr270, xr271, xr272, xr273, xr274, xr275, xr276, xr277, xr278, xr279, xr280, xr281, xr282, xr283, xr284, xr285, xr286, xr287, xr288, xr289, xr290, xr291, xr292, xr293, xr294, xr295, xr296, xr297, xr298, xr299, xr300, xr301, xr302, xv2, xv3, xv4, xv6, xv7, xv266, xv268, xv269, xv270, xv271, xv273, xv274, xv275, xv276, xv277, xv278, xv279, xv280, xv281, xv282, xv283, xv284, xv285, xv286, xv287, xv288, xv289, xv290, xv291, xv292, xv293, xv294, xv295, xv296, xv297, xv298, xv299, xv300, xv301, xv302, znar0, znar1, znarI, zfitb, zfitb1, xC_N_mk, xC_tg_mk, xC_hd_mk, xC_wt_mk, xC_fb_mk, xC_R_mk, xC_G_mk, xC_P_mk, xC_Q_mk, xC_E_mk, xC_kr_mk, xC_ct_mk, xC_tt_mk, xC_A_mk, xC_qs_mk, xC_qx_mk, xC_qy_mk, xC_vs_mk, xC_lo_mk, xC_hg_mk, xC_ab_mk, xC_fo_mk, xC_pk_mk, xC_K_mk, xC_kd_mk, xM_n_mk, xM_tg_mk, xM_hd_mk, xM_wt_mk, xM_fb_mk, xM_kn_mk, xM_mn_mk, xM_rk_mk, xM_rs_mk, xM_rh_mk, xM_E_mk, xM_gn_mk, xM_ks_mk, xM_kt_mk, xM_kh_mk, xM_A_mk, xM_qs_mk, xM_qx_mk, xM_qy_mk, xM_rw_mk, xM_wo_mk, xM_ia_mk, xM_fo_mk, xM_pr_mk, xM_h_mk, xS_N_mk, xS_tg_mk, xS_hd_mk, xS_wt_mk, xS_fb_mk, xS_E_mk, xS_gn_mk, xS_ks_mk, xS_kt_mk, xS_kh_mk, xS_A_mk, xS_qs_mk, xS_qx_mk, xS_qy_mk, xC_eta, xM_eta, xS_eta]
    rw [← rm.wt]
    exact k2
end LEARN
