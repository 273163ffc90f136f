/-! the reference looks through all trees: all of them, in order -/
def tlh (al : Nat → Nat → Bool) (N c d : Nat) (f : Nat → Nat) : Nat → Nat → List (Nat → Nat)
  | 0, _ => []
  | e + 1, h => (if al d h = true ∧ ftr d 0 (fun x => if x = d then h else f x) = true then tls al N c (d + 1) (fun x => if x = d then h else f x) else []) ++ tlh al N c d f e (h + 1)
theorem tlh_fm {al : Nat → Nat → Bool} {N c d : Nat} {f : Nat → Nat} : ∀ (e h : Nat), tlh al N c d f e h = (List.range' h e).flatMap (fun h => if al d h = true ∧ ftr d 0 (fun x => if x = d then h else f x) = true then tls al N c (d + 1) (fun x => if x = d then h else f x) else [])
  | 0, _ => rfl
  | e + 1, h => by rw [tlh, List.range'_succ, List.flatMap_cons, tlh_fm e (h + 1)]
theorem tls_tlh {al : Nat → Nat → Bool} {N c d : Nat} {f : Nat → Nat} : tls al N (c + 1) d f = tlh al N c d f (N + 1) 0 := by
  rw [tlh_fm, tls, List.range_eq_range']
theorem zsm_snoc {f : Nat → Int} : ∀ (c d : Nat), zsm f (c + 1) d = zsm f c d + f (d + c)
  | 0, d => by simp [zsm]
  | c + 1, d => by
    rw [zsm, zsm_snoc c (d + 1), zsm, show d + 1 + c = d + (c + 1) by omega]
    omega
theorem zsm_congr {f g : Nat → Int} : ∀ (c d : Nat), (∀ x, d ≤ x → x < d + c → f x = g x) → zsm f c d = zsm g c d
  | 0, _, _ => rfl
  | c + 1, d, h => by
    rw [zsm, zsm, h d (by omega) (by omega), zsm_congr c (d + 1) (fun x h1 h2 => h x (by omega) (by omega))]
theorem zdig_up {f : Nat → Nat} {d h : Nat} (hd : 1 ≤ d) : zdig (fun x => if x = d then h else f x) d 1 = zdig f (d - 1) 1 + (h : Int) * 2 ^ (3 * (7 - d)) := by
  obtain ⟨k, rfl⟩ : ∃ k, d = k + 1 := ⟨d - 1, by omega⟩
  have e1 : zsm (fun x => (((fun x => if x = k + 1 then h else f x) x : Nat) : Int) * 2 ^ (3 * (7 - x))) k 1 = zsm (fun x => (f x : Int) * 2 ^ (3 * (7 - x))) k 1 := zsm_congr k 1 (fun x h1 h2 => by
    show (((if x = k + 1 then h else f x) : Nat) : Int) * _ = _
    rw [if_neg (by omega)])
  have e2 : (fun x => if x = k + 1 then h else f x) (1 + k) = h := by
    show (if 1 + k = k + 1 then h else f (1 + k)) = h
    rw [if_pos (by omega)]
  unfold zdig
  rw [zsm_snoc, e1, e2, Nat.add_sub_cancel, Nat.add_comm 1 k]
theorem ftr_zit {f : Nat → Nat} {N : Nat} (hf : ∀ x, f x ≤ N) (h0 : f 0 = 0) (h : ftr N 0 f = true) : ∀ x, x ≤ N → zit f N x = 0 := by
  intro x hx
  by_cases q : x = 0
  · rw [q, show zit f N 0 = 0 from zit_up h0 (a := 0) rfl (Nat.zero_le _)]
  · obtain ⟨j, hj⟩ := (ftr_fexo N 0 f).mp h x (by omega) (by omega)
    have b := zit_le hf (k := j) hx
    exact zit_N hf h0 hx j (by omega)
section VISIT
variable {L s : Nat} {xs : Nat → Int32} {C : xC} {N : Nat} {fb : Nat → Nat} {wt : Nat → Int32}
theorem l_visit (hw : ∀ k, -1000000 ≤ (wt k).toInt ∧ (wt k).toInt ≤ 1000000) (hN1 : 1 ≤ N) (hN : N ≤ 7) (hf1 : ∀ k, fb k ≤ 1) : ∀ (c e d h : Nat) (f : Nat → Nat) (T : List (Nat → Nat)) (M : xM) (l2 l3 : Option Value), c + d = N → 1 ≤ d → e + h = N + 1 → ftr (d - 1) 0 f = true → (∀ x, f x ≤ N) → f 0 = 0 → (∀ x, d ≤ x → f x = 0) → M.n = nI N → M.wt = wt → M.fb = (fun k => nI (fb k)) → M.rw 0 = 0 → (∀ x, 1 ≤ x → x < d → M.rw x = nI (f x)) → M.rw d = nI h - 1 → lok wt N T M.mn M.rk M.rs M.rh → (∀ g, g ∈ T → ∀ d, g d ≤ 7) → (∀ g, g ∈ T → zdig g N 1 < zdig f (d - 1) 1 + (h : Int) * 2 ^ (3 * (7 - d))) →
    ∃ rw mn rk rs rh l2' l3', rw 0 = 0 ∧ (∀ x, x < d → rw x = M.rw x) ∧ (∀ x, 8 ≤ x → rw x = M.rw x) ∧ lok wt N (T ++ tlh (zisf fb) N c d f e h) mn rk rs rh ∧ (∀ g, g ∈ T ++ tlh (zisf fb) N c d f e h → ∀ d, g d ≤ 7) ∧ (∀ g, g ∈ T ++ tlh (zisf fb) N c d f e h → zdig g N 1 < zdig f (d - 1) 1 + ((N + 1 : Nat) : Int) * 2 ^ (3 * (7 - d))) ∧ zD 119 49 [some (.ref 283), some (.int (nI d)), l2, l3] [] (xW L xs s C M) = zD 119 49 [some (.ref 283), some (.int (nI (d - 1))), l2', l3'] [] (xW L xs s C (xM.mk M.n M.tg M.hd M.wt M.fb M.kn mn rk rs rh M.E M.gn M.ks M.kt M.kh M.A M.qs M.qx M.qy rw M.wo M.ia M.fo M.pr M.h)) := by
  intro c
  induction c with
  | zero =>
    intro e
    induction e with
    | zero =>
      intro d h f T M l2 l3 hc hd1 he htr hf h0 hz hn hwt hfb hr0 hr hrd hs hT hb
      have hh : h = N + 1 := by omega
      subst hh
      refine ⟨upd M.rw d (nI (N + 1)), M.mn, M.rk, M.rs, M.rh, l2, l3, ?_, ?_, ?_, ?_, ?_, ?_, ?_⟩
      · simp [upd, show ¬ 0 = d by omega, hr0]
      · intro x hx; simp [upd, show ¬ x = d by omega]
      · intro x hx; simp [upd, show ¬ x = d by omega]
      · rw [tlh, List.append_nil]; exact hs
      · rw [tlh, List.append_nil]; exact hT
      · rw [tlh, List.append_nil]; exact hb
      · exact l_49A hd1 (by omega) hN hn hrd
    | succ e ihe =>
      intro d h f T M l2 l3 hc hd1 he htr hf h0 hz hn hwt hfb hr0 hr hrd hs hT hb
      have hdN : d = N := by omega
      have pp : (0 : Int) < 2 ^ (3 * (7 - d)) := Int.pow_pos (by omega)
      have hf' : ∀ x, (fun x => if x = d then h else f x) x ≤ N := fun x => by
        dsimp only
        split
        · omega
        · exact hf x
      have htr' : ftr (d - 1) 0 (fun x => if x = d then h else f x) = true := by
        rw [← htr]
        exact ftr_congr _ _ _ _ (fun x a b => by rw [if_neg (by omega)])
      have hr' : ∀ x, 1 ≤ x → x < d → M.rw x = nI ((fun x => if x = d then h else f x) x) := fun x a b => by
        dsimp only; rw [if_neg (by omega)]; exact hr x a b
      have nx : nI h = nI (h + 1) - 1 := (nI_pred h).symm
      have bup : (h : Int) * 2 ^ (3 * (7 - d)) < ((h + 1 : Nat) : Int) * 2 ^ (3 * (7 - d)) := by
        rw [show ((h + 1 : Nat) : Int) = (h : Int) + 1 by omega, Int.add_mul]; omega
      by_cases ok : zisf fb d h = true ∧ ftr d 0 (fun x => if x = d then h else f x) = true
      · have st := l_49C (L := L) (xs := xs) (s := s) (C := C) (h := h) hd1 (by omega) hN hn hfb hf1 (by omega) hf' (by simp) hr' hrd htr' ok (l2 := l2) (l3 := l3)
        have dg := zdig_up (f := f) (h := h) hd1
        have hz' := ftr_zit hf' (by show (if 0 = d then h else f 0) = 0; rw [if_neg (by omega)]; exact h0) (by rw [← hdN]; exact ok.2)
        rw [hdN] at dg
        obtain ⟨mn, rk, rs, rh, m2, m3, q1, q2⟩ := l_leaf (L := L) (xs := xs) (s := s) (C := C) (M := (xM.mk M.n M.tg M.hd M.wt M.fb M.kn M.mn M.rk M.rs M.rh M.E M.gn M.ks M.kt M.kh M.A M.qs M.qx M.qy (upd M.rw d (nI h)) M.wo M.ia M.fo M.pr M.h)) (f := fun x => if x = d then h else f x) hw hN1 hN hn hwt hs hf' hz' hT (fun g hg => by rw [← hdN] at dg ⊢; rw [dg, hdN]; have := hb g hg; rw [hdN] at this; exact this) (fun x hx => by
          show upd M.rw d (nI h) x = nI (if x = d then h else f x)
          unfold upd
          by_cases w : x = d
          · rw [if_pos w, if_pos w]
          · rw [if_neg w, if_neg w]
            by_cases w0 : x = 0
            · rw [w0, hr0, h0]; rfl
            · exact hr x (by omega) (by omega)) (l2 := l2) (l3 := l3)
        have T' : ∀ g, g ∈ T ++ [fun x => if x = d then h else f x] → zdig g N 1 < zdig f (d - 1) 1 + ((h + 1 : Nat) : Int) * 2 ^ (3 * (7 - d)) := by
          intro g hg
          rcases List.mem_append.mp hg with w | w
          · have := hb g w; omega
          · rw [List.mem_singleton] at w
            rw [w, hdN, dg, ← hdN]; omega
        obtain ⟨rw', mn', rk', rs', rh', l2', l3', a1, a2, a3, a4, a5, a6, a7⟩ := ihe d (h + 1) f (T ++ [fun x => if x = d then h else f x]) (xM.mk M.n M.tg M.hd M.wt M.fb M.kn mn rk rs rh M.E M.gn M.ks M.kt M.kh M.A M.qs M.qx M.qy (upd M.rw d (nI h)) M.wo M.ia M.fo M.pr M.h) m2 m3 hc hd1 (by omega) htr hf h0 hz hn hwt hfb (by show upd M.rw d (nI h) 0 = 0; simp [upd, show ¬ 0 = d by omega, hr0]) (fun x a b => by show upd M.rw d (nI h) x = _; simp only [upd, show ¬ x = d by omega, if_false]; exact hr x a b) (by show upd M.rw d (nI h) d = _; simp only [upd, if_true]; exact nx) q1 (fun g hg => by
          rcases List.mem_append.mp hg with w | w
          · exact hT g w
          · rw [List.mem_singleton] at w
            intro x; rw [w]; have := hf' x; omega) T'
        have tl : T ++ tlh (zisf fb) N 0 d f (e + 1) h = (T ++ [fun x => if x = d then h else f x]) ++ tlh (zisf fb) N 0 d f e (h + 1) := by
          rw [tlh, if_pos ok, tls, List.append_assoc]
        refine ⟨rw', mn', rk', rs', rh', l2', l3', a1, ?_, ?_, ?_, ?_, ?_, ?_⟩
        · intro x hx
          rw [a2 x hx]
          show upd M.rw d (nI h) x = M.rw x
          simp [upd, show ¬ x = d by omega]
        · intro x hx
          rw [a3 x hx]
          show upd M.rw d (nI h) x = M.rw x
          simp [upd, show ¬ x = d by omega]
        · rw [tl]; exact a4
        · rw [tl]; exact a5
        · rw [tl]; exact a6
        · rw [← hdN] at q2
          rw [st, q2]; exact a7
      · have st := l_49B (L := L) (xs := xs) (s := s) (C := C) (h := h) hd1 (by omega) hN hn hfb hf1 (by omega) hf' (by simp) hr' hrd htr' ok (l2 := l2) (l3 := l3)
        obtain ⟨rw', mn', rk', rs', rh', l2', l3', a1, a2, a3, a4, a5, a6, a7⟩ := ihe d (h + 1) f T (xM.mk M.n M.tg M.hd M.wt M.fb M.kn M.mn M.rk M.rs M.rh M.E M.gn M.ks M.kt M.kh M.A M.qs M.qx M.qy (upd M.rw d (nI h)) M.wo M.ia M.fo M.pr M.h) l2 l3 hc hd1 (by omega) htr hf h0 hz hn hwt hfb (by show upd M.rw d (nI h) 0 = 0; simp [upd, show ¬ 0 = d by omega, hr0]) (fun x a b => by show upd M.rw d (nI h) x = _; simp only [upd, show ¬ x = d by omega, if_false]; exact hr x a b) (by show upd M.rw d (nI h) d = _; simp only [upd, if_true]; exact nx) hs hT (fun g hg => by have := hb g hg; omega)
        have tl : T ++ tlh (zisf fb) N 0 d f (e + 1) h = T ++ tlh (zisf fb) N 0 d f e (h + 1) := by
          rw [tlh, if_neg ok, List.nil_append]
        refine ⟨rw', mn', rk', rs', rh', l2', l3', a1, ?_, ?_, ?_, ?_, ?_, ?_⟩
        · intro x hx
          rw [a2 x hx]
          show upd M.rw d (nI h) x = M.rw x
          simp [upd, show ¬ x = d by omega]
        · intro x hx
          rw [a3 x hx]
          show upd M.rw d (nI h) x = M.rw x
          simp [upd, show ¬ x = d by omega]
        · rw [tl]; exact a4
        · rw [tl]; exact a5
        · rw [tl]; exact a6
        · rw [st]; exact a7
  | succ c ihc =>
    intro e
    induction e with
    | zero =>
      intro d h f T M l2 l3 hc hd1 he htr hf h0 hz hn hwt hfb hr0 hr hrd hs hT hb
      have hh : h = N + 1 := by omega
      subst hh
      refine ⟨upd M.rw d (nI (N + 1)), M.mn, M.rk, M.rs, M.rh, l2, l3, ?_, ?_, ?_, ?_, ?_, ?_, ?_⟩
      · simp [upd, show ¬ 0 = d by omega, hr0]
      · intro x hx; simp [upd, show ¬ x = d by omega]
      · intro x hx; simp [upd, show ¬ x = d by omega]
      · rw [tlh, List.append_nil]; exact hs
      · rw [tlh, List.append_nil]; exact hT
      · rw [tlh, List.append_nil]; exact hb
      · exact l_49A hd1 (by omega) hN hn hrd
    | succ e ihe =>
      intro d h f T M l2 l3 hc hd1 he htr hf h0 hz hn hwt hfb hr0 hr hrd hs hT hb
      have pp : (0 : Int) < 2 ^ (3 * (7 - d)) := Int.pow_pos (by omega)
      have hf' : ∀ x, (fun x => if x = d then h else f x) x ≤ N := fun x => by
        dsimp only
        split
        · omega
        · exact hf x
      have htr' : ftr (d - 1) 0 (fun x => if x = d then h else f x) = true := by
        rw [← htr]
        exact ftr_congr _ _ _ _ (fun x a b => by rw [if_neg (by omega)])
      have hr' : ∀ x, 1 ≤ x → x < d → M.rw x = nI ((fun x => if x = d then h else f x) x) := fun x a b => by
        dsimp only; rw [if_neg (by omega)]; exact hr x a b
      have nx : nI h = nI (h + 1) - 1 := (nI_pred h).symm
      have bup : (h : Int) * 2 ^ (3 * (7 - d)) < ((h + 1 : Nat) : Int) * 2 ^ (3 * (7 - d)) := by
        rw [show ((h + 1 : Nat) : Int) = (h : Int) + 1 by omega, Int.add_mul]; omega
      by_cases ok : zisf fb d h = true ∧ ftr d 0 (fun x => if x = d then h else f x) = true
      · have st := l_49C (L := L) (xs := xs) (s := s) (C := C) (h := h) hd1 (by omega) hN hn hfb hf1 (by omega) hf' (by simp) hr' hrd htr' ok (l2 := l2) (l3 := l3)
        have dg := zdig_up (f := f) (h := h) hd1
        have st2 : zD 119 119 [some (.ref 283), some (.int (nI d)), l2, l3] [] (xW L xs s C (xM.mk M.n M.tg M.hd M.wt M.fb M.kn M.mn M.rk M.rs M.rh M.E M.gn M.ks M.kt M.kh M.A M.qs M.qx M.qy (upd M.rw d (nI h)) M.wo M.ia M.fo M.pr M.h)) = zD 119 49 [some (.ref 283), some (.int (nI (d + 1))), l2, l3] [] (xW L xs s C (xM.mk M.n M.tg M.hd M.wt M.fb M.kn M.mn M.rk M.rs M.rh M.E M.gn M.ks M.kt M.kh M.A M.qs M.qx M.qy (upd (upd M.rw d (nI h)) (d + 1) (-1)) M.wo M.ia M.fo M.pr M.h)) := by
          have z1 : ¬ nI N ≤ nI d := fun z => absurd ((zle (by omega) (by omega)).mp z) (by omega)
          rw [← hn] at z1
          have z2 : nI d + 1 = nI (d + 1) := nI_1 d
          have z3 : zin (nI (d + 1)) 8 = true := zin8 (by omega) (by omega)
          have z4 : (nI (d + 1)).toNatClampNeg = d + 1 := zcl7 (by omega)
          simp [E_X10_look, zfok, zfv, zfs', ziok, ziv, zpok, zis', zlok, zlv', zls', zbok, zrok, zrv', zrs', zaok, zan, zcok, zcs', zis, zgv, zgh, zcat, zw_1, zw_21, zw_at, zclr_int, zclr_ref, zclr_null, zclr_none, zclr_long, zclr_clr, zbv_0, zbv_1, zbv_ite, zbv_ite', Value.category, xr0, xr1, xr2, xr3, xr4, xr5, xr6, xr7, xr8, xr265, xr266, xr267, xr268, xr269, xr270, xr271, xr272, xr273, xr274, xr275, xr276, xr277, xr278, xr279, xr280, xr281, xr282, xr283, xr284, xr285, xr286, xr287, xr288, xr289, xr290, xr291, xr292, xr293, xr294, xr295, xr296, xr297, xr298, xr299, xr300, xr301, xr302, xv2, xv3, xv4, xv6, xv7, xv266, xv268, xv269, xv270, xv271, xv273, xv274, xv275, xv276, xv277, xv278, xv279, xv280, xv281, xv282, xv283, xv284, xv285, xv286, xv287, xv288, xv289, xv290, xv291, xv292, xv293, xv294, xv295, xv296, xv297, xv298, xv299, xv300, xv301, xv302, znar0, znar1, znarI, zfitb, zfitb1, xC_N_mk, xC_tg_mk, xC_hd_mk, xC_wt_mk, xC_fb_mk, xC_R_mk, xC_G_mk, xC_P_mk, xC_Q_mk, xC_E_mk, xC_kr_mk, xC_ct_mk, xC_tt_mk, xC_A_mk, xC_qs_mk, xC_qx_mk, xC_qy_mk, xC_vs_mk, xC_lo_mk, xC_hg_mk, xC_ab_mk, xC_fo_mk, xC_pk_mk, xC_K_mk, xC_kd_mk, xM_n_mk, xM_tg_mk, xM_hd_mk, xM_wt_mk, xM_fb_mk, xM_kn_mk, xM_mn_mk, xM_rk_mk, xM_rs_mk, xM_rh_mk, xM_E_mk, xM_gn_mk, xM_ks_mk, xM_kt_mk, xM_kh_mk, xM_A_mk, xM_qs_mk, xM_qx_mk, xM_qy_mk, xM_rw_mk, xM_wo_mk, xM_ia_mk, xM_fo_mk, xM_pr_mk, xM_h_mk, xS_N_mk, xS_tg_mk, xS_hd_mk, xS_wt_mk, xS_fb_mk, xS_E_mk, xS_gn_mk, xS_ks_mk, xS_kt_mk, xS_kh_mk, xS_A_mk, xS_qs_mk, xS_qx_mk, xS_qy_mk, xC_eta, xM_eta, xS_eta, z1, z2, z3, z4]
        obtain ⟨rw1, mn1, rk1, rs1, rh1, m2, m3, b1, b2, b3, b4, b5, b6, b7⟩ := ihc (N + 1) (d + 1) 0 (fun x => if x = d then h else f x) T (xM.mk M.n M.tg M.hd M.wt M.fb M.kn M.mn M.rk M.rs M.rh M.E M.gn M.ks M.kt M.kh M.A M.qs M.qx M.qy (upd (upd M.rw d (nI h)) (d + 1) (-1)) M.wo M.ia M.fo M.pr M.h) l2 l3 (by omega) (by omega) (by omega) (by rw [Nat.add_sub_cancel]; exact ok.2) hf' (by show (if 0 = d then h else f 0) = 0; rw [if_neg (by omega)]; exact h0) (fun x hx => by show (if x = d then h else f x) = 0; rw [if_neg (by omega)]; exact hz x (by omega)) hn hwt hfb (by show upd (upd M.rw d (nI h)) (d + 1) (-1) 0 = 0; simp [upd, show ¬ 0 = d by omega, hr0]) (fun x a b => by
          show upd (upd M.rw d (nI h)) (d + 1) (-1) x = nI (if x = d then h else f x)
          unfold upd
          rw [if_neg (by omega)]
          by_cases w : x = d
          · rw [if_pos w, if_pos w]
          · rw [if_neg w, if_neg w]; exact hr x a (by omega)) (by show upd (upd M.rw d (nI h)) (d + 1) (-1) (d + 1) = nI 0 - 1; simp [upd]; decide) hs hT (fun g hg => by
          rw [Nat.add_sub_cancel, dg]
          have := hb g hg
          omega)
        rw [← tls_tlh] at b4 b5 b6
        have bd : (((N + 1 : Nat) : Int)) * 2 ^ (3 * (7 - (d + 1))) ≤ 2 ^ (3 * (7 - d)) := by
          have e1 : (2 : Int) ^ (3 * (7 - d)) = 8 * 2 ^ (3 * (7 - (d + 1))) := by
            rw [show 3 * (7 - d) = 3 * (7 - (d + 1)) + 3 by omega, Int.pow_add]
            omega
          have e2 : (0 : Int) < 2 ^ (3 * (7 - (d + 1))) := Int.pow_pos (by omega)
          rw [e1]
          exact Int.mul_le_mul_of_nonneg_right (by omega) (by omega)
        have T' : ∀ g, g ∈ T ++ tls (zisf fb) N (c + 1) (d + 1) (fun x => if x = d then h else f x) → zdig g N 1 < zdig f (d - 1) 1 + ((h + 1 : Nat) : Int) * 2 ^ (3 * (7 - d)) := by
          intro g hg
          have := b6 g hg
          rw [Nat.add_sub_cancel, dg] at this
          rw [show ((h + 1 : Nat) : Int) = (h : Int) + 1 by omega, Int.add_mul]
          omega
        obtain ⟨rw', mn', rk', rs', rh', l2', l3', a1, a2, a3, a4, a5, a6, a7⟩ := ihe d (h + 1) f (T ++ tls (zisf fb) N (c + 1) (d + 1) (fun x => if x = d then h else f x)) (xM.mk M.n M.tg M.hd M.wt M.fb M.kn mn1 rk1 rs1 rh1 M.E M.gn M.ks M.kt M.kh M.A M.qs M.qx M.qy rw1 M.wo M.ia M.fo M.pr M.h) m2 m3 hc hd1 (by omega) htr hf h0 hz hn hwt hfb b1 (fun x a b => by
          show rw1 x = _
          rw [b2 x (by omega)]
          show upd (upd M.rw d (nI h)) (d + 1) (-1) x = _
          simp only [upd, show ¬ x = d + 1 by omega, show ¬ x = d by omega, if_false]
          exact hr x a b) (by
          show rw1 d = _
          rw [b2 d (by omega)]
          show upd (upd M.rw d (nI h)) (d + 1) (-1) d = _
          simp only [upd, show ¬ d = d + 1 by omega, if_false, if_true]
          exact nx) b4 b5 T'
        have tl : T ++ tlh (zisf fb) N (c + 1) d f (e + 1) h = (T ++ tls (zisf fb) N (c + 1) (d + 1) (fun x => if x = d then h else f x)) ++ tlh (zisf fb) N (c + 1) d f e (h + 1) := by
          rw [tlh, if_pos ok, List.append_assoc]
        refine ⟨rw', mn', rk', rs', rh', l2', l3', a1, ?_, ?_, ?_, ?_, ?_, ?_⟩
        · intro x hx
          rw [a2 x hx]
          show rw1 x = M.rw x
          rw [b2 x (by omega)]
          show upd (upd M.rw d (nI h)) (d + 1) (-1) x = M.rw x
          simp [upd, show ¬ x = d + 1 by omega, show ¬ x = d by omega]
        · intro x hx
          rw [a3 x hx]
          show rw1 x = M.rw x
          rw [b3 x hx]
          show upd (upd M.rw d (nI h)) (d + 1) (-1) x = M.rw x
          simp [upd, show ¬ x = d + 1 by omega, show ¬ x = d by omega]
        · rw [tl]; exact a4
        · rw [tl]; exact a5
        · rw [tl]; exact a6
        · rw [st, st2, b7, Nat.add_sub_cancel]; exact a7
      · have st := l_49B (L := L) (xs := xs) (s := s) (C := C) (h := h) hd1 (by omega) hN hn hfb hf1 (by omega) hf' (by simp) hr' hrd htr' ok (l2 := l2) (l3 := l3)
        obtain ⟨rw', mn', rk', rs', rh', l2', l3', a1, a2, a3, a4, a5, a6, a7⟩ := ihe d (h + 1) f T (xM.mk M.n M.tg M.hd M.wt M.fb M.kn M.mn M.rk M.rs M.rh M.E M.gn M.ks M.kt M.kh M.A M.qs M.qx M.qy (upd M.rw d (nI h)) M.wo M.ia M.fo M.pr M.h) l2 l3 hc hd1 (by omega) htr hf h0 hz hn hwt hfb (by show upd M.rw d (nI h) 0 = 0; simp [upd, show ¬ 0 = d by omega, hr0]) (fun x a b => by show upd M.rw d (nI h) x = _; simp only [upd, show ¬ x = d by omega, if_false]; exact hr x a b) (by show upd M.rw d (nI h) d = _; simp only [upd, if_true]; exact nx) hs hT (fun g hg => by have := hb g hg; omega)
        have tl : T ++ tlh (zisf fb) N (c + 1) d f (e + 1) h = T ++ tlh (zisf fb) N (c + 1) d f e (h + 1) := by
          rw [tlh, if_neg ok, List.nil_append]
        refine ⟨rw', mn', rk', rs', rh', l2', l3', a1, ?_, ?_, ?_, ?_, ?_, ?_⟩
        · intro x hx
          rw [a2 x hx]
          show upd M.rw d (nI h) x = M.rw x
          simp [upd, show ¬ x = d by omega]
        · intro x hx
          rw [a3 x hx]
          show upd M.rw d (nI h) x = M.rw x
          simp [upd, show ¬ x = d by omega]
        · rw [tl]; exact a4
        · rw [tl]; exact a5
        · rw [tl]; exact a6
        · rw [st]; exact a7
end VISIT
