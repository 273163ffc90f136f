/-! questions: the reference's search, and the calls -/
def fld {α : Type} (f : Nat → α → α) : Nat → Nat → α → α
  | 0, _, S => S
  | c + 1, i, S => fld f c (i + 1) (f i S)
theorem fld_add {α : Type} {f : Nat → α → α} : ∀ (a b i : Nat) (S : α), fld f (a + b) i S = fld f b (i + a) (fld f a i S)
  | 0, b, i, S => by rw [Nat.zero_add, Nat.add_zero]; rfl
  | a + 1, b, i, S => by
    rw [show a + 1 + b = a + b + 1 by omega, fld, fld_add a b (i + 1), fld, show i + 1 + a = i + (a + 1) by omega]
theorem fld_congr {α : Type} {f g : Nat → α → α} : ∀ (c i j : Nat) (S : α), (∀ x, x < c → ∀ T, f (i + x) T = g (j + x) T) → fld f c i S = fld g c j S
  | 0, _, _, _, _ => rfl
  | c + 1, i, j, S, h => by
    have h0 := h 0 (by omega) S
    rw [Nat.add_zero, Nat.add_zero] at h0
    rw [fld, fld, h0]
    refine fld_congr c (i + 1) (j + 1) _ (fun x hx T => ?_)
    have := h (x + 1) (by omega) T
    rw [show i + (x + 1) = i + 1 + x by omega, show j + (x + 1) = j + 1 + x by omega] at this
    exact this
theorem fld_id {α : Type} {f : Nat → α → α} : ∀ (c i : Nat) (S : α), (∀ x T, f x T = T) → fld f c i S = S
  | 0, _, _, _ => rfl
  | c + 1, i, S, h => by rw [fld, h, fld_id c _ _ h]
theorem fld_mul {α : Type} {f : Nat → Nat → α → α} {b : Nat} (hb : 0 < b) : ∀ (m : Nat) (S : α), fld (fun x S => f (x / b) (x % b) S) (m * b) 0 S = fld (fun q S => fld (fun r S => f q r S) b 0 S) m 0 S
  | 0, S => by rw [Nat.zero_mul]; rfl
  | m + 1, S => by
    rw [Nat.succ_mul, fld_add, fld_mul hb m S, fld_add m 1, Nat.zero_add, Nat.zero_add]
    show _ = fld (fun r S => f m r S) b 0 _
    refine fld_congr b _ _ _ (fun x hx T => ?_)
    rw [Nat.zero_add, Nat.mul_comm m b, Nat.mul_add_div hb, Nat.mul_add_mod, Nat.div_eq_of_lt hx, Nat.mod_eq_of_lt hx, Nat.add_zero]
section QUEST4
variable {L s : Nat} {xs : Nat → Int32} {C : xC} {M : xM} {σ : xS} {k : Int32} {o n : Nat} {tg hd : Nat → Nat} {ca : Nat → (Nat → Int32) → (Nat → Nat) → (Nat → Int64) → (Nat → Int32) → (Nat → Int32) → (Nat → Int32) → Prop}
def zrn (σ : xS) (n u : Nat) : Nat := if zask σ u = true then n else 1
theorem zrn_e (hn : 1 ≤ n) (u : Nat) : zrg σ n u + 1 - zrl σ u = zrn σ n u := by
  unfold zrg zrl zrn
  split <;> omega
theorem zrn_1 (hn : 1 ≤ n) (u : Nat) : 1 ≤ zrn σ n u := by unfold zrn; split <;> omega
theorem zrn_7 (hn : n ≤ 7) (u : Nat) : zrn σ n u ≤ 7 := by unfold zrn; split <;> omega
/-- the words of a code -/
def zvd (σ : xS) (n c : Nat) : Nat → Nat := fun u => if u = 0 then zrl σ 0 + c / zrn σ n 3 / zrn σ n 2 / zrn σ n 1 % zrn σ n 0 else if u = 1 then zrl σ 1 + c / zrn σ n 3 / zrn σ n 2 % zrn σ n 1 else if u = 2 then zrl σ 2 + c / zrn σ n 3 % zrn σ n 2 else if u = 3 then zrl σ 3 + c % zrn σ n 3 else 0
def qall (σ : xS) (n : Nat) (tg hd : Nat → Nat) (v : Nat → Nat) : Bool := zall (fun i => qh σ n tg hd i v) σ.A 0
def zcd (σ : xS) (n : Nat) (tg hd : Nat → Nat) (w : Int32) (c : Nat) (S : Nat × Int32) : Nat × Int32 := if qall σ n tg hd (zvd σ n c) = true then zno w (zvd σ n c) S else S
theorem qh_congr {v v' : Nat → Nat} {i u : Nat} (hu : zlva σ i ≤ u) (h : ∀ j, j ≤ u → v j = v' j) : qh σ n tg hd i v = qh σ n tg hd i v' := by
  unfold qh
  unfold zlva at hu
  by_cases q : σ.qs i = 3
  · rw [if_pos q] at hu
    rw [if_pos q, if_pos q, h _ hu]
  · rw [if_neg q] at hu
    rw [if_neg q, if_neg q, h (σ.qx i) (by omega), h (σ.qy i) (by omega)]
theorem qfit_congr {v v' : Nat → Nat} {u : Nat} (h : ∀ j, j ≤ u → v j = v' j) : qfit σ n tg hd u v = qfit σ n tg hd u v' := by
  unfold qfit
  refine zall_congr (fun i _ _ => ?_)
  by_cases q : zlva σ i = u
  · rw [qh_congr (u := u) (by omega) h]
  · simp [q]
theorem zlva_3 (ok : xOk σ) {i : Nat} (hi : i < σ.A) : zlva σ i ≤ 3 := by
  have b := ok.q4 i hi
  unfold zlva
  by_cases q : σ.qs i = 3
  · rw [if_pos q]; exact b.2.1
  · rw [if_neg q]
    have := b.2.2
    rw [if_neg q] at this
    omega
theorem qall_fit (ok : xOk σ) (v : Nat → Nat) : qall σ n tg hd v = true ↔ (qfit σ n tg hd 0 v = true ∧ qfit σ n tg hd 1 v = true ∧ qfit σ n tg hd 2 v = true ∧ qfit σ n tg hd 3 v = true) := by
  unfold qall qfit
  rw [zall_iff, zall_iff, zall_iff, zall_iff, zall_iff]
  constructor
  · intro h
    refine ⟨fun i a b => ?_, fun i a b => ?_, fun i a b => ?_, fun i a b => ?_⟩ <;> simp [h i a b]
  · rintro ⟨h0, h1, h2, h3⟩ i a b
    have l3 := zlva_3 ok (i := i) (by omega)
    have : zlva σ i = 0 ∨ zlva σ i = 1 ∨ zlva σ i = 2 ∨ zlva σ i = 3 := by omega
    rcases this with e | e | e | e
    · have := h0 i a b; simpa [e] using this
    · have := h1 i a b; simpa [e] using this
    · have := h2 i a b; simpa [e] using this
    · have := h3 i a b; simpa [e] using this
def zv4 (a b c d : Nat) : Nat → Nat := zupd (zupd (zupd (zupd (fun _ => 0) 0 a) 1 b) 2 c) 3 d
theorem zvd_v4 (q0 q1 q2 q3 c : Nat) (h3 : c % zrn σ n 3 = q3) (h2 : c / zrn σ n 3 % zrn σ n 2 = q2) (h1 : c / zrn σ n 3 / zrn σ n 2 % zrn σ n 1 = q1) (h0 : c / zrn σ n 3 / zrn σ n 2 / zrn σ n 1 % zrn σ n 0 = q0) : zvd σ n c = zv4 (zrl σ 0 + q0) (zrl σ 1 + q1) (zrl σ 2 + q2) (zrl σ 3 + q3) := by
  funext u
  unfold zvd zv4 zupd
  rw [h0, h1, h2, h3]
  by_cases e0 : u = 0
  · simp [e0]
  · by_cases e1 : u = 1
    · simp [e1]
    · by_cases e2 : u = 2
      · simp [e2]
      · by_cases e3 : u = 3
        · simp [e3]
        · simp [e0, e1, e2, e3]
theorem zg3_fld {w : Int32} {v : Nat → Nat} : ∀ (e x : Nat) (S : Nat × Int32), zg3 σ n tg hd w v e x S = fld (fun x S => if qfit σ n tg hd 3 (zupd v 3 x) = true then zno w (zupd v 3 x) S else S) e x S
  | 0, _, _ => rfl
  | e + 1, x, S => by rw [zg3, fld, zg3_fld e]
theorem zg2_fld {w : Int32} {v : Nat → Nat} : ∀ (e x : Nat) (S : Nat × Int32), zg2 σ n tg hd w v e x S = fld (fun x S => if qfit σ n tg hd 2 (zupd v 2 x) = true then zg3 σ n tg hd w (zupd v 2 x) (zrg σ n 3 + 1 - zrl σ 3) (zrl σ 3) S else S) e x S
  | 0, _, _ => rfl
  | e + 1, x, S => by rw [zg2, fld, zg2_fld e]
theorem zg1_fld {w : Int32} {v : Nat → Nat} : ∀ (e x : Nat) (S : Nat × Int32), zg1 σ n tg hd w v e x S = fld (fun x S => if qfit σ n tg hd 1 (zupd v 1 x) = true then zg2 σ n tg hd w (zupd v 1 x) (zrg σ n 2 + 1 - zrl σ 2) (zrl σ 2) S else S) e x S
  | 0, _, _ => rfl
  | e + 1, x, S => by rw [zg1, fld, zg1_fld e]
theorem zg0_fld {w : Int32} {v : Nat → Nat} : ∀ (e x : Nat) (S : Nat × Int32), zg0 σ n tg hd w v e x S = fld (fun x S => if qfit σ n tg hd 0 (zupd v 0 x) = true then zg1 σ n tg hd w (zupd v 0 x) (zrg σ n 1 + 1 - zrl σ 1) (zrl σ 1) S else S) e x S
  | 0, _, _ => rfl
  | e + 1, x, S => by rw [zg0, fld, zg0_fld e]
theorem zcd_zgs (ok : xOk σ) (hn : 1 ≤ n) {w : Int32} : fld (zcd σ n tg hd w) (zrn σ n 0 * zrn σ n 1 * zrn σ n 2 * zrn σ n 3) 0 (0, -1) = zgs σ n tg hd w := by
  have n0 := zrn_1 (σ := σ) hn 0
  have n1 := zrn_1 (σ := σ) hn 1
  have n2 := zrn_1 (σ := σ) hn 2
  have n3 := zrn_1 (σ := σ) hn 3
  let g : Nat → Nat → Nat → Nat → Nat × Int32 → Nat × Int32 := fun a b c d S => if qall σ n tg hd (zv4 (zrl σ 0 + a) (zrl σ 1 + b) (zrl σ 2 + c) (zrl σ 3 + d)) = true then zno w (zv4 (zrl σ 0 + a) (zrl σ 1 + b) (zrl σ 2 + c) (zrl σ 3 + d)) S else S
  have s3 : fld (zcd σ n tg hd w) (zrn σ n 0 * zrn σ n 1 * zrn σ n 2 * zrn σ n 3) 0 (0, -1) = fld (fun q S => fld (fun r S => g (q / zrn σ n 2 / zrn σ n 1 % zrn σ n 0) (q / zrn σ n 2 % zrn σ n 1) (q % zrn σ n 2) r S) (zrn σ n 3) 0 S) (zrn σ n 0 * zrn σ n 1 * zrn σ n 2) 0 (0, -1) := by
    rw [← fld_mul (f := fun q r S => g (q / zrn σ n 2 / zrn σ n 1 % zrn σ n 0) (q / zrn σ n 2 % zrn σ n 1) (q % zrn σ n 2) r S) n3]
    refine fld_congr _ _ _ _ (fun x hx T => ?_)
    show zcd σ n tg hd w (0 + x) T = g ((0 + x) / zrn σ n 3 / zrn σ n 2 / zrn σ n 1 % zrn σ n 0) ((0 + x) / zrn σ n 3 / zrn σ n 2 % zrn σ n 1) ((0 + x) / zrn σ n 3 % zrn σ n 2) ((0 + x) % zrn σ n 3) T
    unfold zcd
    rw [zvd_v4 _ _ _ _ (0 + x) rfl rfl rfl rfl]
  have s2 : fld (fun q S => fld (fun r S => g (q / zrn σ n 2 / zrn σ n 1 % zrn σ n 0) (q / zrn σ n 2 % zrn σ n 1) (q % zrn σ n 2) r S) (zrn σ n 3) 0 S) (zrn σ n 0 * zrn σ n 1 * zrn σ n 2) 0 (0, -1) = fld (fun q S => fld (fun c S => fld (fun r S => g (q / zrn σ n 1 % zrn σ n 0) (q % zrn σ n 1) c r S) (zrn σ n 3) 0 S) (zrn σ n 2) 0 S) (zrn σ n 0 * zrn σ n 1) 0 (0, -1) :=
    fld_mul (f := fun q c S => fld (fun r S => g (q / zrn σ n 1 % zrn σ n 0) (q % zrn σ n 1) c r S) (zrn σ n 3) 0 S) n2 _ _
  have s1 : fld (fun q S => fld (fun c S => fld (fun r S => g (q / zrn σ n 1 % zrn σ n 0) (q % zrn σ n 1) c r S) (zrn σ n 3) 0 S) (zrn σ n 2) 0 S) (zrn σ n 0 * zrn σ n 1) 0 (0, -1) = fld (fun q S => fld (fun b S => fld (fun c S => fld (fun r S => g (q % zrn σ n 0) b c r S) (zrn σ n 3) 0 S) (zrn σ n 2) 0 S) (zrn σ n 1) 0 S) (zrn σ n 0) 0 (0, -1) :=
    fld_mul (f := fun q b S => fld (fun c S => fld (fun r S => g (q % zrn σ n 0) b c r S) (zrn σ n 3) 0 S) (zrn σ n 2) 0 S) n1 _ _
  rw [s3, s2, s1]
  unfold zgs
  rw [zg0_fld, zrn_e hn 0]
  have z0 : ∀ a b c d j, j ≤ 0 → zv4 a b c d j = zupd (fun _ => 0) 0 a j := by
    intro a b c d j hj
    unfold zv4 zupd
    simp [show j = 0 by omega]
  have z1 : ∀ a b c d j, j ≤ 1 → zv4 a b c d j = zupd (zupd (fun _ => 0) 0 a) 1 b j := by
    intro a b c d j hj
    unfold zv4 zupd
    simp [show ¬ j = 3 by omega, show ¬ j = 2 by omega]
  have z2 : ∀ a b c d j, j ≤ 2 → zv4 a b c d j = zupd (zupd (zupd (fun _ => 0) 0 a) 1 b) 2 c j := by
    intro a b c d j hj
    unfold zv4 zupd
    simp [show ¬ j = 3 by omega]
  refine fld_congr _ _ _ _ (fun a ha S => ?_)
  rw [Nat.zero_add, Nat.mod_eq_of_lt ha]
  by_cases f0 : qfit σ n tg hd 0 (zupd (fun _ => 0) 0 (zrl σ 0 + a)) = true
  · rw [if_pos f0, zg1_fld, zrn_e hn 1]
    refine fld_congr _ _ _ _ (fun b hb S => ?_)
    rw [Nat.zero_add]
    by_cases f1 : qfit σ n tg hd 1 (zupd (zupd (fun _ => 0) 0 (zrl σ 0 + a)) 1 (zrl σ 1 + b)) = true
    · rw [if_pos f1, zg2_fld, zrn_e hn 2]
      refine fld_congr _ _ _ _ (fun c hc S => ?_)
      rw [Nat.zero_add]
      by_cases f2 : qfit σ n tg hd 2 (zupd (zupd (zupd (fun _ => 0) 0 (zrl σ 0 + a)) 1 (zrl σ 1 + b)) 2 (zrl σ 2 + c)) = true
      · rw [if_pos f2, zg3_fld, zrn_e hn 3]
        refine fld_congr _ _ _ _ (fun d hd' S => ?_)
        rw [Nat.zero_add]
        show (if qall σ n tg hd (zv4 (zrl σ 0 + a) (zrl σ 1 + b) (zrl σ 2 + c) (zrl σ 3 + d)) = true then zno w (zv4 (zrl σ 0 + a) (zrl σ 1 + b) (zrl σ 2 + c) (zrl σ 3 + d)) S else S) = if qfit σ n tg hd 3 (zv4 (zrl σ 0 + a) (zrl σ 1 + b) (zrl σ 2 + c) (zrl σ 3 + d)) = true then zno w (zv4 (zrl σ 0 + a) (zrl σ 1 + b) (zrl σ 2 + c) (zrl σ 3 + d)) S else S
        rw [← qfit_congr (z0 _ (zrl σ 1 + b) (zrl σ 2 + c) (zrl σ 3 + d))] at f0
        rw [← qfit_congr (z1 _ _ (zrl σ 2 + c) (zrl σ 3 + d))] at f1
        rw [← qfit_congr (z2 _ _ _ (zrl σ 3 + d))] at f2
        by_cases f3 : qfit σ n tg hd 3 (zv4 (zrl σ 0 + a) (zrl σ 1 + b) (zrl σ 2 + c) (zrl σ 3 + d)) = true
        · rw [if_pos f3, if_pos ((qall_fit ok _).mpr ⟨f0, f1, f2, f3⟩)]
        · rw [if_neg f3, if_neg (fun z => f3 ((qall_fit ok _).mp z).2.2.2)]
      · rw [if_neg f2]
        refine fld_id _ _ _ (fun d T => ?_)
        show (if _ then _ else _) = _
        rw [if_neg (fun z => f2 ?_)]
        rw [← qfit_congr (z2 _ _ _ (zrl σ 3 + d))]
        exact ((qall_fit ok _).mp z).2.2.1
    · rw [if_neg f1]
      refine fld_id _ _ _ (fun c T => fld_id _ _ _ (fun d T => ?_))
      show (if _ then _ else _) = _
      rw [if_neg (fun z => f1 ?_)]
      rw [← qfit_congr (z1 _ _ (zrl σ 2 + c) (zrl σ 3 + d))]
      exact ((qall_fit ok _).mp z).2.1
  · rw [if_neg f0]
    refine fld_id _ _ _ (fun b T => fld_id _ _ _ (fun c T => fld_id _ _ _ (fun d T => ?_)))
    show (if _ then _ else _) = _
    rw [if_neg (fun z => f0 ?_)]
    rw [← qfit_congr (z0 _ (zrl σ 1 + b) (zrl σ 2 + c) (zrl σ 3 + d))]
    exact ((qall_fit ok _).mp z).1
theorem l_s27 {w nn : Int32} {l6 l7 l8 l5 : Option Value} : ∀ (c v : Nat) (ia : Nat → Int32), c + v = 4 → ∃ ia', (∀ u, v ≤ u → u < 4 → ia' u = 0) ∧ (∀ u, u < v → ia' u = ia u) ∧ zD 123 27 [some (.ref 283), some (.int k), some (.int w), some (.int nn), some (.int (nI v)), l5, l6, l7, l8] [] (xW L xs s C (xM.mk M.n M.tg M.hd M.wt M.fb M.kn M.mn M.rk M.rs M.rh M.E M.gn M.ks M.kt M.kh M.A M.qs M.qx M.qy M.rw M.wo ia M.fo M.pr M.h)) = zD 123 50 [some (.ref 283), some (.int k), some (.int w), some (.int nn), some (.int 0), l5, l6, l7, l8] [] (xW L xs s C (xM.mk M.n M.tg M.hd M.wt M.fb M.kn M.mn M.rk M.rs M.rh M.E M.gn M.ks M.kt M.kh M.A M.qs M.qx M.qy M.rw M.wo ia' M.fo M.pr M.h))
  | 0, v, ia, e => by
    have e1 : (4 : Int32) ≤ nI v := (zle (a := 4) (by omega) (by omega)).mpr (by omega)
    refine ⟨ia, fun u x y => absurd x (by omega), fun _ _ => rfl, ?_⟩
    rw [E_X10_search_h27]
    simp [E_X10_search, zfok, zfv, zfs', ziok, ziv, zpok, zis', zlok, zlv', zls', zbok, zrok, zrv', zrs', zaok, zan, zcok, zcs', zis, zgv, zgh, zcat, zw_1, zw_21, zw_at, zclr_int, zclr_ref, zclr_null, zclr_none, zclr_long, zclr_clr, zbv_0, zbv_1, zbv_ite, zbv_ite', Value.category, xr0, xr1, xr2, xr3, xr4, xr5, xr6, xr7, xr8, xr265, xr266, xr267, xr268, xr269, xr270, xr271, xr272, xr273, xr274, xr275, xr276, xr277, xr278, xr279, xr280, xr281, xr282, xr283, xr284, xr285, xr286, xr287, xr288, xr289, xr290, xr291, xr292, xr293, xr294, xr295, xr296, xr297, xr298, xr299, xr300, xr301, xr302, xv2, xv3, xv4, xv6, xv7, xv266, xv268, xv269, xv270, xv271, xv273, xv274, xv275, xv276, xv277, xv278, xv279, xv280, xv281, xv282, xv283, xv284, xv285, xv286, xv287, xv288, xv289, xv290, xv291, xv292, xv293, xv294, xv295, xv296, xv297, xv298, xv299, xv300, xv301, xv302, znar0, znar1, znarI, zfitb, zfitb1, xC_N_mk, xC_tg_mk, xC_hd_mk, xC_wt_mk, xC_fb_mk, xC_R_mk, xC_G_mk, xC_P_mk, xC_Q_mk, xC_E_mk, xC_kr_mk, xC_ct_mk, xC_tt_mk, xC_A_mk, xC_qs_mk, xC_qx_mk, xC_qy_mk, xC_vs_mk, xC_lo_mk, xC_hg_mk, xC_ab_mk, xC_fo_mk, xC_pk_mk, xC_K_mk, xC_kd_mk, xM_n_mk, xM_tg_mk, xM_hd_mk, xM_wt_mk, xM_fb_mk, xM_kn_mk, xM_mn_mk, xM_rk_mk, xM_rs_mk, xM_rh_mk, xM_E_mk, xM_gn_mk, xM_ks_mk, xM_kt_mk, xM_kh_mk, xM_A_mk, xM_qs_mk, xM_qx_mk, xM_qy_mk, xM_rw_mk, xM_wo_mk, xM_ia_mk, xM_fo_mk, xM_pr_mk, xM_h_mk, xS_N_mk, xS_tg_mk, xS_hd_mk, xS_wt_mk, xS_fb_mk, xS_E_mk, xS_gn_mk, xS_ks_mk, xS_kt_mk, xS_kh_mk, xS_A_mk, xS_qs_mk, xS_qx_mk, xS_qy_mk, xC_eta, xM_eta, xS_eta, e1]
  | c + 1, v, ia, e => by
    have e1 : ¬ (4 : Int32) ≤ nI v := fun z => absurd ((zle (a := 4) (by omega) (by omega)).mp z) (by omega)
    have e2 : nI v + 1 = nI (v + 1) := nI_1 v
    have e4 : zin (nI v) 4 = true := zin8 (by omega) (by omega)
    have e5 : (nI v).toNatClampNeg = v := zcl7 (by omega)
    obtain ⟨ia', p1, p2, p3⟩ := l_s27 (w := w) (nn := nn) (l5 := l5) (l6 := l6) (l7 := l7) (l8 := l8) c (v + 1) (upd ia v 0) (by omega)
    refine ⟨ia', fun u x y => ?_, fun u x => ?_, ?_⟩
    · by_cases q : u = v
      · rw [q, p2 v (by omega)]
        unfold upd
        rw [if_pos rfl]
      · exact p1 u (by omega) y
    · rw [p2 u (by omega)]
      unfold upd
      rw [if_neg (by omega)]
    · rw [← p3, E_X10_search_h27]
      simp [E_X10_search, zfok, zfv, zfs', ziok, ziv, zpok, zis', zlok, zlv', zls', zbok, zrok, zrv', zrs', zaok, zan, zcok, zcs', zis, zgv, zgh, zcat, zw_1, zw_21, zw_at, zclr_int, zclr_ref, zclr_null, zclr_none, zclr_long, zclr_clr, zbv_0, zbv_1, zbv_ite, zbv_ite', Value.category, xr0, xr1, xr2, xr3, xr4, xr5, xr6, xr7, xr8, xr265, xr266, xr267, xr268, xr269, xr270, xr271, xr272, xr273, xr274, xr275, xr276, xr277, xr278, xr279, xr280, xr281, xr282, xr283, xr284, xr285, xr286, xr287, xr288, xr289, xr290, xr291, xr292, xr293, xr294, xr295, xr296, xr297, xr298, xr299, xr300, xr301, xr302, xv2, xv3, xv4, xv6, xv7, xv266, xv268, xv269, xv270, xv271, xv273, xv274, xv275, xv276, xv277, xv278, xv279, xv280, xv281, xv282, xv283, xv284, xv285, xv286, xv287, xv288, xv289, xv290, xv291, xv292, xv293, xv294, xv295, xv296, xv297, xv298, xv299, xv300, xv301, xv302, znar0, znar1, znarI, zfitb, zfitb1, xC_N_mk, xC_tg_mk, xC_hd_mk, xC_wt_mk, xC_fb_mk, xC_R_mk, xC_G_mk, xC_P_mk, xC_Q_mk, xC_E_mk, xC_kr_mk, xC_ct_mk, xC_tt_mk, xC_A_mk, xC_qs_mk, xC_qx_mk, xC_qy_mk, xC_vs_mk, xC_lo_mk, xC_hg_mk, xC_ab_mk, xC_fo_mk, xC_pk_mk, xC_K_mk, xC_kd_mk, xM_n_mk, xM_tg_mk, xM_hd_mk, xM_wt_mk, xM_fb_mk, xM_kn_mk, xM_mn_mk, xM_rk_mk, xM_rs_mk, xM_rh_mk, xM_E_mk, xM_gn_mk, xM_ks_mk, xM_kt_mk, xM_kh_mk, xM_A_mk, xM_qs_mk, xM_qx_mk, xM_qy_mk, xM_rw_mk, xM_wo_mk, xM_ia_mk, xM_fo_mk, xM_pr_mk, xM_h_mk, xS_N_mk, xS_tg_mk, xS_hd_mk, xS_wt_mk, xS_fb_mk, xS_E_mk, xS_gn_mk, xS_ks_mk, xS_kt_mk, xS_kh_mk, xS_A_mk, xS_qs_mk, xS_qx_mk, xS_qy_mk, xC_eta, xM_eta, xS_eta, e1, e2, e4, e5]
theorem l_s50 (ok : xOk σ) (rm : xRM ca σ M) {w nn : Int32} {l6 l7 l8 l5 : Option Value} : ∀ (c i : Nat) (ia : Nat → Int32), c + i = σ.A → ∃ ia', (∀ u, u < 4 → ia' u = if zask1 σ u c i = true then 1 else ia u) ∧ zD 123 50 [some (.ref 283), some (.int k), some (.int w), some (.int nn), some (.int (nI i)), l5, l6, l7, l8] [] (xW L xs s C (xM.mk M.n M.tg M.hd M.wt M.fb M.kn M.mn M.rk M.rs M.rh M.E M.gn M.ks M.kt M.kh M.A M.qs M.qx M.qy M.rw M.wo ia M.fo M.pr M.h)) = zD 123 108 [some (.ref 283), some (.int k), some (.int w), some (.int nn), some (.int 1), some (.int 0), l6, l7, l8] [] (xW L xs s C (xM.mk M.n M.tg M.hd M.wt M.fb M.kn M.mn M.rk M.rs M.rh M.E M.gn M.ks M.kt M.kh M.A M.qs M.qx M.qy M.rw M.wo ia' M.fo M.pr M.h))
  | 0, i, ia, e => by
    have A6 := ok.A6
    have e1 : nI σ.A ≤ nI i := by rw [zle (by omega) (by omega)]; omega
    rw [← rm.A] at e1
    refine ⟨ia, fun u x => by simp [zask1], ?_⟩
    rw [E_X10_search_h50]
    simp [E_X10_search, zfok, zfv, zfs', ziok, ziv, zpok, zis', zlok, zlv', zls', zbok, zrok, zrv', zrs', zaok, zan, zcok, zcs', zis, zgv, zgh, zcat, zw_1, zw_21, zw_at, zclr_int, zclr_ref, zclr_null, zclr_none, zclr_long, zclr_clr, zbv_0, zbv_1, zbv_ite, zbv_ite', Value.category, xr0, xr1, xr2, xr3, xr4, xr5, xr6, xr7, xr8, xr265, xr266, xr267, xr268, xr269, xr270, xr271, xr272, xr273, xr274, xr275, xr276, xr277, xr278, xr279, xr280, xr281, xr282, xr283, xr284, xr285, xr286, xr287, xr288, xr289, xr290, xr291, xr292, xr293, xr294, xr295, xr296, xr297, xr298, xr299, xr300, xr301, xr302, xv2, xv3, xv4, xv6, xv7, xv266, xv268, xv269, xv270, xv271, xv273, xv274, xv275, xv276, xv277, xv278, xv279, xv280, xv281, xv282, xv283, xv284, xv285, xv286, xv287, xv288, xv289, xv290, xv291, xv292, xv293, xv294, xv295, xv296, xv297, xv298, xv299, xv300, xv301, xv302, znar0, znar1, znarI, zfitb, zfitb1, xC_N_mk, xC_tg_mk, xC_hd_mk, xC_wt_mk, xC_fb_mk, xC_R_mk, xC_G_mk, xC_P_mk, xC_Q_mk, xC_E_mk, xC_kr_mk, xC_ct_mk, xC_tt_mk, xC_A_mk, xC_qs_mk, xC_qx_mk, xC_qy_mk, xC_vs_mk, xC_lo_mk, xC_hg_mk, xC_ab_mk, xC_fo_mk, xC_pk_mk, xC_K_mk, xC_kd_mk, xM_n_mk, xM_tg_mk, xM_hd_mk, xM_wt_mk, xM_fb_mk, xM_kn_mk, xM_mn_mk, xM_rk_mk, xM_rs_mk, xM_rh_mk, xM_E_mk, xM_gn_mk, xM_ks_mk, xM_kt_mk, xM_kh_mk, xM_A_mk, xM_qs_mk, xM_qx_mk, xM_qy_mk, xM_rw_mk, xM_wo_mk, xM_ia_mk, xM_fo_mk, xM_pr_mk, xM_h_mk, xS_N_mk, xS_tg_mk, xS_hd_mk, xS_wt_mk, xS_fb_mk, xS_E_mk, xS_gn_mk, xS_ks_mk, xS_kt_mk, xS_kh_mk, xS_A_mk, xS_qs_mk, xS_qx_mk, xS_qy_mk, xC_eta, xM_eta, xS_eta, e1]
  | c + 1, i, ia, e => by
    have A6 := ok.A6
    have e1 : ¬ nI σ.A ≤ nI i := by rw [zle (by omega) (by omega)]; omega
    rw [← rm.A] at e1
    have e2 : nI i + 1 = nI (i + 1) := nI_1 i
    have e4 : zin (nI i) 6 = true := zin8 (by omega) (by omega)
    have e5 : (nI i).toNatClampNeg = i := zcl7 (by omega)
    have rq := rm.q i (by omega)
    have b := ok.q4 i (by omega)
    have z2 : (nI (σ.qs i) = 3) ↔ σ.qs i = 3 := zeq (b := 3) (by omega) (by omega)
    have f1 : zin (nI (σ.qx i)) 4 = true := zin8 (by omega) (by omega)
    have f2 : (nI (σ.qx i)).toNatClampNeg = σ.qx i := zcl7 (by omega)
    by_cases s3 : σ.qs i = 3
    · obtain ⟨ia', p1, p2⟩ := l_s50 ok rm (w := w) (nn := nn) (l5 := l5) (l6 := l6) (l7 := l7) (l8 := l8) c (i + 1) (upd ia (σ.qx i) 1) (by omega)
      refine ⟨ia', fun u hu => ?_, ?_⟩
      · rw [p1 u hu, zask1]
        unfold upd
        by_cases q : σ.qx i = u
        · simp [q]
        · have q' : ¬ u = σ.qx i := fun z => q z.symm
          simp [q, s3, q']
      · rw [← p2, E_X10_search_h50]
        simp [E_X10_search, zfok, zfv, zfs', ziok, ziv, zpok, zis', zlok, zlv', zls', zbok, zrok, zrv', zrs', zaok, zan, zcok, zcs', zis, zgv, zgh, zcat, zw_1, zw_21, zw_at, zclr_int, zclr_ref, zclr_null, zclr_none, zclr_long, zclr_clr, zbv_0, zbv_1, zbv_ite, zbv_ite', Value.category, xr0, xr1, xr2, xr3, xr4, xr5, xr6, xr7, xr8, xr265, xr266, xr267, xr268, xr269, xr270, xr271, xr272, xr273, xr274, xr275, xr276, xr277, xr278, xr279, xr280, xr281, xr282, xr283, xr284, xr285, xr286, xr287, xr288, xr289, xr290, xr291, xr292, xr293, xr294, xr295, xr296, xr297, xr298, xr299, xr300, xr301, xr302, xv2, xv3, xv4, xv6, xv7, xv266, xv268, xv269, xv270, xv271, xv273, xv274, xv275, xv276, xv277, xv278, xv279, xv280, xv281, xv282, xv283, xv284, xv285, xv286, xv287, xv288, xv289, xv290, xv291, xv292, xv293, xv294, xv295, xv296, xv297, xv298, xv299, xv300, xv301, xv302, znar0, znar1, znarI, zfitb, zfitb1, xC_N_mk, xC_tg_mk, xC_hd_mk, xC_wt_mk, xC_fb_mk, xC_R_mk, xC_G_mk, xC_P_mk, xC_Q_mk, xC_E_mk, xC_kr_mk, xC_ct_mk, xC_tt_mk, xC_A_mk, xC_qs_mk, xC_qx_mk, xC_qy_mk, xC_vs_mk, xC_lo_mk, xC_hg_mk, xC_ab_mk, xC_fo_mk, xC_pk_mk, xC_K_mk, xC_kd_mk, xM_n_mk, xM_tg_mk, xM_hd_mk, xM_wt_mk, xM_fb_mk, xM_kn_mk, xM_mn_mk, xM_rk_mk, xM_rs_mk, xM_rh_mk, xM_E_mk, xM_gn_mk, xM_ks_mk, xM_kt_mk, xM_kh_mk, xM_A_mk, xM_qs_mk, xM_qx_mk, xM_qy_mk, xM_rw_mk, xM_wo_mk, xM_ia_mk, xM_fo_mk, xM_pr_mk, xM_h_mk, xS_N_mk, xS_tg_mk, xS_hd_mk, xS_wt_mk, xS_fb_mk, xS_E_mk, xS_gn_mk, xS_ks_mk, xS_kt_mk, xS_kh_mk, xS_A_mk, xS_qs_mk, xS_qx_mk, xS_qy_mk, xC_eta, xM_eta, xS_eta, e1, e2, e4, e5, rq.1, rq.2.1, f1, f2, z2, s3, show nI 3 = 3 from rfl]
    · have y3 : σ.qy i ≤ 3 := by have := b.2.2; rw [if_neg s3] at this; exact this
      have g1 : zin (nI (σ.qy i)) 4 = true := zin8 (by omega) (by omega)
      have g2 : (nI (σ.qy i)).toNatClampNeg = σ.qy i := zcl7 (by omega)
      obtain ⟨ia', p1, p2⟩ := l_s50 ok rm (w := w) (nn := nn) (l5 := l5) (l6 := l6) (l7 := l7) (l8 := l8) c (i + 1) (upd (upd ia (σ.qx i) 1) (σ.qy i) 1) (by omega)
      refine ⟨ia', fun u hu => ?_, ?_⟩
      · rw [p1 u hu, zask1]
        unfold upd
        by_cases q : σ.qx i = u
        · simp [q]
        · by_cases q2 : σ.qy i = u
          · simp [q2, s3]
          · have q' : ¬ u = σ.qx i := fun z => q z.symm
            have q2' : ¬ u = σ.qy i := fun z => q2 z.symm
            simp [q, q2, q', q2']
      · rw [← p2, E_X10_search_h50]
        simp [E_X10_search, zfok, zfv, zfs', ziok, ziv, zpok, zis', zlok, zlv', zls', zbok, zrok, zrv', zrs', zaok, zan, zcok, zcs', zis, zgv, zgh, zcat, zw_1, zw_21, zw_at, zclr_int, zclr_ref, zclr_null, zclr_none, zclr_long, zclr_clr, zbv_0, zbv_1, zbv_ite, zbv_ite', Value.category, xr0, xr1, xr2, xr3, xr4, xr5, xr6, xr7, xr8, xr265, xr266, xr267, xr268, xr269, xr270, xr271, xr272, xr273, xr274, xr275, xr276, xr277, xr278, xr279, xr280, xr281, xr282, xr283, xr284, xr285, xr286, xr287, xr288, xr289, xr290, xr291, xr292, xr293, xr294, xr295, xr296, xr297, xr298, xr299, xr300, xr301, xr302, xv2, xv3, xv4, xv6, xv7, xv266, xv268, xv269, xv270, xv271, xv273, xv274, xv275, xv276, xv277, xv278, xv279, xv280, xv281, xv282, xv283, xv284, xv285, xv286, xv287, xv288, xv289, xv290, xv291, xv292, xv293, xv294, xv295, xv296, xv297, xv298, xv299, xv300, xv301, xv302, znar0, znar1, znarI, zfitb, zfitb1, xC_N_mk, xC_tg_mk, xC_hd_mk, xC_wt_mk, xC_fb_mk, xC_R_mk, xC_G_mk, xC_P_mk, xC_Q_mk, xC_E_mk, xC_kr_mk, xC_ct_mk, xC_tt_mk, xC_A_mk, xC_qs_mk, xC_qx_mk, xC_qy_mk, xC_vs_mk, xC_lo_mk, xC_hg_mk, xC_ab_mk, xC_fo_mk, xC_pk_mk, xC_K_mk, xC_kd_mk, xM_n_mk, xM_tg_mk, xM_hd_mk, xM_wt_mk, xM_fb_mk, xM_kn_mk, xM_mn_mk, xM_rk_mk, xM_rs_mk, xM_rh_mk, xM_E_mk, xM_gn_mk, xM_ks_mk, xM_kt_mk, xM_kh_mk, xM_A_mk, xM_qs_mk, xM_qx_mk, xM_qy_mk, xM_rw_mk, xM_wo_mk, xM_ia_mk, xM_fo_mk, xM_pr_mk, xM_h_mk, xS_N_mk, xS_tg_mk, xS_hd_mk, xS_wt_mk, xS_fb_mk, xS_E_mk, xS_gn_mk, xS_ks_mk, xS_kt_mk, xS_kh_mk, xS_A_mk, xS_qs_mk, xS_qx_mk, xS_qy_mk, xC_eta, xM_eta, xS_eta, e1, e2, e4, e5, rq.1, rq.2.1, rq.2.2, f1, f2, g1, g2, z2, s3]
def zpr (σ : xS) (n : Nat) : Nat → Nat → Nat → Nat
  | 0, _, m => m
  | c + 1, v, m => zpr σ n c (v + 1) (m * zrn σ n v)
theorem l_s108 {ia : Nat → Int32} (hia : ∀ u, u < 4 → ia u = if zask σ u = true then 1 else 0) {w : Int32} {l6 l7 l8 : Option Value} : ∀ (c v m : Nat), c + v = 4 → zD 123 108 [some (.ref 283), some (.int k), some (.int w), some (.int (nI n)), some (.int (nI m)), some (.int (nI v)), l6, l7, l8] [] (xW L xs s C (xM.mk M.n M.tg M.hd M.wt M.fb M.kn M.mn M.rk M.rs M.rh M.E M.gn M.ks M.kt M.kh M.A M.qs M.qx M.qy M.rw M.wo ia M.fo M.pr M.h)) = zD 123 151 [some (.ref 283), some (.int k), some (.int w), some (.int (nI n)), some (.int (nI (zpr σ n c v m))), some (.int (-1)), some (.int 0), l7, l8] [] (xW L xs s C (xM.mk M.n M.tg M.hd M.wt M.fb M.kn M.mn M.rk M.rs M.rh M.E M.gn M.ks M.kt M.kh M.A M.qs M.qx M.qy M.rw M.wo ia 0 M.pr M.h))
  | 0, v, m, e => by
    have e1 : (4 : Int32) ≤ nI v := (zle (a := 4) (by omega) (by omega)).mpr (by omega)
    rw [E_X10_search_h108]
    simp [E_X10_search, zfok, zfv, zfs', ziok, ziv, zpok, zis', zlok, zlv', zls', zbok, zrok, zrv', zrs', zaok, zan, zcok, zcs', zis, zgv, zgh, zcat, zw_1, zw_21, zw_at, zclr_int, zclr_ref, zclr_null, zclr_none, zclr_long, zclr_clr, zbv_0, zbv_1, zbv_ite, zbv_ite', Value.category, xr0, xr1, xr2, xr3, xr4, xr5, xr6, xr7, xr8, xr265, xr266, xr267, xr268, xr269, xr270, xr271, xr272, xr273, xr274, xr275, xr276, xr277, xr278, xr279, xr280, xr281, xr282, xr283, xr284, xr285, xr286, xr287, xr288, xr289, xr290, xr291, xr292, xr293, xr294, xr295, xr296, xr297, xr298, xr299, xr300, xr301, xr302, xv2, xv3, xv4, xv6, xv7, xv266, xv268, xv269, xv270, xv271, xv273, xv274, xv275, xv276, xv277, xv278, xv279, xv280, xv281, xv282, xv283, xv284, xv285, xv286, xv287, xv288, xv289, xv290, xv291, xv292, xv293, xv294, xv295, xv296, xv297, xv298, xv299, xv300, xv301, xv302, znar0, znar1, znarI, zfitb, zfitb1, xC_N_mk, xC_tg_mk, xC_hd_mk, xC_wt_mk, xC_fb_mk, xC_R_mk, xC_G_mk, xC_P_mk, xC_Q_mk, xC_E_mk, xC_kr_mk, xC_ct_mk, xC_tt_mk, xC_A_mk, xC_qs_mk, xC_qx_mk, xC_qy_mk, xC_vs_mk, xC_lo_mk, xC_hg_mk, xC_ab_mk, xC_fo_mk, xC_pk_mk, xC_K_mk, xC_kd_mk, xM_n_mk, xM_tg_mk, xM_hd_mk, xM_wt_mk, xM_fb_mk, xM_kn_mk, xM_mn_mk, xM_rk_mk, xM_rs_mk, xM_rh_mk, xM_E_mk, xM_gn_mk, xM_ks_mk, xM_kt_mk, xM_kh_mk, xM_A_mk, xM_qs_mk, xM_qx_mk, xM_qy_mk, xM_rw_mk, xM_wo_mk, xM_ia_mk, xM_fo_mk, xM_pr_mk, xM_h_mk, xS_N_mk, xS_tg_mk, xS_hd_mk, xS_wt_mk, xS_fb_mk, xS_E_mk, xS_gn_mk, xS_ks_mk, xS_kt_mk, xS_kh_mk, xS_A_mk, xS_qs_mk, xS_qx_mk, xS_qy_mk, xC_eta, xM_eta, xS_eta, e1, zpr]
  | c + 1, v, m, e => by
    have e1 : ¬ (4 : Int32) ≤ nI v := fun z => absurd ((zle (a := 4) (by omega) (by omega)).mp z) (by omega)
    have e2 : nI v + 1 = nI (v + 1) := nI_1 v
    have e4 : zin (nI v) 4 = true := zin8 (by omega) (by omega)
    have e5 : (nI v).toNatClampNeg = v := zcl7 (by omega)
    have hv := hia v (by omega)
    rw [zpr, ← l_s108 hia (l6 := l6) c (v + 1) _ (by omega), E_X10_search_h108]
    unfold zrn
    by_cases q : zask σ v = true
    · rw [if_pos q] at hv ⊢
      have e6 : nI m * nI n = nI (m * n) := pk_mul _ _
      simp [E_X10_search, zfok, zfv, zfs', ziok, ziv, zpok, zis', zlok, zlv', zls', zbok, zrok, zrv', zrs', zaok, zan, zcok, zcs', zis, zgv, zgh, zcat, zw_1, zw_21, zw_at, zclr_int, zclr_ref, zclr_null, zclr_none, zclr_long, zclr_clr, zbv_0, zbv_1, zbv_ite, zbv_ite', Value.category, xr0, xr1, xr2, xr3, xr4, xr5, xr6, xr7, xr8, xr265, xr266, xr267, xr268, xr269, xr270, xr271, xr272, xr273, xr274, xr275, xr276, xr277, xr278, xr279, xr280, xr281, xr282, xr283, xr284, xr285, xr286, xr287, xr288, xr289, xr290, xr291, xr292, xr293, xr294, xr295, xr296, xr297, xr298, xr299, xr300, xr301, xr302, xv2, xv3, xv4, xv6, xv7, xv266, xv268, xv269, xv270, xv271, xv273, xv274, xv275, xv276, xv277, xv278, xv279, xv280, xv281, xv282, xv283, xv284, xv285, xv286, xv287, xv288, xv289, xv290, xv291, xv292, xv293, xv294, xv295, xv296, xv297, xv298, xv299, xv300, xv301, xv302, znar0, znar1, znarI, zfitb, zfitb1, xC_N_mk, xC_tg_mk, xC_hd_mk, xC_wt_mk, xC_fb_mk, xC_R_mk, xC_G_mk, xC_P_mk, xC_Q_mk, xC_E_mk, xC_kr_mk, xC_ct_mk, xC_tt_mk, xC_A_mk, xC_qs_mk, xC_qx_mk, xC_qy_mk, xC_vs_mk, xC_lo_mk, xC_hg_mk, xC_ab_mk, xC_fo_mk, xC_pk_mk, xC_K_mk, xC_kd_mk, xM_n_mk, xM_tg_mk, xM_hd_mk, xM_wt_mk, xM_fb_mk, xM_kn_mk, xM_mn_mk, xM_rk_mk, xM_rs_mk, xM_rh_mk, xM_E_mk, xM_gn_mk, xM_ks_mk, xM_kt_mk, xM_kh_mk, xM_A_mk, xM_qs_mk, xM_qx_mk, xM_qy_mk, xM_rw_mk, xM_wo_mk, xM_ia_mk, xM_fo_mk, xM_pr_mk, xM_h_mk, xS_N_mk, xS_tg_mk, xS_hd_mk, xS_wt_mk, xS_fb_mk, xS_E_mk, xS_gn_mk, xS_ks_mk, xS_kt_mk, xS_kh_mk, xS_A_mk, xS_qs_mk, xS_qx_mk, xS_qy_mk, xC_eta, xM_eta, xS_eta, e1, e2, e4, e5, hv, e6]
    · rw [if_neg q] at hv ⊢
      simp [E_X10_search, zfok, zfv, zfs', ziok, ziv, zpok, zis', zlok, zlv', zls', zbok, zrok, zrv', zrs', zaok, zan, zcok, zcs', zis, zgv, zgh, zcat, zw_1, zw_21, zw_at, zclr_int, zclr_ref, zclr_null, zclr_none, zclr_long, zclr_clr, zbv_0, zbv_1, zbv_ite, zbv_ite', Value.category, xr0, xr1, xr2, xr3, xr4, xr5, xr6, xr7, xr8, xr265, xr266, xr267, xr268, xr269, xr270, xr271, xr272, xr273, xr274, xr275, xr276, xr277, xr278, xr279, xr280, xr281, xr282, xr283, xr284, xr285, xr286, xr287, xr288, xr289, xr290, xr291, xr292, xr293, xr294, xr295, xr296, xr297, xr298, xr299, xr300, xr301, xr302, xv2, xv3, xv4, xv6, xv7, xv266, xv268, xv269, xv270, xv271, xv273, xv274, xv275, xv276, xv277, xv278, xv279, xv280, xv281, xv282, xv283, xv284, xv285, xv286, xv287, xv288, xv289, xv290, xv291, xv292, xv293, xv294, xv295, xv296, xv297, xv298, xv299, xv300, xv301, xv302, znar0, znar1, znarI, zfitb, zfitb1, xC_N_mk, xC_tg_mk, xC_hd_mk, xC_wt_mk, xC_fb_mk, xC_R_mk, xC_G_mk, xC_P_mk, xC_Q_mk, xC_E_mk, xC_kr_mk, xC_ct_mk, xC_tt_mk, xC_A_mk, xC_qs_mk, xC_qx_mk, xC_qy_mk, xC_vs_mk, xC_lo_mk, xC_hg_mk, xC_ab_mk, xC_fo_mk, xC_pk_mk, xC_K_mk, xC_kd_mk, xM_n_mk, xM_tg_mk, xM_hd_mk, xM_wt_mk, xM_fb_mk, xM_kn_mk, xM_mn_mk, xM_rk_mk, xM_rs_mk, xM_rh_mk, xM_E_mk, xM_gn_mk, xM_ks_mk, xM_kt_mk, xM_kh_mk, xM_A_mk, xM_qs_mk, xM_qx_mk, xM_qy_mk, xM_rw_mk, xM_wo_mk, xM_ia_mk, xM_fo_mk, xM_pr_mk, xM_h_mk, xS_N_mk, xS_tg_mk, xS_hd_mk, xS_wt_mk, xS_fb_mk, xS_E_mk, xS_gn_mk, xS_ks_mk, xS_kt_mk, xS_kh_mk, xS_A_mk, xS_qs_mk, xS_qx_mk, xS_qy_mk, xC_eta, xM_eta, xS_eta, e1, e2, e4, e5, hv]
theorem l_s165 {ia : Nat → Int32} (hia : ∀ u, u < 4 → ia u = if zask σ u = true then 1 else 0) (hn1 : 1 ≤ n) (hn : n ≤ 7) {w gt : Int32} {al cd : Nat} {v lf : Nat} (hv : v < 4) (hl : lf < 1000000) {wo : Nat → Int32} {fo : Int32} : zD 123 165 [some (.ref 283), some (.int k), some (.int w), some (.int (nI n)), some (.int (nI al)), some (.int gt), some (.int (nI cd)), some (.int (nI lf)), some (.int (nI v))] [] (xW L xs s C (xM.mk M.n M.tg M.hd M.wt M.fb M.kn M.mn M.rk M.rs M.rh M.E M.gn M.ks M.kt M.kh M.A M.qs M.qx M.qy M.rw wo ia fo M.pr M.h)) = zD 123 165 [some (.ref 283), some (.int k), some (.int w), some (.int (nI n)), some (.int (nI al)), some (.int gt), some (.int (nI cd)), some (.int (nI (lf / zrn σ n v))), some (.int (nI v + -1))] [] (xW L xs s C (xM.mk M.n M.tg M.hd M.wt M.fb M.kn M.mn M.rk M.rs M.rh M.E M.gn M.ks M.kt M.kh M.A M.qs M.qx M.qy M.rw (upd wo v (nI (zrl σ v + lf % zrn σ n v))) ia fo M.pr M.h)) := by
  have e1 : ¬ nI v < 0 := zge0 (by omega)
  have e4 : zin (nI v) 4 = true := zin8 (by omega) (by omega)
  have e5 : (nI v).toNatClampNeg = v := zcl7 (by omega)
  have hv' := hia v hv
  have e6 : ¬ nI n = 0 := fun z => absurd ((zeq (b := 0) (by omega) (by omega)).mp z) (by omega)
  unfold zrn zrl
  rw [E_X10_search_h165]
  by_cases q : zask σ v = true
  · rw [if_pos q] at hv' ⊢
    rw [if_pos q]
    have e7 := nI_mod (a := lf) (b := n) (by omega) (by omega)
    have e8 := nI_div (a := lf) (b := n) (by omega) (by omega)
    rw [e8] at e7
    have e9 : nI (lf % n) + 1 = nI (1 + lf % n) := by rw [nI_1, Nat.add_comm]
    simp [E_X10_search, zfok, zfv, zfs', ziok, ziv, zpok, zis', zlok, zlv', zls', zbok, zrok, zrv', zrs', zaok, zan, zcok, zcs', zis, zgv, zgh, zcat, zw_1, zw_21, zw_at, zclr_int, zclr_ref, zclr_null, zclr_none, zclr_long, zclr_clr, zbv_0, zbv_1, zbv_ite, zbv_ite', Value.category, xr0, xr1, xr2, xr3, xr4, xr5, xr6, xr7, xr8, xr265, xr266, xr267, xr268, xr269, xr270, xr271, xr272, xr273, xr274, xr275, xr276, xr277, xr278, xr279, xr280, xr281, xr282, xr283, xr284, xr285, xr286, xr287, xr288, xr289, xr290, xr291, xr292, xr293, xr294, xr295, xr296, xr297, xr298, xr299, xr300, xr301, xr302, xv2, xv3, xv4, xv6, xv7, xv266, xv268, xv269, xv270, xv271, xv273, xv274, xv275, xv276, xv277, xv278, xv279, xv280, xv281, xv282, xv283, xv284, xv285, xv286, xv287, xv288, xv289, xv290, xv291, xv292, xv293, xv294, xv295, xv296, xv297, xv298, xv299, xv300, xv301, xv302, znar0, znar1, znarI, zfitb, zfitb1, xC_N_mk, xC_tg_mk, xC_hd_mk, xC_wt_mk, xC_fb_mk, xC_R_mk, xC_G_mk, xC_P_mk, xC_Q_mk, xC_E_mk, xC_kr_mk, xC_ct_mk, xC_tt_mk, xC_A_mk, xC_qs_mk, xC_qx_mk, xC_qy_mk, xC_vs_mk, xC_lo_mk, xC_hg_mk, xC_ab_mk, xC_fo_mk, xC_pk_mk, xC_K_mk, xC_kd_mk, xM_n_mk, xM_tg_mk, xM_hd_mk, xM_wt_mk, xM_fb_mk, xM_kn_mk, xM_mn_mk, xM_rk_mk, xM_rs_mk, xM_rh_mk, xM_E_mk, xM_gn_mk, xM_ks_mk, xM_kt_mk, xM_kh_mk, xM_A_mk, xM_qs_mk, xM_qx_mk, xM_qy_mk, xM_rw_mk, xM_wo_mk, xM_ia_mk, xM_fo_mk, xM_pr_mk, xM_h_mk, xS_N_mk, xS_tg_mk, xS_hd_mk, xS_wt_mk, xS_fb_mk, xS_E_mk, xS_gn_mk, xS_ks_mk, xS_kt_mk, xS_kh_mk, xS_A_mk, xS_qs_mk, xS_qx_mk, xS_qy_mk, xC_eta, xM_eta, xS_eta, e1, e4, e5, hv', e6, e7, e8, e9]
  · rw [if_neg q] at hv' ⊢
    rw [if_neg q]
    simp [E_X10_search, zfok, zfv, zfs', ziok, ziv, zpok, zis', zlok, zlv', zls', zbok, zrok, zrv', zrs', zaok, zan, zcok, zcs', zis, zgv, zgh, zcat, zw_1, zw_21, zw_at, zclr_int, zclr_ref, zclr_null, zclr_none, zclr_long, zclr_clr, zbv_0, zbv_1, zbv_ite, zbv_ite', Value.category, xr0, xr1, xr2, xr3, xr4, xr5, xr6, xr7, xr8, xr265, xr266, xr267, xr268, xr269, xr270, xr271, xr272, xr273, xr274, xr275, xr276, xr277, xr278, xr279, xr280, xr281, xr282, xr283, xr284, xr285, xr286, xr287, xr288, xr289, xr290, xr291, xr292, xr293, xr294, xr295, xr296, xr297, xr298, xr299, xr300, xr301, xr302, xv2, xv3, xv4, xv6, xv7, xv266, xv268, xv269, xv270, xv271, xv273, xv274, xv275, xv276, xv277, xv278, xv279, xv280, xv281, xv282, xv283, xv284, xv285, xv286, xv287, xv288, xv289, xv290, xv291, xv292, xv293, xv294, xv295, xv296, xv297, xv298, xv299, xv300, xv301, xv302, znar0, znar1, znarI, zfitb, zfitb1, xC_N_mk, xC_tg_mk, xC_hd_mk, xC_wt_mk, xC_fb_mk, xC_R_mk, xC_G_mk, xC_P_mk, xC_Q_mk, xC_E_mk, xC_kr_mk, xC_ct_mk, xC_tt_mk, xC_A_mk, xC_qs_mk, xC_qx_mk, xC_qy_mk, xC_vs_mk, xC_lo_mk, xC_hg_mk, xC_ab_mk, xC_fo_mk, xC_pk_mk, xC_K_mk, xC_kd_mk, xM_n_mk, xM_tg_mk, xM_hd_mk, xM_wt_mk, xM_fb_mk, xM_kn_mk, xM_mn_mk, xM_rk_mk, xM_rs_mk, xM_rh_mk, xM_E_mk, xM_gn_mk, xM_ks_mk, xM_kt_mk, xM_kh_mk, xM_A_mk, xM_qs_mk, xM_qx_mk, xM_qy_mk, xM_rw_mk, xM_wo_mk, xM_ia_mk, xM_fo_mk, xM_pr_mk, xM_h_mk, xS_N_mk, xS_tg_mk, xS_hd_mk, xS_wt_mk, xS_fb_mk, xS_E_mk, xS_gn_mk, xS_ks_mk, xS_kt_mk, xS_kh_mk, xS_A_mk, xS_qs_mk, xS_qx_mk, xS_qy_mk, xC_eta, xM_eta, xS_eta, e1, e4, e5, hv', Nat.mod_one, nI_0]
theorem l_s151 (ok : xOk σ) (rm : xRM ca σ M) (h : dwn σ k o n tg hd) (ht : ∀ x, zit hd n x = 0) (hr : M.rw = fun d => nI (hd d)) {ia : Nat → Int32} (hia : ∀ u, u < 4 → ia u = if zask σ u = true then 1 else 0) {w : Int32} {al : Nat} (hal : al < 100000) : ∀ (c cd : Nat) (wo : Nat → Int32) (S : Nat × Int32) (l7 l8 : Option Value), c + cd = al → ∃ wo', zD 123 151 [some (.ref 283), some (.int k), some (.int w), some (.int (nI n)), some (.int (nI al)), some (.int S.2), some (.int (nI cd)), l7, l8] [] (xW L xs s C (xM.mk M.n M.tg M.hd M.wt M.fb M.kn M.mn M.rk M.rs M.rh M.E M.gn M.ks M.kt M.kh M.A M.qs M.qx M.qy M.rw wo ia (nI S.1) M.pr M.h)) = some (some (.int (fld (zcd σ n tg hd w) c cd S).2), xW L xs s C (xM.mk M.n M.tg M.hd M.wt M.fb M.kn M.mn M.rk M.rs M.rh M.E M.gn M.ks M.kt M.kh M.A M.qs M.qx M.qy M.rw wo' ia (nI (fld (zcd σ n tg hd w) c cd S).1) M.pr M.h))
  | 0, cd, wo, S, l7, l8, e => by
    have e1 : nI al ≤ nI cd := by rw [zle (by omega) (by omega)]; omega
    refine ⟨wo, ?_⟩
    rw [E_X10_search_h151]
    simp [E_X10_search, zfok, zfv, zfs', ziok, ziv, zpok, zis', zlok, zlv', zls', zbok, zrok, zrv', zrs', zaok, zan, zcok, zcs', zis, zgv, zgh, zcat, zw_1, zw_21, zw_at, zclr_int, zclr_ref, zclr_null, zclr_none, zclr_long, zclr_clr, zbv_0, zbv_1, zbv_ite, zbv_ite', Value.category, xr0, xr1, xr2, xr3, xr4, xr5, xr6, xr7, xr8, xr265, xr266, xr267, xr268, xr269, xr270, xr271, xr272, xr273, xr274, xr275, xr276, xr277, xr278, xr279, xr280, xr281, xr282, xr283, xr284, xr285, xr286, xr287, xr288, xr289, xr290, xr291, xr292, xr293, xr294, xr295, xr296, xr297, xr298, xr299, xr300, xr301, xr302, xv2, xv3, xv4, xv6, xv7, xv266, xv268, xv269, xv270, xv271, xv273, xv274, xv275, xv276, xv277, xv278, xv279, xv280, xv281, xv282, xv283, xv284, xv285, xv286, xv287, xv288, xv289, xv290, xv291, xv292, xv293, xv294, xv295, xv296, xv297, xv298, xv299, xv300, xv301, xv302, znar0, znar1, znarI, zfitb, zfitb1, xC_N_mk, xC_tg_mk, xC_hd_mk, xC_wt_mk, xC_fb_mk, xC_R_mk, xC_G_mk, xC_P_mk, xC_Q_mk, xC_E_mk, xC_kr_mk, xC_ct_mk, xC_tt_mk, xC_A_mk, xC_qs_mk, xC_qx_mk, xC_qy_mk, xC_vs_mk, xC_lo_mk, xC_hg_mk, xC_ab_mk, xC_fo_mk, xC_pk_mk, xC_K_mk, xC_kd_mk, xM_n_mk, xM_tg_mk, xM_hd_mk, xM_wt_mk, xM_fb_mk, xM_kn_mk, xM_mn_mk, xM_rk_mk, xM_rs_mk, xM_rh_mk, xM_E_mk, xM_gn_mk, xM_ks_mk, xM_kt_mk, xM_kh_mk, xM_A_mk, xM_qs_mk, xM_qx_mk, xM_qy_mk, xM_rw_mk, xM_wo_mk, xM_ia_mk, xM_fo_mk, xM_pr_mk, xM_h_mk, xS_N_mk, xS_tg_mk, xS_hd_mk, xS_wt_mk, xS_fb_mk, xS_E_mk, xS_gn_mk, xS_ks_mk, xS_kt_mk, xS_kh_mk, xS_A_mk, xS_qs_mk, xS_qx_mk, xS_qy_mk, xC_eta, xM_eta, xS_eta, e1, fld]
  | c + 1, cd, wo, S, l7, l8, e => by
    have od := dwn_d ok h
    have n7 := od.n7
    have n1 := od.n1
    have e1 : ¬ nI al ≤ nI cd := by rw [zle (by omega) (by omega)]; omega
    have e2 : nI cd + 1 = nI (cd + 1) := nI_1 cd
    have d3 := Nat.div_le_self cd (zrn σ n 3)
    have d2 := Nat.div_le_self (cd / zrn σ n 3) (zrn σ n 2)
    have d1 := Nat.div_le_self (cd / zrn σ n 3 / zrn σ n 2) (zrn σ n 1)
    have a3 := l_s165 (L := L) (xs := xs) (s := s) (C := C) (M := M) (k := k) hia n1 n7 (w := w) (gt := S.2) (al := al) (cd := cd) (v := 3) (lf := cd) (by omega) (by omega) (wo := wo) (fo := nI S.1)
    have a2 := fun wo => l_s165 (L := L) (xs := xs) (s := s) (C := C) (M := M) (k := k) hia n1 n7 (w := w) (gt := S.2) (al := al) (cd := cd) (v := 2) (lf := cd / zrn σ n 3) (by omega) (by omega) (wo := wo) (fo := nI S.1)
    have a1 := fun wo => l_s165 (L := L) (xs := xs) (s := s) (C := C) (M := M) (k := k) hia n1 n7 (w := w) (gt := S.2) (al := al) (cd := cd) (v := 1) (lf := cd / zrn σ n 3 / zrn σ n 2) (by omega) (by omega) (wo := wo) (fo := nI S.1)
    have a0 := fun wo => l_s165 (L := L) (xs := xs) (s := s) (C := C) (M := M) (k := k) hia n1 n7 (w := w) (gt := S.2) (al := al) (cd := cd) (v := 0) (lf := cd / zrn σ n 3 / zrn σ n 2 / zrn σ n 1) (by omega) (by omega) (wo := wo) (fo := nI S.1)
    have m3 : nI 3 + -1 = nI 2 := by decide
    have m2 : nI 2 + -1 = nI 1 := by decide
    have m1 : nI 1 + -1 = nI 0 := by decide
    have m0 : nI 0 + -1 = -1 := by decide
    rw [m3] at a3
    simp only [m2] at a2
    simp only [m1] at a1
    simp only [m0] at a0
    have dg := a3.trans ((a2 _).trans ((a1 _).trans (a0 _)))
    rw [show nI 3 = 3 from rfl] at dg
    generalize hw4 : (upd (upd (upd (upd wo 3 (nI (zrl σ 3 + cd % zrn σ n 3))) 2 (nI (zrl σ 2 + cd / zrn σ n 3 % zrn σ n 2))) 1 (nI (zrl σ 1 + cd / zrn σ n 3 / zrn σ n 2 % zrn σ n 1))) 0 (nI (zrl σ 0 + cd / zrn σ n 3 / zrn σ n 2 / zrn σ n 1 % zrn σ n 0))) = wo4 at dg
    have hv : ∀ j, j < 4 → wo4 j = nI (zvd σ n cd j) := by
      intro j hj
      rw [← hw4]
      unfold zvd upd
      have : j = 0 ∨ j = 1 ∨ j = 2 ∨ j = 3 := by omega
      rcases this with rfl | rfl | rfl | rfl <;> simp
    have hg : ∀ j, j < 4 → zvd σ n cd j ≤ n ∧ (zask σ j = true → 1 ≤ zvd σ n cd j) := by
      have key : ∀ u x, zrl σ u + x % zrn σ n u ≤ n ∧ (zask σ u = true → 1 ≤ zrl σ u + x % zrn σ n u) := by
        intro u x
        unfold zrl zrn
        by_cases q : zask σ u = true
        · rw [if_pos q, if_pos q]
          have := Nat.mod_lt x (show 0 < n by omega)
          exact ⟨by omega, fun _ => by omega⟩
        · rw [if_neg q, if_neg q]
          exact ⟨by rw [Nat.mod_one]; omega, fun z => absurd z q⟩
      intro j hj
      unfold zvd
      have : j = 0 ∨ j = 1 ∨ j = 2 ∨ j = 3 := by omega
      rcases this with rfl | rfl | rfl | rfl <;> simp <;> exact key _ _
    have rm' : xRM ca σ (xM.mk M.n M.tg M.hd M.wt M.fb M.kn M.mn M.rk M.rs M.rh M.E M.gn M.ks M.kt M.kh M.A M.qs M.qx M.qy M.rw wo4 ia (nI S.1) M.pr M.h) := rm
    have hs := s_mholds (L := L) (xs := xs) (s := s) (C := C) ok rm' h ht hr hv hg
    rw [show zall (fun i => qh σ n tg hd i (zvd σ n cd)) σ.A 0 = qall σ n tg hd (zvd σ n cd) from rfl] at hs
    have nz : ¬ (0 : Int32) ≤ -1 := by decide
    have lt0 : (-1 : Int32) < 0 := by decide
    rw [fld]
    by_cases q : qall σ n tg hd (zvd σ n cd) = true
    · rw [if_pos q] at hs
      obtain ⟨wo', k1⟩ := l_s151 ok rm h ht hr hia (w := w) hal c (cd + 1) wo4 (zno w (zvd σ n cd) S) (some (.int (nI (cd / zrn σ n 3 / zrn σ n 2 / zrn σ n 1 / zrn σ n 0)))) (some (.int (-1))) (by omega)
      refine ⟨wo', ?_⟩
      rw [show zcd σ n tg hd w cd S = zno w (zvd σ n cd) S from if_pos q, ← k1, E_X10_search_h151]
      have z0 : zin 0 4 = true := by decide
      have z1 : zin 1 4 = true := by decide
      have z2 : zin 2 4 = true := by decide
      have z3 : zin 3 4 = true := by decide
      have c0 : (0 : Int32).toNatClampNeg = 0 := by decide
      have c1 : (1 : Int32).toNatClampNeg = 1 := by decide
      have c2 : (2 : Int32).toNatClampNeg = 2 := by decide
      have c3 : (3 : Int32).toNatClampNeg = 3 := by decide
      have f1 : nI S.1 + 1 = nI (S.1 + 1) := nI_1 _
      have st : zD 123 165 [some (.ref 283), some (.int k), some (.int w), some (.int (nI n)), some (.int (nI al)), some (.int S.2), some (.int (nI cd)), some (.int (nI (cd / zrn σ n 3 / zrn σ n 2 / zrn σ n 1 / zrn σ n 0))), some (.int (-1))] [] (xW L xs s C (xM.mk M.n M.tg M.hd M.wt M.fb M.kn M.mn M.rk M.rs M.rh M.E M.gn M.ks M.kt M.kh M.A M.qs M.qx M.qy M.rw wo4 ia (nI S.1) M.pr M.h)) = zD 123 151 [some (.ref 283), some (.int k), some (.int w), some (.int (nI n)), some (.int (nI al)), some (.int (zno w (zvd σ n cd) S).2), some (.int (nI (cd + 1))), some (.int (nI (cd / zrn σ n 3 / zrn σ n 2 / zrn σ n 1 / zrn σ n 0))), some (.int (-1))] [] (xW L xs s C (xM.mk M.n M.tg M.hd M.wt M.fb M.kn M.mn M.rk M.rs M.rh M.E M.gn M.ks M.kt M.kh M.A M.qs M.qx M.qy M.rw wo4 ia (nI (zno w (zvd σ n cd) S).1) M.pr M.h)) := by
        rw [E_X10_search_h165]
        unfold zno
        by_cases qw : nI S.1 = w
        · rw [if_pos qw]
          simp only [qw] at f1 hs ⊢
          simp [E_X10_search, zfok, zfv, zfs', ziok, ziv, zpok, zis', zlok, zlv', zls', zbok, zrok, zrv', zrs', zaok, zan, zcok, zcs', zis, zgv, zgh, zcat, zw_1, zw_21, zw_at, zclr_int, zclr_ref, zclr_null, zclr_none, zclr_long, zclr_clr, zbv_0, zbv_1, zbv_ite, zbv_ite', Value.category, xr0, xr1, xr2, xr3, xr4, xr5, xr6, xr7, xr8, xr265, xr266, xr267, xr268, xr269, xr270, xr271, xr272, xr273, xr274, xr275, xr276, xr277, xr278, xr279, xr280, xr281, xr282, xr283, xr284, xr285, xr286, xr287, xr288, xr289, xr290, xr291, xr292, xr293, xr294, xr295, xr296, xr297, xr298, xr299, xr300, xr301, xr302, xv2, xv3, xv4, xv6, xv7, xv266, xv268, xv269, xv270, xv271, xv273, xv274, xv275, xv276, xv277, xv278, xv279, xv280, xv281, xv282, xv283, xv284, xv285, xv286, xv287, xv288, xv289, xv290, xv291, xv292, xv293, xv294, xv295, xv296, xv297, xv298, xv299, xv300, xv301, xv302, znar0, znar1, znarI, zfitb, zfitb1, xC_N_mk, xC_tg_mk, xC_hd_mk, xC_wt_mk, xC_fb_mk, xC_R_mk, xC_G_mk, xC_P_mk, xC_Q_mk, xC_E_mk, xC_kr_mk, xC_ct_mk, xC_tt_mk, xC_A_mk, xC_qs_mk, xC_qx_mk, xC_qy_mk, xC_vs_mk, xC_lo_mk, xC_hg_mk, xC_ab_mk, xC_fo_mk, xC_pk_mk, xC_K_mk, xC_kd_mk, xM_n_mk, xM_tg_mk, xM_hd_mk, xM_wt_mk, xM_fb_mk, xM_kn_mk, xM_mn_mk, xM_rk_mk, xM_rs_mk, xM_rh_mk, xM_E_mk, xM_gn_mk, xM_ks_mk, xM_kt_mk, xM_kh_mk, xM_A_mk, xM_qs_mk, xM_qx_mk, xM_qy_mk, xM_rw_mk, xM_wo_mk, xM_ia_mk, xM_fo_mk, xM_pr_mk, xM_h_mk, xS_N_mk, xS_tg_mk, xS_hd_mk, xS_wt_mk, xS_fb_mk, xS_E_mk, xS_gn_mk, xS_ks_mk, xS_kt_mk, xS_kh_mk, xS_A_mk, xS_qs_mk, xS_qx_mk, xS_qy_mk, xC_eta, xM_eta, xS_eta, lt0, hs, z0, z1, z2, z3, c0, c1, c2, c3, hv 0 (by omega), hv 1 (by omega), hv 2 (by omega), hv 3 (by omega), zcode, e2, f1]
        · rw [if_neg qw]
          simp [E_X10_search, zfok, zfv, zfs', ziok, ziv, zpok, zis', zlok, zlv', zls', zbok, zrok, zrv', zrs', zaok, zan, zcok, zcs', zis, zgv, zgh, zcat, zw_1, zw_21, zw_at, zclr_int, zclr_ref, zclr_null, zclr_none, zclr_long, zclr_clr, zbv_0, zbv_1, zbv_ite, zbv_ite', Value.category, xr0, xr1, xr2, xr3, xr4, xr5, xr6, xr7, xr8, xr265, xr266, xr267, xr268, xr269, xr270, xr271, xr272, xr273, xr274, xr275, xr276, xr277, xr278, xr279, xr280, xr281, xr282, xr283, xr284, xr285, xr286, xr287, xr288, xr289, xr290, xr291, xr292, xr293, xr294, xr295, xr296, xr297, xr298, xr299, xr300, xr301, xr302, xv2, xv3, xv4, xv6, xv7, xv266, xv268, xv269, xv270, xv271, xv273, xv274, xv275, xv276, xv277, xv278, xv279, xv280, xv281, xv282, xv283, xv284, xv285, xv286, xv287, xv288, xv289, xv290, xv291, xv292, xv293, xv294, xv295, xv296, xv297, xv298, xv299, xv300, xv301, xv302, znar0, znar1, znarI, zfitb, zfitb1, xC_N_mk, xC_tg_mk, xC_hd_mk, xC_wt_mk, xC_fb_mk, xC_R_mk, xC_G_mk, xC_P_mk, xC_Q_mk, xC_E_mk, xC_kr_mk, xC_ct_mk, xC_tt_mk, xC_A_mk, xC_qs_mk, xC_qx_mk, xC_qy_mk, xC_vs_mk, xC_lo_mk, xC_hg_mk, xC_ab_mk, xC_fo_mk, xC_pk_mk, xC_K_mk, xC_kd_mk, xM_n_mk, xM_tg_mk, xM_hd_mk, xM_wt_mk, xM_fb_mk, xM_kn_mk, xM_mn_mk, xM_rk_mk, xM_rs_mk, xM_rh_mk, xM_E_mk, xM_gn_mk, xM_ks_mk, xM_kt_mk, xM_kh_mk, xM_A_mk, xM_qs_mk, xM_qx_mk, xM_qy_mk, xM_rw_mk, xM_wo_mk, xM_ia_mk, xM_fo_mk, xM_pr_mk, xM_h_mk, xS_N_mk, xS_tg_mk, xS_hd_mk, xS_wt_mk, xS_fb_mk, xS_E_mk, xS_gn_mk, xS_ks_mk, xS_kt_mk, xS_kh_mk, xS_A_mk, xS_qs_mk, xS_qx_mk, xS_qy_mk, xC_eta, xM_eta, xS_eta, lt0, hs, qw, e2, f1]
      rw [← st, ← dg]
      simp [E_X10_search, zfok, zfv, zfs', ziok, ziv, zpok, zis', zlok, zlv', zls', zbok, zrok, zrv', zrs', zaok, zan, zcok, zcs', zis, zgv, zgh, zcat, zw_1, zw_21, zw_at, zclr_int, zclr_ref, zclr_null, zclr_none, zclr_long, zclr_clr, zbv_0, zbv_1, zbv_ite, zbv_ite', Value.category, xr0, xr1, xr2, xr3, xr4, xr5, xr6, xr7, xr8, xr265, xr266, xr267, xr268, xr269, xr270, xr271, xr272, xr273, xr274, xr275, xr276, xr277, xr278, xr279, xr280, xr281, xr282, xr283, xr284, xr285, xr286, xr287, xr288, xr289, xr290, xr291, xr292, xr293, xr294, xr295, xr296, xr297, xr298, xr299, xr300, xr301, xr302, xv2, xv3, xv4, xv6, xv7, xv266, xv268, xv269, xv270, xv271, xv273, xv274, xv275, xv276, xv277, xv278, xv279, xv280, xv281, xv282, xv283, xv284, xv285, xv286, xv287, xv288, xv289, xv290, xv291, xv292, xv293, xv294, xv295, xv296, xv297, xv298, xv299, xv300, xv301, xv302, znar0, znar1, znarI, zfitb, zfitb1, xC_N_mk, xC_tg_mk, xC_hd_mk, xC_wt_mk, xC_fb_mk, xC_R_mk, xC_G_mk, xC_P_mk, xC_Q_mk, xC_E_mk, xC_kr_mk, xC_ct_mk, xC_tt_mk, xC_A_mk, xC_qs_mk, xC_qx_mk, xC_qy_mk, xC_vs_mk, xC_lo_mk, xC_hg_mk, xC_ab_mk, xC_fo_mk, xC_pk_mk, xC_K_mk, xC_kd_mk, xM_n_mk, xM_tg_mk, xM_hd_mk, xM_wt_mk, xM_fb_mk, xM_kn_mk, xM_mn_mk, xM_rk_mk, xM_rs_mk, xM_rh_mk, xM_E_mk, xM_gn_mk, xM_ks_mk, xM_kt_mk, xM_kh_mk, xM_A_mk, xM_qs_mk, xM_qx_mk, xM_qy_mk, xM_rw_mk, xM_wo_mk, xM_ia_mk, xM_fo_mk, xM_pr_mk, xM_h_mk, xS_N_mk, xS_tg_mk, xS_hd_mk, xS_wt_mk, xS_fb_mk, xS_E_mk, xS_gn_mk, xS_ks_mk, xS_kt_mk, xS_kh_mk, xS_A_mk, xS_qs_mk, xS_qx_mk, xS_qy_mk, xC_eta, xM_eta, xS_eta, e1]
    · rw [if_neg q] at hs
      obtain ⟨wo', k1⟩ := l_s151 ok rm h ht hr hia (w := w) hal c (cd + 1) wo4 S (some (.int (nI (cd / zrn σ n 3 / zrn σ n 2 / zrn σ n 1 / zrn σ n 0)))) (some (.int (-1))) (by omega)
      refine ⟨wo', ?_⟩
      rw [show zcd σ n tg hd w cd S = S from if_neg q, ← k1, E_X10_search_h151]
      have st : zD 123 165 [some (.ref 283), some (.int k), some (.int w), some (.int (nI n)), some (.int (nI al)), some (.int S.2), some (.int (nI cd)), some (.int (nI (cd / zrn σ n 3 / zrn σ n 2 / zrn σ n 1 / zrn σ n 0))), some (.int (-1))] [] (xW L xs s C (xM.mk M.n M.tg M.hd M.wt M.fb M.kn M.mn M.rk M.rs M.rh M.E M.gn M.ks M.kt M.kh M.A M.qs M.qx M.qy M.rw wo4 ia (nI S.1) M.pr M.h)) = zD 123 151 [some (.ref 283), some (.int k), some (.int w), some (.int (nI n)), some (.int (nI al)), some (.int S.2), some (.int (nI (cd + 1))), some (.int (nI (cd / zrn σ n 3 / zrn σ n 2 / zrn σ n 1 / zrn σ n 0))), some (.int (-1))] [] (xW L xs s C (xM.mk M.n M.tg M.hd M.wt M.fb M.kn M.mn M.rk M.rs M.rh M.E M.gn M.ks M.kt M.kh M.A M.qs M.qx M.qy M.rw wo4 ia (nI S.1) M.pr M.h)) := by
        rw [E_X10_search_h165]
        simp [E_X10_search, zfok, zfv, zfs', ziok, ziv, zpok, zis', zlok, zlv', zls', zbok, zrok, zrv', zrs', zaok, zan, zcok, zcs', zis, zgv, zgh, zcat, zw_1, zw_21, zw_at, zclr_int, zclr_ref, zclr_null, zclr_none, zclr_long, zclr_clr, zbv_0, zbv_1, zbv_ite, zbv_ite', Value.category, xr0, xr1, xr2, xr3, xr4, xr5, xr6, xr7, xr8, xr265, xr266, xr267, xr268, xr269, xr270, xr271, xr272, xr273, xr274, xr275, xr276, xr277, xr278, xr279, xr280, xr281, xr282, xr283, xr284, xr285, xr286, xr287, xr288, xr289, xr290, xr291, xr292, xr293, xr294, xr295, xr296, xr297, xr298, xr299, xr300, xr301, xr302, xv2, xv3, xv4, xv6, xv7, xv266, xv268, xv269, xv270, xv271, xv273, xv274, xv275, xv276, xv277, xv278, xv279, xv280, xv281, xv282, xv283, xv284, xv285, xv286, xv287, xv288, xv289, xv290, xv291, xv292, xv293, xv294, xv295, xv296, xv297, xv298, xv299, xv300, xv301, xv302, znar0, znar1, znarI, zfitb, zfitb1, xC_N_mk, xC_tg_mk, xC_hd_mk, xC_wt_mk, xC_fb_mk, xC_R_mk, xC_G_mk, xC_P_mk, xC_Q_mk, xC_E_mk, xC_kr_mk, xC_ct_mk, xC_tt_mk, xC_A_mk, xC_qs_mk, xC_qx_mk, xC_qy_mk, xC_vs_mk, xC_lo_mk, xC_hg_mk, xC_ab_mk, xC_fo_mk, xC_pk_mk, xC_K_mk, xC_kd_mk, xM_n_mk, xM_tg_mk, xM_hd_mk, xM_wt_mk, xM_fb_mk, xM_kn_mk, xM_mn_mk, xM_rk_mk, xM_rs_mk, xM_rh_mk, xM_E_mk, xM_gn_mk, xM_ks_mk, xM_kt_mk, xM_kh_mk, xM_A_mk, xM_qs_mk, xM_qx_mk, xM_qy_mk, xM_rw_mk, xM_wo_mk, xM_ia_mk, xM_fo_mk, xM_pr_mk, xM_h_mk, xS_N_mk, xS_tg_mk, xS_hd_mk, xS_wt_mk, xS_fb_mk, xS_E_mk, xS_gn_mk, xS_ks_mk, xS_kt_mk, xS_kh_mk, xS_A_mk, xS_qs_mk, xS_qx_mk, xS_qy_mk, xC_eta, xM_eta, xS_eta, lt0, hs, e2]
      rw [← st, ← dg]
      simp [E_X10_search, zfok, zfv, zfs', ziok, ziv, zpok, zis', zlok, zlv', zls', zbok, zrok, zrv', zrs', zaok, zan, zcok, zcs', zis, zgv, zgh, zcat, zw_1, zw_21, zw_at, zclr_int, zclr_ref, zclr_null, zclr_none, zclr_long, zclr_clr, zbv_0, zbv_1, zbv_ite, zbv_ite', Value.category, xr0, xr1, xr2, xr3, xr4, xr5, xr6, xr7, xr8, xr265, xr266, xr267, xr268, xr269, xr270, xr271, xr272, xr273, xr274, xr275, xr276, xr277, xr278, xr279, xr280, xr281, xr282, xr283, xr284, xr285, xr286, xr287, xr288, xr289, xr290, xr291, xr292, xr293, xr294, xr295, xr296, xr297, xr298, xr299, xr300, xr301, xr302, xv2, xv3, xv4, xv6, xv7, xv266, xv268, xv269, xv270, xv271, xv273, xv274, xv275, xv276, xv277, xv278, xv279, xv280, xv281, xv282, xv283, xv284, xv285, xv286, xv287, xv288, xv289, xv290, xv291, xv292, xv293, xv294, xv295, xv296, xv297, xv298, xv299, xv300, xv301, xv302, znar0, znar1, znarI, zfitb, zfitb1, xC_N_mk, xC_tg_mk, xC_hd_mk, xC_wt_mk, xC_fb_mk, xC_R_mk, xC_G_mk, xC_P_mk, xC_Q_mk, xC_E_mk, xC_kr_mk, xC_ct_mk, xC_tt_mk, xC_A_mk, xC_qs_mk, xC_qx_mk, xC_qy_mk, xC_vs_mk, xC_lo_mk, xC_hg_mk, xC_ab_mk, xC_fo_mk, xC_pk_mk, xC_K_mk, xC_kd_mk, xM_n_mk, xM_tg_mk, xM_hd_mk, xM_wt_mk, xM_fb_mk, xM_kn_mk, xM_mn_mk, xM_rk_mk, xM_rs_mk, xM_rh_mk, xM_E_mk, xM_gn_mk, xM_ks_mk, xM_kt_mk, xM_kh_mk, xM_A_mk, xM_qs_mk, xM_qx_mk, xM_qy_mk, xM_rw_mk, xM_wo_mk, xM_ia_mk, xM_fo_mk, xM_pr_mk, xM_h_mk, xS_N_mk, xS_tg_mk, xS_hd_mk, xS_wt_mk, xS_fb_mk, xS_E_mk, xS_gn_mk, xS_ks_mk, xS_kt_mk, xS_kh_mk, xS_A_mk, xS_qs_mk, xS_qx_mk, xS_qy_mk, xC_eta, xM_eta, xS_eta, e1]
theorem s_msearch (ok : xOk σ) (rm : xRM ca σ M) (h : dwn σ k o n tg hd) (htr : zTr hd n = true) {w : Int32} : ∃ M', xRM ca σ M' ∧ M'.fo = nI (zgs σ n tg hd w).1 ∧ zC 123 [.ref 283, .int k, .int w] (xW L xs s C M) = some (some (.int (zgs σ n tg hd w).2), xW L xs s C M') := by
  have od := dwn_d ok h
  have n7 := od.n7
  have n1 := od.n1
  have ht : ∀ x, zit hd n x = 0 := zTr_all od.hn od.h0 od.hz htr n1
  have ly := m_lay (L := L) (xs := xs) (s := s) (C := C) ok rm h
  have rm2 := ly.2
  obtain ⟨ia1, p1, p2, p3⟩ := l_s27 (L := L) (xs := xs) (s := s) (C := C) (M := (xM.mk M.n M.tg M.hd M.wt M.fb M.kn M.mn M.rk M.rs M.rh M.E M.gn M.ks M.kt M.kh M.A M.qs M.qx M.qy (fun d => nI (hd d)) M.wo M.ia M.fo M.pr M.h)) (k := k) (w := w) (nn := nI n) (l5 := none) (l6 := none) (l7 := none) (l8 := none) 4 0 M.ia (by omega)
  obtain ⟨ia2, q1, q2⟩ := l_s50 (L := L) (xs := xs) (s := s) (C := C) ok rm2 (k := k) (w := w) (nn := nI n) (l5 := none) (l6 := none) (l7 := none) (l8 := none) σ.A 0 ia1 (by omega)
  have hia : ∀ u, u < 4 → ia2 u = if zask σ u = true then 1 else 0 := fun u hu => by
    rw [q1 u hu, p1 u (by omega) hu]
    rfl
  have r1 := l_s108 (L := L) (xs := xs) (s := s) (C := C) (M := (xM.mk M.n M.tg M.hd M.wt M.fb M.kn M.mn M.rk M.rs M.rh M.E M.gn M.ks M.kt M.kh M.A M.qs M.qx M.qy (fun d => nI (hd d)) M.wo M.ia M.fo M.pr M.h)) (k := k) (n := n) hia (w := w) (l6 := none) (l7 := none) (l8 := none) 4 0 1 (by omega)
  have al : zpr σ n 4 0 1 = zrn σ n 0 * zrn σ n 1 * zrn σ n 2 * zrn σ n 3 := by
    simp [zpr]
  have b0 := zrn_7 (σ := σ) n7 0
  have b1 := zrn_7 (σ := σ) n7 1
  have b2 := zrn_7 (σ := σ) n7 2
  have b3 := zrn_7 (σ := σ) n7 3
  have hal : zrn σ n 0 * zrn σ n 1 * zrn σ n 2 * zrn σ n 3 < 100000 := by
    have x1 : zrn σ n 0 * zrn σ n 1 ≤ 7 * 7 := Nat.mul_le_mul b0 b1
    have x2 : zrn σ n 0 * zrn σ n 1 * zrn σ n 2 ≤ 7 * 7 * 7 := Nat.mul_le_mul x1 b2
    have x3 : zrn σ n 0 * zrn σ n 1 * zrn σ n 2 * zrn σ n 3 ≤ 7 * 7 * 7 * 7 := Nat.mul_le_mul x2 b3
    omega
  obtain ⟨wo', t1⟩ := l_s151 (L := L) (xs := xs) (s := s) (C := C) ok rm2 h ht rfl hia (w := w) hal (zrn σ n 0 * zrn σ n 1 * zrn σ n 2 * zrn σ n 3) 0 M.wo (0, -1) none none (by omega)
  rw [zcd_zgs ok n1] at t1
  simp only [xC_N_mk, xC_tg_mk, xC_hd_mk, xC_wt_mk, xC_fb_mk, xC_R_mk, xC_G_mk, xC_P_mk, xC_Q_mk, xC_E_mk, xC_kr_mk, xC_ct_mk, xC_tt_mk, xC_A_mk, xC_qs_mk, xC_qx_mk, xC_qy_mk, xC_vs_mk, xC_lo_mk, xC_hg_mk, xC_ab_mk, xC_fo_mk, xC_pk_mk, xC_K_mk, xC_kd_mk, xM_n_mk, xM_tg_mk, xM_hd_mk, xM_wt_mk, xM_fb_mk, xM_kn_mk, xM_mn_mk, xM_rk_mk, xM_rs_mk, xM_rh_mk, xM_E_mk, xM_gn_mk, xM_ks_mk, xM_kt_mk, xM_kh_mk, xM_A_mk, xM_qs_mk, xM_qx_mk, xM_qy_mk, xM_rw_mk, xM_wo_mk, xM_ia_mk, xM_fo_mk, xM_pr_mk, xM_h_mk, xS_N_mk, xS_tg_mk, xS_hd_mk, xS_wt_mk, xS_fb_mk, xS_E_mk, xS_gn_mk, xS_ks_mk, xS_kt_mk, xS_kh_mk, xS_A_mk, xS_qs_mk, xS_qx_mk, xS_qy_mk, xC_eta, xM_eta, xS_eta, nI_0] at p3 q2 r1 t1
  rw [show nI 1 = 1 from rfl, al] at r1
  refine ⟨(xM.mk M.n M.tg M.hd M.wt M.fb M.kn M.mn M.rk M.rs M.rh M.E M.gn M.ks M.kt M.kh M.A M.qs M.qx M.qy ((fun d => nI (hd d))) wo' ia2 (nI (zgs σ n tg hd w).1) M.pr M.h), rm2, rfl, ?_⟩
  rw [← t1, ← r1, ← q2, ← p3]
  rcases h with ⟨rfl, rfl, rfl, rfl, rfl⟩ | ⟨j, a, b, rfl, rfl, rfl, rfl, rfl⟩
  · have rn := rm.N
    rw [← rn]
    simp [I_X10_search, E_X10_search, zfok, zfv, zfs', ziok, ziv, zpok, zis', zlok, zlv', zls', zbok, zrok, zrv', zrs', zaok, zan, zcok, zcs', zis, zgv, zgh, zcat, zw_1, zw_21, zw_at, zclr_int, zclr_ref, zclr_null, zclr_none, zclr_long, zclr_clr, zbv_0, zbv_1, zbv_ite, zbv_ite', Value.category, xr0, xr1, xr2, xr3, xr4, xr5, xr6, xr7, xr8, xr265, xr266, xr267, xr268, xr269, xr270, xr271, xr272, xr273, xr274, xr275, xr276, xr277, xr278, xr279, xr280, xr281, xr282, xr283, xr284, xr285, xr286, xr287, xr288, xr289, xr290, xr291, xr292, xr293, xr294, xr295, xr296, xr297, xr298, xr299, xr300, xr301, xr302, xv2, xv3, xv4, xv6, xv7, xv266, xv268, xv269, xv270, xv271, xv273, xv274, xv275, xv276, xv277, xv278, xv279, xv280, xv281, xv282, xv283, xv284, xv285, xv286, xv287, xv288, xv289, xv290, xv291, xv292, xv293, xv294, xv295, xv296, xv297, xv298, xv299, xv300, xv301, xv302, znar0, znar1, znarI, zfitb, zfitb1, xC_N_mk, xC_tg_mk, xC_hd_mk, xC_wt_mk, xC_fb_mk, xC_R_mk, xC_G_mk, xC_P_mk, xC_Q_mk, xC_E_mk, xC_kr_mk, xC_ct_mk, xC_tt_mk, xC_A_mk, xC_qs_mk, xC_qx_mk, xC_qy_mk, xC_vs_mk, xC_lo_mk, xC_hg_mk, xC_ab_mk, xC_fo_mk, xC_pk_mk, xC_K_mk, xC_kd_mk, xM_n_mk, xM_tg_mk, xM_hd_mk, xM_wt_mk, xM_fb_mk, xM_kn_mk, xM_mn_mk, xM_rk_mk, xM_rs_mk, xM_rh_mk, xM_E_mk, xM_gn_mk, xM_ks_mk, xM_kt_mk, xM_kh_mk, xM_A_mk, xM_qs_mk, xM_qx_mk, xM_qy_mk, xM_rw_mk, xM_wo_mk, xM_ia_mk, xM_fo_mk, xM_pr_mk, xM_h_mk, xS_N_mk, xS_tg_mk, xS_hd_mk, xS_wt_mk, xS_fb_mk, xS_E_mk, xS_gn_mk, xS_ks_mk, xS_kt_mk, xS_kh_mk, xS_A_mk, xS_qs_mk, xS_qx_mk, xS_qy_mk, xC_eta, xM_eta, xS_eta, ly.1]
  · have E20 := ok.E20
    have e2 : ¬ nI j = -1 := zm1 (by omega)
    have e3 : zin (nI j) 20 = true := zin8 (by omega) (by omega)
    have e4 : (nI j).toNatClampNeg = j := zcl7 (by omega)
    simp [I_X10_search, E_X10_search, zfok, zfv, zfs', ziok, ziv, zpok, zis', zlok, zlv', zls', zbok, zrok, zrv', zrs', zaok, zan, zcok, zcs', zis, zgv, zgh, zcat, zw_1, zw_21, zw_at, zclr_int, zclr_ref, zclr_null, zclr_none, zclr_long, zclr_clr, zbv_0, zbv_1, zbv_ite, zbv_ite', Value.category, xr0, xr1, xr2, xr3, xr4, xr5, xr6, xr7, xr8, xr265, xr266, xr267, xr268, xr269, xr270, xr271, xr272, xr273, xr274, xr275, xr276, xr277, xr278, xr279, xr280, xr281, xr282, xr283, xr284, xr285, xr286, xr287, xr288, xr289, xr290, xr291, xr292, xr293, xr294, xr295, xr296, xr297, xr298, xr299, xr300, xr301, xr302, xv2, xv3, xv4, xv6, xv7, xv266, xv268, xv269, xv270, xv271, xv273, xv274, xv275, xv276, xv277, xv278, xv279, xv280, xv281, xv282, xv283, xv284, xv285, xv286, xv287, xv288, xv289, xv290, xv291, xv292, xv293, xv294, xv295, xv296, xv297, xv298, xv299, xv300, xv301, xv302, znar0, znar1, znarI, zfitb, zfitb1, xC_N_mk, xC_tg_mk, xC_hd_mk, xC_wt_mk, xC_fb_mk, xC_R_mk, xC_G_mk, xC_P_mk, xC_Q_mk, xC_E_mk, xC_kr_mk, xC_ct_mk, xC_tt_mk, xC_A_mk, xC_qs_mk, xC_qx_mk, xC_qy_mk, xC_vs_mk, xC_lo_mk, xC_hg_mk, xC_ab_mk, xC_fo_mk, xC_pk_mk, xC_K_mk, xC_kd_mk, xM_n_mk, xM_tg_mk, xM_hd_mk, xM_wt_mk, xM_fb_mk, xM_kn_mk, xM_mn_mk, xM_rk_mk, xM_rs_mk, xM_rh_mk, xM_E_mk, xM_gn_mk, xM_ks_mk, xM_kt_mk, xM_kh_mk, xM_A_mk, xM_qs_mk, xM_qx_mk, xM_qy_mk, xM_rw_mk, xM_wo_mk, xM_ia_mk, xM_fo_mk, xM_pr_mk, xM_h_mk, xS_N_mk, xS_tg_mk, xS_hd_mk, xS_wt_mk, xS_fb_mk, xS_E_mk, xS_gn_mk, xS_ks_mk, xS_kt_mk, xS_kh_mk, xS_A_mk, xS_qs_mk, xS_qx_mk, xS_qy_mk, xC_eta, xM_eta, xS_eta, e2, e3, e4, (rm.k j a).2.1, ly.1]
theorem m_barred0 (ok : xOk σ) (rm : xRM ca σ M) (h : k ≠ -1 ∧ ¬ kpt σ k) : zC 124 [.ref 283, .int k] (xW L xs s C M) = some (some (.int (-101)), xW L xs s C M) := by
  have m1 := m_kept0 (L := L) (s := s) (xs := xs) (C := C) ok rm h.2
  simp [I_X10_barred, E_X10_barred, zfok, zfv, zfs', ziok, ziv, zpok, zis', zlok, zlv', zls', zbok, zrok, zrv', zrs', zaok, zan, zcok, zcs', zis, zgv, zgh, zcat, zw_1, zw_21, zw_at, zclr_int, zclr_ref, zclr_null, zclr_none, zclr_long, zclr_clr, zbv_0, zbv_1, zbv_ite, zbv_ite', Value.category, xr0, xr1, xr2, xr3, xr4, xr5, xr6, xr7, xr8, xr265, xr266, xr267, xr268, xr269, xr270, xr271, xr272, xr273, xr274, xr275, xr276, xr277, xr278, xr279, xr280, xr281, xr282, xr283, xr284, xr285, xr286, xr287, xr288, xr289, xr290, xr291, xr292, xr293, xr294, xr295, xr296, xr297, xr298, xr299, xr300, xr301, xr302, xv2, xv3, xv4, xv6, xv7, xv266, xv268, xv269, xv270, xv271, xv273, xv274, xv275, xv276, xv277, xv278, xv279, xv280, xv281, xv282, xv283, xv284, xv285, xv286, xv287, xv288, xv289, xv290, xv291, xv292, xv293, xv294, xv295, xv296, xv297, xv298, xv299, xv300, xv301, xv302, znar0, znar1, znarI, zfitb, zfitb1, xC_N_mk, xC_tg_mk, xC_hd_mk, xC_wt_mk, xC_fb_mk, xC_R_mk, xC_G_mk, xC_P_mk, xC_Q_mk, xC_E_mk, xC_kr_mk, xC_ct_mk, xC_tt_mk, xC_A_mk, xC_qs_mk, xC_qx_mk, xC_qy_mk, xC_vs_mk, xC_lo_mk, xC_hg_mk, xC_ab_mk, xC_fo_mk, xC_pk_mk, xC_K_mk, xC_kd_mk, xM_n_mk, xM_tg_mk, xM_hd_mk, xM_wt_mk, xM_fb_mk, xM_kn_mk, xM_mn_mk, xM_rk_mk, xM_rs_mk, xM_rh_mk, xM_E_mk, xM_gn_mk, xM_ks_mk, xM_kt_mk, xM_kh_mk, xM_A_mk, xM_qs_mk, xM_qx_mk, xM_qy_mk, xM_rw_mk, xM_wo_mk, xM_ia_mk, xM_fo_mk, xM_pr_mk, xM_h_mk, xS_N_mk, xS_tg_mk, xS_hd_mk, xS_wt_mk, xS_fb_mk, xS_E_mk, xS_gn_mk, xS_ks_mk, xS_kt_mk, xS_kh_mk, xS_A_mk, xS_qs_mk, xS_qx_mk, xS_qy_mk, xC_eta, xM_eta, xS_eta, h.1, m1]
theorem m_barred (ok : xOk σ) (rm : xRM ca σ M) (h : dwn σ k o n tg hd) : ∃ M', xRM ca σ M' ∧ zC 124 [.ref 283, .int k] (xW L xs s C M) = some (some (.int (if σ.A ≠ 0 ∧ zTr hd n = true then 0 else -103)), xW L xs s C M') := by
  have A6 := ok.A6
  have ra := rm.A
  have za : (nI σ.A = 0) ↔ σ.A = 0 := zeq (b := 0) (by omega) (by omega)
  have za' : (M.A = 0) ↔ σ.A = 0 := by rw [ra]; exact za
  have k1 := m_keptd (L := L) (s := s) (xs := xs) (C := C) ok rm h
  have t2 := x_mtree (L := L) (s := s) (xs := xs) (C := C) ok rm
  have tk := dwn_k ok h
  by_cases q : k = -1
  · rcases h with ⟨rfl, rfl, rfl, rfl, rfl⟩ | ⟨j, a, b, rfl, rfl, rfl, rfl, rfl⟩
    · by_cases w : σ.A = 0
      · refine ⟨M, rm, ?_⟩
        simp [I_X10_barred, E_X10_barred, zfok, zfv, zfs', ziok, ziv, zpok, zis', zlok, zlv', zls', zbok, zrok, zrv', zrs', zaok, zan, zcok, zcs', zis, zgv, zgh, zcat, zw_1, zw_21, zw_at, zclr_int, zclr_ref, zclr_null, zclr_none, zclr_long, zclr_clr, zbv_0, zbv_1, zbv_ite, zbv_ite', Value.category, xr0, xr1, xr2, xr3, xr4, xr5, xr6, xr7, xr8, xr265, xr266, xr267, xr268, xr269, xr270, xr271, xr272, xr273, xr274, xr275, xr276, xr277, xr278, xr279, xr280, xr281, xr282, xr283, xr284, xr285, xr286, xr287, xr288, xr289, xr290, xr291, xr292, xr293, xr294, xr295, xr296, xr297, xr298, xr299, xr300, xr301, xr302, xv2, xv3, xv4, xv6, xv7, xv266, xv268, xv269, xv270, xv271, xv273, xv274, xv275, xv276, xv277, xv278, xv279, xv280, xv281, xv282, xv283, xv284, xv285, xv286, xv287, xv288, xv289, xv290, xv291, xv292, xv293, xv294, xv295, xv296, xv297, xv298, xv299, xv300, xv301, xv302, znar0, znar1, znarI, zfitb, zfitb1, xC_N_mk, xC_tg_mk, xC_hd_mk, xC_wt_mk, xC_fb_mk, xC_R_mk, xC_G_mk, xC_P_mk, xC_Q_mk, xC_E_mk, xC_kr_mk, xC_ct_mk, xC_tt_mk, xC_A_mk, xC_qs_mk, xC_qx_mk, xC_qy_mk, xC_vs_mk, xC_lo_mk, xC_hg_mk, xC_ab_mk, xC_fo_mk, xC_pk_mk, xC_K_mk, xC_kd_mk, xM_n_mk, xM_tg_mk, xM_hd_mk, xM_wt_mk, xM_fb_mk, xM_kn_mk, xM_mn_mk, xM_rk_mk, xM_rs_mk, xM_rh_mk, xM_E_mk, xM_gn_mk, xM_ks_mk, xM_kt_mk, xM_kh_mk, xM_A_mk, xM_qs_mk, xM_qx_mk, xM_qy_mk, xM_rw_mk, xM_wo_mk, xM_ia_mk, xM_fo_mk, xM_pr_mk, xM_h_mk, xS_N_mk, xS_tg_mk, xS_hd_mk, xS_wt_mk, xS_fb_mk, xS_E_mk, xS_gn_mk, xS_ks_mk, xS_kt_mk, xS_kh_mk, xS_A_mk, xS_qs_mk, xS_qx_mk, xS_qy_mk, xC_eta, xM_eta, xS_eta, za', w]
      · refine ⟨_, rm_rw ok rm, ?_⟩
        by_cases T : zTr σ.hd σ.N = true
        · rw [if_pos T] at t2
          simp [I_X10_barred, E_X10_barred, zfok, zfv, zfs', ziok, ziv, zpok, zis', zlok, zlv', zls', zbok, zrok, zrv', zrs', zaok, zan, zcok, zcs', zis, zgv, zgh, zcat, zw_1, zw_21, zw_at, zclr_int, zclr_ref, zclr_null, zclr_none, zclr_long, zclr_clr, zbv_0, zbv_1, zbv_ite, zbv_ite', Value.category, xr0, xr1, xr2, xr3, xr4, xr5, xr6, xr7, xr8, xr265, xr266, xr267, xr268, xr269, xr270, xr271, xr272, xr273, xr274, xr275, xr276, xr277, xr278, xr279, xr280, xr281, xr282, xr283, xr284, xr285, xr286, xr287, xr288, xr289, xr290, xr291, xr292, xr293, xr294, xr295, xr296, xr297, xr298, xr299, xr300, xr301, xr302, xv2, xv3, xv4, xv6, xv7, xv266, xv268, xv269, xv270, xv271, xv273, xv274, xv275, xv276, xv277, xv278, xv279, xv280, xv281, xv282, xv283, xv284, xv285, xv286, xv287, xv288, xv289, xv290, xv291, xv292, xv293, xv294, xv295, xv296, xv297, xv298, xv299, xv300, xv301, xv302, znar0, znar1, znarI, zfitb, zfitb1, xC_N_mk, xC_tg_mk, xC_hd_mk, xC_wt_mk, xC_fb_mk, xC_R_mk, xC_G_mk, xC_P_mk, xC_Q_mk, xC_E_mk, xC_kr_mk, xC_ct_mk, xC_tt_mk, xC_A_mk, xC_qs_mk, xC_qx_mk, xC_qy_mk, xC_vs_mk, xC_lo_mk, xC_hg_mk, xC_ab_mk, xC_fo_mk, xC_pk_mk, xC_K_mk, xC_kd_mk, xM_n_mk, xM_tg_mk, xM_hd_mk, xM_wt_mk, xM_fb_mk, xM_kn_mk, xM_mn_mk, xM_rk_mk, xM_rs_mk, xM_rh_mk, xM_E_mk, xM_gn_mk, xM_ks_mk, xM_kt_mk, xM_kh_mk, xM_A_mk, xM_qs_mk, xM_qx_mk, xM_qy_mk, xM_rw_mk, xM_wo_mk, xM_ia_mk, xM_fo_mk, xM_pr_mk, xM_h_mk, xS_N_mk, xS_tg_mk, xS_hd_mk, xS_wt_mk, xS_fb_mk, xS_E_mk, xS_gn_mk, xS_ks_mk, xS_kt_mk, xS_kh_mk, xS_A_mk, xS_qs_mk, xS_qx_mk, xS_qy_mk, xC_eta, xM_eta, xS_eta, za', w, t2, T]
        · rw [if_neg T] at t2
          simp [I_X10_barred, E_X10_barred, zfok, zfv, zfs', ziok, ziv, zpok, zis', zlok, zlv', zls', zbok, zrok, zrv', zrs', zaok, zan, zcok, zcs', zis, zgv, zgh, zcat, zw_1, zw_21, zw_at, zclr_int, zclr_ref, zclr_null, zclr_none, zclr_long, zclr_clr, zbv_0, zbv_1, zbv_ite, zbv_ite', Value.category, xr0, xr1, xr2, xr3, xr4, xr5, xr6, xr7, xr8, xr265, xr266, xr267, xr268, xr269, xr270, xr271, xr272, xr273, xr274, xr275, xr276, xr277, xr278, xr279, xr280, xr281, xr282, xr283, xr284, xr285, xr286, xr287, xr288, xr289, xr290, xr291, xr292, xr293, xr294, xr295, xr296, xr297, xr298, xr299, xr300, xr301, xr302, xv2, xv3, xv4, xv6, xv7, xv266, xv268, xv269, xv270, xv271, xv273, xv274, xv275, xv276, xv277, xv278, xv279, xv280, xv281, xv282, xv283, xv284, xv285, xv286, xv287, xv288, xv289, xv290, xv291, xv292, xv293, xv294, xv295, xv296, xv297, xv298, xv299, xv300, xv301, xv302, znar0, znar1, znarI, zfitb, zfitb1, xC_N_mk, xC_tg_mk, xC_hd_mk, xC_wt_mk, xC_fb_mk, xC_R_mk, xC_G_mk, xC_P_mk, xC_Q_mk, xC_E_mk, xC_kr_mk, xC_ct_mk, xC_tt_mk, xC_A_mk, xC_qs_mk, xC_qx_mk, xC_qy_mk, xC_vs_mk, xC_lo_mk, xC_hg_mk, xC_ab_mk, xC_fo_mk, xC_pk_mk, xC_K_mk, xC_kd_mk, xM_n_mk, xM_tg_mk, xM_hd_mk, xM_wt_mk, xM_fb_mk, xM_kn_mk, xM_mn_mk, xM_rk_mk, xM_rs_mk, xM_rh_mk, xM_E_mk, xM_gn_mk, xM_ks_mk, xM_kt_mk, xM_kh_mk, xM_A_mk, xM_qs_mk, xM_qx_mk, xM_qy_mk, xM_rw_mk, xM_wo_mk, xM_ia_mk, xM_fo_mk, xM_pr_mk, xM_h_mk, xS_N_mk, xS_tg_mk, xS_hd_mk, xS_wt_mk, xS_fb_mk, xS_E_mk, xS_gn_mk, xS_ks_mk, xS_kt_mk, xS_kh_mk, xS_A_mk, xS_qs_mk, xS_qx_mk, xS_qy_mk, xC_eta, xM_eta, xS_eta, za', w, t2, T]
    · exact absurd q (zm1 (by have := ok.E20; omega))
  · rcases k1 with k1 | k1
    · exact absurd k1 q
    · refine ⟨M, rm, ?_⟩
      by_cases w : σ.A = 0
      · simp [I_X10_barred, E_X10_barred, zfok, zfv, zfs', ziok, ziv, zpok, zis', zlok, zlv', zls', zbok, zrok, zrv', zrs', zaok, zan, zcok, zcs', zis, zgv, zgh, zcat, zw_1, zw_21, zw_at, zclr_int, zclr_ref, zclr_null, zclr_none, zclr_long, zclr_clr, zbv_0, zbv_1, zbv_ite, zbv_ite', Value.category, xr0, xr1, xr2, xr3, xr4, xr5, xr6, xr7, xr8, xr265, xr266, xr267, xr268, xr269, xr270, xr271, xr272, xr273, xr274, xr275, xr276, xr277, xr278, xr279, xr280, xr281, xr282, xr283, xr284, xr285, xr286, xr287, xr288, xr289, xr290, xr291, xr292, xr293, xr294, xr295, xr296, xr297, xr298, xr299, xr300, xr301, xr302, xv2, xv3, xv4, xv6, xv7, xv266, xv268, xv269, xv270, xv271, xv273, xv274, xv275, xv276, xv277, xv278, xv279, xv280, xv281, xv282, xv283, xv284, xv285, xv286, xv287, xv288, xv289, xv290, xv291, xv292, xv293, xv294, xv295, xv296, xv297, xv298, xv299, xv300, xv301, xv302, znar0, znar1, znarI, zfitb, zfitb1, xC_N_mk, xC_tg_mk, xC_hd_mk, xC_wt_mk, xC_fb_mk, xC_R_mk, xC_G_mk, xC_P_mk, xC_Q_mk, xC_E_mk, xC_kr_mk, xC_ct_mk, xC_tt_mk, xC_A_mk, xC_qs_mk, xC_qx_mk, xC_qy_mk, xC_vs_mk, xC_lo_mk, xC_hg_mk, xC_ab_mk, xC_fo_mk, xC_pk_mk, xC_K_mk, xC_kd_mk, xM_n_mk, xM_tg_mk, xM_hd_mk, xM_wt_mk, xM_fb_mk, xM_kn_mk, xM_mn_mk, xM_rk_mk, xM_rs_mk, xM_rh_mk, xM_E_mk, xM_gn_mk, xM_ks_mk, xM_kt_mk, xM_kh_mk, xM_A_mk, xM_qs_mk, xM_qx_mk, xM_qy_mk, xM_rw_mk, xM_wo_mk, xM_ia_mk, xM_fo_mk, xM_pr_mk, xM_h_mk, xS_N_mk, xS_tg_mk, xS_hd_mk, xS_wt_mk, xS_fb_mk, xS_E_mk, xS_gn_mk, xS_ks_mk, xS_kt_mk, xS_kh_mk, xS_A_mk, xS_qs_mk, xS_qx_mk, xS_qy_mk, xC_eta, xM_eta, xS_eta, q, k1.2, za', w]
      · simp [I_X10_barred, E_X10_barred, zfok, zfv, zfs', ziok, ziv, zpok, zis', zlok, zlv', zls', zbok, zrok, zrv', zrs', zaok, zan, zcok, zcs', zis, zgv, zgh, zcat, zw_1, zw_21, zw_at, zclr_int, zclr_ref, zclr_null, zclr_none, zclr_long, zclr_clr, zbv_0, zbv_1, zbv_ite, zbv_ite', Value.category, xr0, xr1, xr2, xr3, xr4, xr5, xr6, xr7, xr8, xr265, xr266, xr267, xr268, xr269, xr270, xr271, xr272, xr273, xr274, xr275, xr276, xr277, xr278, xr279, xr280, xr281, xr282, xr283, xr284, xr285, xr286, xr287, xr288, xr289, xr290, xr291, xr292, xr293, xr294, xr295, xr296, xr297, xr298, xr299, xr300, xr301, xr302, xv2, xv3, xv4, xv6, xv7, xv266, xv268, xv269, xv270, xv271, xv273, xv274, xv275, xv276, xv277, xv278, xv279, xv280, xv281, xv282, xv283, xv284, xv285, xv286, xv287, xv288, xv289, xv290, xv291, xv292, xv293, xv294, xv295, xv296, xv297, xv298, xv299, xv300, xv301, xv302, znar0, znar1, znarI, zfitb, zfitb1, xC_N_mk, xC_tg_mk, xC_hd_mk, xC_wt_mk, xC_fb_mk, xC_R_mk, xC_G_mk, xC_P_mk, xC_Q_mk, xC_E_mk, xC_kr_mk, xC_ct_mk, xC_tt_mk, xC_A_mk, xC_qs_mk, xC_qx_mk, xC_qy_mk, xC_vs_mk, xC_lo_mk, xC_hg_mk, xC_ab_mk, xC_fo_mk, xC_pk_mk, xC_K_mk, xC_kd_mk, xM_n_mk, xM_tg_mk, xM_hd_mk, xM_wt_mk, xM_fb_mk, xM_kn_mk, xM_mn_mk, xM_rk_mk, xM_rs_mk, xM_rh_mk, xM_E_mk, xM_gn_mk, xM_ks_mk, xM_kt_mk, xM_kh_mk, xM_A_mk, xM_qs_mk, xM_qx_mk, xM_qy_mk, xM_rw_mk, xM_wo_mk, xM_ia_mk, xM_fo_mk, xM_pr_mk, xM_h_mk, xS_N_mk, xS_tg_mk, xS_hd_mk, xS_wt_mk, xS_fb_mk, xS_E_mk, xS_gn_mk, xS_ks_mk, xS_kt_mk, xS_kh_mk, xS_A_mk, xS_qs_mk, xS_qx_mk, xS_qy_mk, xC_eta, xM_eta, xS_eta, q, k1.2, za', w, (tk q).2]
theorem x_searched0 (ok : xOk σ) (rc : xRC σ C) (h : k ≠ -1 ∧ ¬ kpt σ k) {w : Int32} : zC 160 [.ref 1, .int k, .int w] (xW L xs s C M) = some (some (.int (-101)), xW L xs s C M) := by
  have d1 := x_drawn0 (L := L) (xs := xs) (s := s) (M := M) ok rc h
  simp [I_X9_searched, E_X9_searched, zfok, zfv, zfs', ziok, ziv, zpok, zis', zlok, zlv', zls', zbok, zrok, zrv', zrs', zaok, zan, zcok, zcs', zis, zgv, zgh, zcat, zw_1, zw_21, zw_at, zclr_int, zclr_ref, zclr_null, zclr_none, zclr_long, zclr_clr, zbv_0, zbv_1, zbv_ite, zbv_ite', Value.category, xr0, xr1, xr2, xr3, xr4, xr5, xr6, xr7, xr8, xr265, xr266, xr267, xr268, xr269, xr270, xr271, xr272, xr273, xr274, xr275, xr276, xr277, xr278, xr279, xr280, xr281, xr282, xr283, xr284, xr285, xr286, xr287, xr288, xr289, xr290, xr291, xr292, xr293, xr294, xr295, xr296, xr297, xr298, xr299, xr300, xr301, xr302, xv2, xv3, xv4, xv6, xv7, xv266, xv268, xv269, xv270, xv271, xv273, xv274, xv275, xv276, xv277, xv278, xv279, xv280, xv281, xv282, xv283, xv284, xv285, xv286, xv287, xv288, xv289, xv290, xv291, xv292, xv293, xv294, xv295, xv296, xv297, xv298, xv299, xv300, xv301, xv302, znar0, znar1, znarI, zfitb, zfitb1, xC_N_mk, xC_tg_mk, xC_hd_mk, xC_wt_mk, xC_fb_mk, xC_R_mk, xC_G_mk, xC_P_mk, xC_Q_mk, xC_E_mk, xC_kr_mk, xC_ct_mk, xC_tt_mk, xC_A_mk, xC_qs_mk, xC_qx_mk, xC_qy_mk, xC_vs_mk, xC_lo_mk, xC_hg_mk, xC_ab_mk, xC_fo_mk, xC_pk_mk, xC_K_mk, xC_kd_mk, xM_n_mk, xM_tg_mk, xM_hd_mk, xM_wt_mk, xM_fb_mk, xM_kn_mk, xM_mn_mk, xM_rk_mk, xM_rs_mk, xM_rh_mk, xM_E_mk, xM_gn_mk, xM_ks_mk, xM_kt_mk, xM_kh_mk, xM_A_mk, xM_qs_mk, xM_qx_mk, xM_qy_mk, xM_rw_mk, xM_wo_mk, xM_ia_mk, xM_fo_mk, xM_pr_mk, xM_h_mk, xS_N_mk, xS_tg_mk, xS_hd_mk, xS_wt_mk, xS_fb_mk, xS_E_mk, xS_gn_mk, xS_ks_mk, xS_kt_mk, xS_kh_mk, xS_A_mk, xS_qs_mk, xS_qx_mk, xS_qy_mk, xC_eta, xM_eta, xS_eta, d1]
theorem x_searched1 (ok : xOk σ) (rc : xRC σ C) (h : dwn σ k o n tg hd) (hb : ¬ (σ.A ≠ 0 ∧ zTr hd n = true)) {w : Int32} : zC 160 [.ref 1, .int k, .int w] (xW L xs s C M) = some (some (.int (-103)), xW L xs s C M) := by
  have A6 := ok.A6
  have d1 := x_drawn1 (L := L) (xs := xs) (s := s) (M := M) ok rc h
  have t1 := dwn_t (L := L) (xs := xs) (s := s) (M := M) ok rc h
  obtain ⟨t, q, a1, a2, a3⟩ := dwn_c (L := L) (xs := xs) (s := s) (M := M) rc h
  have za : (nI σ.A = 0) ↔ σ.A = 0 := zeq (b := 0) (by omega) (by omega)
  by_cases w0 : σ.A = 0
  · simp [I_X9_searched, E_X9_searched, zfok, zfv, zfs', ziok, ziv, zpok, zis', zlok, zlv', zls', zbok, zrok, zrv', zrs', zaok, zan, zcok, zcs', zis, zgv, zgh, zcat, zw_1, zw_21, zw_at, zclr_int, zclr_ref, zclr_null, zclr_none, zclr_long, zclr_clr, zbv_0, zbv_1, zbv_ite, zbv_ite', Value.category, xr0, xr1, xr2, xr3, xr4, xr5, xr6, xr7, xr8, xr265, xr266, xr267, xr268, xr269, xr270, xr271, xr272, xr273, xr274, xr275, xr276, xr277, xr278, xr279, xr280, xr281, xr282, xr283, xr284, xr285, xr286, xr287, xr288, xr289, xr290, xr291, xr292, xr293, xr294, xr295, xr296, xr297, xr298, xr299, xr300, xr301, xr302, xv2, xv3, xv4, xv6, xv7, xv266, xv268, xv269, xv270, xv271, xv273, xv274, xv275, xv276, xv277, xv278, xv279, xv280, xv281, xv282, xv283, xv284, xv285, xv286, xv287, xv288, xv289, xv290, xv291, xv292, xv293, xv294, xv295, xv296, xv297, xv298, xv299, xv300, xv301, xv302, znar0, znar1, znarI, zfitb, zfitb1, xC_N_mk, xC_tg_mk, xC_hd_mk, xC_wt_mk, xC_fb_mk, xC_R_mk, xC_G_mk, xC_P_mk, xC_Q_mk, xC_E_mk, xC_kr_mk, xC_ct_mk, xC_tt_mk, xC_A_mk, xC_qs_mk, xC_qx_mk, xC_qy_mk, xC_vs_mk, xC_lo_mk, xC_hg_mk, xC_ab_mk, xC_fo_mk, xC_pk_mk, xC_K_mk, xC_kd_mk, xM_n_mk, xM_tg_mk, xM_hd_mk, xM_wt_mk, xM_fb_mk, xM_kn_mk, xM_mn_mk, xM_rk_mk, xM_rs_mk, xM_rh_mk, xM_E_mk, xM_gn_mk, xM_ks_mk, xM_kt_mk, xM_kh_mk, xM_A_mk, xM_qs_mk, xM_qx_mk, xM_qy_mk, xM_rw_mk, xM_wo_mk, xM_ia_mk, xM_fo_mk, xM_pr_mk, xM_h_mk, xS_N_mk, xS_tg_mk, xS_hd_mk, xS_wt_mk, xS_fb_mk, xS_E_mk, xS_gn_mk, xS_ks_mk, xS_kt_mk, xS_kh_mk, xS_A_mk, xS_qs_mk, xS_qx_mk, xS_qy_mk, xC_eta, xM_eta, xS_eta, d1, rc.A, w0, nI_0]
  · have T : ¬ zTr hd n = true := fun z => hb ⟨w0, z⟩
    rw [if_neg T] at t1
    simp [I_X9_searched, E_X9_searched, zfok, zfv, zfs', ziok, ziv, zpok, zis', zlok, zlv', zls', zbok, zrok, zrv', zrs', zaok, zan, zcok, zcs', zis, zgv, zgh, zcat, zw_1, zw_21, zw_at, zclr_int, zclr_ref, zclr_null, zclr_none, zclr_long, zclr_clr, zbv_0, zbv_1, zbv_ite, zbv_ite', Value.category, xr0, xr1, xr2, xr3, xr4, xr5, xr6, xr7, xr8, xr265, xr266, xr267, xr268, xr269, xr270, xr271, xr272, xr273, xr274, xr275, xr276, xr277, xr278, xr279, xr280, xr281, xr282, xr283, xr284, xr285, xr286, xr287, xr288, xr289, xr290, xr291, xr292, xr293, xr294, xr295, xr296, xr297, xr298, xr299, xr300, xr301, xr302, xv2, xv3, xv4, xv6, xv7, xv266, xv268, xv269, xv270, xv271, xv273, xv274, xv275, xv276, xv277, xv278, xv279, xv280, xv281, xv282, xv283, xv284, xv285, xv286, xv287, xv288, xv289, xv290, xv291, xv292, xv293, xv294, xv295, xv296, xv297, xv298, xv299, xv300, xv301, xv302, znar0, znar1, znarI, zfitb, zfitb1, xC_N_mk, xC_tg_mk, xC_hd_mk, xC_wt_mk, xC_fb_mk, xC_R_mk, xC_G_mk, xC_P_mk, xC_Q_mk, xC_E_mk, xC_kr_mk, xC_ct_mk, xC_tt_mk, xC_A_mk, xC_qs_mk, xC_qx_mk, xC_qy_mk, xC_vs_mk, xC_lo_mk, xC_hg_mk, xC_ab_mk, xC_fo_mk, xC_pk_mk, xC_K_mk, xC_kd_mk, xM_n_mk, xM_tg_mk, xM_hd_mk, xM_wt_mk, xM_fb_mk, xM_kn_mk, xM_mn_mk, xM_rk_mk, xM_rs_mk, xM_rh_mk, xM_E_mk, xM_gn_mk, xM_ks_mk, xM_kt_mk, xM_kh_mk, xM_A_mk, xM_qs_mk, xM_qx_mk, xM_qy_mk, xM_rw_mk, xM_wo_mk, xM_ia_mk, xM_fo_mk, xM_pr_mk, xM_h_mk, xS_N_mk, xS_tg_mk, xS_hd_mk, xS_wt_mk, xS_fb_mk, xS_E_mk, xS_gn_mk, xS_ks_mk, xS_kt_mk, xS_kh_mk, xS_A_mk, xS_qs_mk, xS_qx_mk, xS_qy_mk, xC_eta, xM_eta, xS_eta, d1, a1, rc.A, za, w0, t1]
theorem x_searched2 (ok : xOk σ) (rc : xRC σ C) (h : dwn σ k o n tg hd) (hb : σ.A ≠ 0 ∧ zTr hd n = true) {w : Int32} : ∃ C', xRC σ C' ∧ C'.pk = (zgs σ n tg hd w).2 ∧ zC 160 [.ref 1, .int k, .int w] (xW L xs s C M) = some (some (.int (nI (zgs σ n tg hd w).1)), xW L xs s C' M) := by
  have A6 := ok.A6
  have d1 := x_drawn1 (L := L) (xs := xs) (s := s) (M := M) ok rc h
  have t1 := dwn_t (L := L) (xs := xs) (s := s) (M := M) ok rc h
  obtain ⟨t, q, a1, a2, a3⟩ := dwn_c (L := L) (xs := xs) (s := s) (M := M) rc h
  have za : (nI σ.A = 0) ↔ σ.A = 0 := zeq (b := 0) (by omega) (by omega)
  obtain ⟨C', r1, r2, r3⟩ := s_search (L := L) (xs := xs) (s := s) (M := M) ok rc h (w := w)
  refine ⟨C', r1, r2, ?_⟩
  rw [if_pos hb.2] at t1
  simp [I_X9_searched, E_X9_searched, zfok, zfv, zfs', ziok, ziv, zpok, zis', zlok, zlv', zls', zbok, zrok, zrv', zrs', zaok, zan, zcok, zcs', zis, zgv, zgh, zcat, zw_1, zw_21, zw_at, zclr_int, zclr_ref, zclr_null, zclr_none, zclr_long, zclr_clr, zbv_0, zbv_1, zbv_ite, zbv_ite', Value.category, xr0, xr1, xr2, xr3, xr4, xr5, xr6, xr7, xr8, xr265, xr266, xr267, xr268, xr269, xr270, xr271, xr272, xr273, xr274, xr275, xr276, xr277, xr278, xr279, xr280, xr281, xr282, xr283, xr284, xr285, xr286, xr287, xr288, xr289, xr290, xr291, xr292, xr293, xr294, xr295, xr296, xr297, xr298, xr299, xr300, xr301, xr302, xv2, xv3, xv4, xv6, xv7, xv266, xv268, xv269, xv270, xv271, xv273, xv274, xv275, xv276, xv277, xv278, xv279, xv280, xv281, xv282, xv283, xv284, xv285, xv286, xv287, xv288, xv289, xv290, xv291, xv292, xv293, xv294, xv295, xv296, xv297, xv298, xv299, xv300, xv301, xv302, znar0, znar1, znarI, zfitb, zfitb1, xC_N_mk, xC_tg_mk, xC_hd_mk, xC_wt_mk, xC_fb_mk, xC_R_mk, xC_G_mk, xC_P_mk, xC_Q_mk, xC_E_mk, xC_kr_mk, xC_ct_mk, xC_tt_mk, xC_A_mk, xC_qs_mk, xC_qx_mk, xC_qy_mk, xC_vs_mk, xC_lo_mk, xC_hg_mk, xC_ab_mk, xC_fo_mk, xC_pk_mk, xC_K_mk, xC_kd_mk, xM_n_mk, xM_tg_mk, xM_hd_mk, xM_wt_mk, xM_fb_mk, xM_kn_mk, xM_mn_mk, xM_rk_mk, xM_rs_mk, xM_rh_mk, xM_E_mk, xM_gn_mk, xM_ks_mk, xM_kt_mk, xM_kh_mk, xM_A_mk, xM_qs_mk, xM_qx_mk, xM_qy_mk, xM_rw_mk, xM_wo_mk, xM_ia_mk, xM_fo_mk, xM_pr_mk, xM_h_mk, xS_N_mk, xS_tg_mk, xS_hd_mk, xS_wt_mk, xS_fb_mk, xS_E_mk, xS_gn_mk, xS_ks_mk, xS_kt_mk, xS_kh_mk, xS_A_mk, xS_qs_mk, xS_qx_mk, xS_qy_mk, xC_eta, xM_eta, xS_eta, d1, a1, rc.A, za, hb.1, t1, r3]
theorem c_answers (ok : xOk σ) (rc : xRC σ C) (rm : xRM ca σ M) (k : Int32) : xOut ca 163 146 [.int k] [.int k] L xs s C M σ := by
  rcases dwn_or σ k with ⟨o, n, tg, hd, h⟩ | h
  · obtain ⟨M1, rm1, b1⟩ := m_barred (L := L) (xs := xs) (s := s) (C := C) ok rm h
    by_cases hb : σ.A ≠ 0 ∧ zTr hd n = true
    · obtain ⟨C', r1, r2, r3⟩ := x_searched2 (L := L) (xs := xs) (s := s) (M := M) ok rc h hb (w := -1)
      obtain ⟨M1, rm1, b1⟩ := m_barred (L := L) (xs := xs) (s := s) (C := C') ok rm h
      rw [if_pos hb] at b1
      obtain ⟨M', m1, m2, m3⟩ := s_msearch (L := L) (xs := xs) (s := s) (C := C') ok rm1 h hb.2 (w := -1)
      refine ⟨.int (nI (zgs σ n tg hd (-1)).1), σ, s, C', M', ?_, ?_, ok, r1, m1, rfl⟩
      · simp [I_X9_answers, E_X9_answers, zfok, zfv, zfs', ziok, ziv, zpok, zis', zlok, zlv', zls', zbok, zrok, zrv', zrs', zaok, zan, zcok, zcs', zis, zgv, zgh, zcat, zw_1, zw_21, zw_at, zclr_int, zclr_ref, zclr_null, zclr_none, zclr_long, zclr_clr, zbv_0, zbv_1, zbv_ite, zbv_ite', Value.category, xr0, xr1, xr2, xr3, xr4, xr5, xr6, xr7, xr8, xr265, xr266, xr267, xr268, xr269, xr270, xr271, xr272, xr273, xr274, xr275, xr276, xr277, xr278, xr279, xr280, xr281, xr282, xr283, xr284, xr285, xr286, xr287, xr288, xr289, xr290, xr291, xr292, xr293, xr294, xr295, xr296, xr297, xr298, xr299, xr300, xr301, xr302, xv2, xv3, xv4, xv6, xv7, xv266, xv268, xv269, xv270, xv271, xv273, xv274, xv275, xv276, xv277, xv278, xv279, xv280, xv281, xv282, xv283, xv284, xv285, xv286, xv287, xv288, xv289, xv290, xv291, xv292, xv293, xv294, xv295, xv296, xv297, xv298, xv299, xv300, xv301, xv302, znar0, znar1, znarI, zfitb, zfitb1, xC_N_mk, xC_tg_mk, xC_hd_mk, xC_wt_mk, xC_fb_mk, xC_R_mk, xC_G_mk, xC_P_mk, xC_Q_mk, xC_E_mk, xC_kr_mk, xC_ct_mk, xC_tt_mk, xC_A_mk, xC_qs_mk, xC_qx_mk, xC_qy_mk, xC_vs_mk, xC_lo_mk, xC_hg_mk, xC_ab_mk, xC_fo_mk, xC_pk_mk, xC_K_mk, xC_kd_mk, xM_n_mk, xM_tg_mk, xM_hd_mk, xM_wt_mk, xM_fb_mk, xM_kn_mk, xM_mn_mk, xM_rk_mk, xM_rs_mk, xM_rh_mk, xM_E_mk, xM_gn_mk, xM_ks_mk, xM_kt_mk, xM_kh_mk, xM_A_mk, xM_qs_mk, xM_qx_mk, xM_qy_mk, xM_rw_mk, xM_wo_mk, xM_ia_mk, xM_fo_mk, xM_pr_mk, xM_h_mk, xS_N_mk, xS_tg_mk, xS_hd_mk, xS_wt_mk, xS_fb_mk, xS_E_mk, xS_gn_mk, xS_ks_mk, xS_kt_mk, xS_kh_mk, xS_A_mk, xS_qs_mk, xS_qx_mk, xS_qy_mk, xC_eta, xM_eta, xS_eta, r3]
      · simp [I_X10_answers, E_X10_answers, zfok, zfv, zfs', ziok, ziv, zpok, zis', zlok, zlv', zls', zbok, zrok, zrv', zrs', zaok, zan, zcok, zcs', zis, zgv, zgh, zcat, zw_1, zw_21, zw_at, zclr_int, zclr_ref, zclr_null, zclr_none, zclr_long, zclr_clr, zbv_0, zbv_1, zbv_ite, zbv_ite', Value.category, xr0, xr1, xr2, xr3, xr4, xr5, xr6, xr7, xr8, xr265, xr266, xr267, xr268, xr269, xr270, xr271, xr272, xr273, xr274, xr275, xr276, xr277, xr278, xr279, xr280, xr281, xr282, xr283, xr284, xr285, xr286, xr287, xr288, xr289, xr290, xr291, xr292, xr293, xr294, xr295, xr296, xr297, xr298, xr299, xr300, xr301, xr302, xv2, xv3, xv4, xv6, xv7, xv266, xv268, xv269, xv270, xv271, xv273, xv274, xv275, xv276, xv277, xv278, xv279, xv280, xv281, xv282, xv283, xv284, xv285, xv286, xv287, xv288, xv289, xv290, xv291, xv292, xv293, xv294, xv295, xv296, xv297, xv298, xv299, xv300, xv301, xv302, znar0, znar1, znarI, zfitb, zfitb1, xC_N_mk, xC_tg_mk, xC_hd_mk, xC_wt_mk, xC_fb_mk, xC_R_mk, xC_G_mk, xC_P_mk, xC_Q_mk, xC_E_mk, xC_kr_mk, xC_ct_mk, xC_tt_mk, xC_A_mk, xC_qs_mk, xC_qx_mk, xC_qy_mk, xC_vs_mk, xC_lo_mk, xC_hg_mk, xC_ab_mk, xC_fo_mk, xC_pk_mk, xC_K_mk, xC_kd_mk, xM_n_mk, xM_tg_mk, xM_hd_mk, xM_wt_mk, xM_fb_mk, xM_kn_mk, xM_mn_mk, xM_rk_mk, xM_rs_mk, xM_rh_mk, xM_E_mk, xM_gn_mk, xM_ks_mk, xM_kt_mk, xM_kh_mk, xM_A_mk, xM_qs_mk, xM_qx_mk, xM_qy_mk, xM_rw_mk, xM_wo_mk, xM_ia_mk, xM_fo_mk, xM_pr_mk, xM_h_mk, xS_N_mk, xS_tg_mk, xS_hd_mk, xS_wt_mk, xS_fb_mk, xS_E_mk, xS_gn_mk, xS_ks_mk, xS_kt_mk, xS_kh_mk, xS_A_mk, xS_qs_mk, xS_qx_mk, xS_qy_mk, xC_eta, xM_eta, xS_eta, b1, m3, m2]
    · rw [if_neg hb] at b1
      have r1 := x_searched1 (L := L) (xs := xs) (s := s) (M := M) ok rc h hb (w := -1)
      refine ⟨.int (-103), σ, s, C, M1, ?_, ?_, ok, rc, rm1, rfl⟩
      · simp [I_X9_answers, E_X9_answers, zfok, zfv, zfs', ziok, ziv, zpok, zis', zlok, zlv', zls', zbok, zrok, zrv', zrs', zaok, zan, zcok, zcs', zis, zgv, zgh, zcat, zw_1, zw_21, zw_at, zclr_int, zclr_ref, zclr_null, zclr_none, zclr_long, zclr_clr, zbv_0, zbv_1, zbv_ite, zbv_ite', Value.category, xr0, xr1, xr2, xr3, xr4, xr5, xr6, xr7, xr8, xr265, xr266, xr267, xr268, xr269, xr270, xr271, xr272, xr273, xr274, xr275, xr276, xr277, xr278, xr279, xr280, xr281, xr282, xr283, xr284, xr285, xr286, xr287, xr288, xr289, xr290, xr291, xr292, xr293, xr294, xr295, xr296, xr297, xr298, xr299, xr300, xr301, xr302, xv2, xv3, xv4, xv6, xv7, xv266, xv268, xv269, xv270, xv271, xv273, xv274, xv275, xv276, xv277, xv278, xv279, xv280, xv281, xv282, xv283, xv284, xv285, xv286, xv287, xv288, xv289, xv290, xv291, xv292, xv293, xv294, xv295, xv296, xv297, xv298, xv299, xv300, xv301, xv302, znar0, znar1, znarI, zfitb, zfitb1, xC_N_mk, xC_tg_mk, xC_hd_mk, xC_wt_mk, xC_fb_mk, xC_R_mk, xC_G_mk, xC_P_mk, xC_Q_mk, xC_E_mk, xC_kr_mk, xC_ct_mk, xC_tt_mk, xC_A_mk, xC_qs_mk, xC_qx_mk, xC_qy_mk, xC_vs_mk, xC_lo_mk, xC_hg_mk, xC_ab_mk, xC_fo_mk, xC_pk_mk, xC_K_mk, xC_kd_mk, xM_n_mk, xM_tg_mk, xM_hd_mk, xM_wt_mk, xM_fb_mk, xM_kn_mk, xM_mn_mk, xM_rk_mk, xM_rs_mk, xM_rh_mk, xM_E_mk, xM_gn_mk, xM_ks_mk, xM_kt_mk, xM_kh_mk, xM_A_mk, xM_qs_mk, xM_qx_mk, xM_qy_mk, xM_rw_mk, xM_wo_mk, xM_ia_mk, xM_fo_mk, xM_pr_mk, xM_h_mk, xS_N_mk, xS_tg_mk, xS_hd_mk, xS_wt_mk, xS_fb_mk, xS_E_mk, xS_gn_mk, xS_ks_mk, xS_kt_mk, xS_kh_mk, xS_A_mk, xS_qs_mk, xS_qx_mk, xS_qy_mk, xC_eta, xM_eta, xS_eta, r1]
      · simp [I_X10_answers, E_X10_answers, zfok, zfv, zfs', ziok, ziv, zpok, zis', zlok, zlv', zls', zbok, zrok, zrv', zrs', zaok, zan, zcok, zcs', zis, zgv, zgh, zcat, zw_1, zw_21, zw_at, zclr_int, zclr_ref, zclr_null, zclr_none, zclr_long, zclr_clr, zbv_0, zbv_1, zbv_ite, zbv_ite', Value.category, xr0, xr1, xr2, xr3, xr4, xr5, xr6, xr7, xr8, xr265, xr266, xr267, xr268, xr269, xr270, xr271, xr272, xr273, xr274, xr275, xr276, xr277, xr278, xr279, xr280, xr281, xr282, xr283, xr284, xr285, xr286, xr287, xr288, xr289, xr290, xr291, xr292, xr293, xr294, xr295, xr296, xr297, xr298, xr299, xr300, xr301, xr302, xv2, xv3, xv4, xv6, xv7, xv266, xv268, xv269, xv270, xv271, xv273, xv274, xv275, xv276, xv277, xv278, xv279, xv280, xv281, xv282, xv283, xv284, xv285, xv286, xv287, xv288, xv289, xv290, xv291, xv292, xv293, xv294, xv295, xv296, xv297, xv298, xv299, xv300, xv301, xv302, znar0, znar1, znarI, zfitb, zfitb1, xC_N_mk, xC_tg_mk, xC_hd_mk, xC_wt_mk, xC_fb_mk, xC_R_mk, xC_G_mk, xC_P_mk, xC_Q_mk, xC_E_mk, xC_kr_mk, xC_ct_mk, xC_tt_mk, xC_A_mk, xC_qs_mk, xC_qx_mk, xC_qy_mk, xC_vs_mk, xC_lo_mk, xC_hg_mk, xC_ab_mk, xC_fo_mk, xC_pk_mk, xC_K_mk, xC_kd_mk, xM_n_mk, xM_tg_mk, xM_hd_mk, xM_wt_mk, xM_fb_mk, xM_kn_mk, xM_mn_mk, xM_rk_mk, xM_rs_mk, xM_rh_mk, xM_E_mk, xM_gn_mk, xM_ks_mk, xM_kt_mk, xM_kh_mk, xM_A_mk, xM_qs_mk, xM_qx_mk, xM_qy_mk, xM_rw_mk, xM_wo_mk, xM_ia_mk, xM_fo_mk, xM_pr_mk, xM_h_mk, xS_N_mk, xS_tg_mk, xS_hd_mk, xS_wt_mk, xS_fb_mk, xS_E_mk, xS_gn_mk, xS_ks_mk, xS_kt_mk, xS_kh_mk, xS_A_mk, xS_qs_mk, xS_qx_mk, xS_qy_mk, xC_eta, xM_eta, xS_eta, b1]
  · have r1 := x_searched0 (L := L) (xs := xs) (s := s) (M := M) ok rc h (w := -1)
    have b1 := m_barred0 (L := L) (xs := xs) (s := s) (C := C) ok rm h
    refine ⟨.int (-101), σ, s, C, M, ?_, ?_, ok, rc, rm, rfl⟩
    · simp [I_X9_answers, E_X9_answers, zfok, zfv, zfs', ziok, ziv, zpok, zis', zlok, zlv', zls', zbok, zrok, zrv', zrs', zaok, zan, zcok, zcs', zis, zgv, zgh, zcat, zw_1, zw_21, zw_at, zclr_int, zclr_ref, zclr_null, zclr_none, zclr_long, zclr_clr, zbv_0, zbv_1, zbv_ite, zbv_ite', Value.category, xr0, xr1, xr2, xr3, xr4, xr5, xr6, xr7, xr8, xr265, xr266, xr267, xr268, xr269, xr270, xr271, xr272, xr273, xr274, xr275, xr276, xr277, xr278, xr279, xr280, xr281, xr282, xr283, xr284, xr285, xr286, xr287, xr288, xr289, xr290, xr291, xr292, xr293, xr294, xr295, xr296, xr297, xr298, xr299, xr300, xr301, xr302, xv2, xv3, xv4, xv6, xv7, xv266, xv268, xv269, xv270, xv271, xv273, xv274, xv275, xv276, xv277, xv278, xv279, xv280, xv281, xv282, xv283, xv284, xv285, xv286, xv287, xv288, xv289, xv290, xv291, xv292, xv293, xv294, xv295, xv296, xv297, xv298, xv299, xv300, xv301, xv302, znar0, znar1, znarI, zfitb, zfitb1, xC_N_mk, xC_tg_mk, xC_hd_mk, xC_wt_mk, xC_fb_mk, xC_R_mk, xC_G_mk, xC_P_mk, xC_Q_mk, xC_E_mk, xC_kr_mk, xC_ct_mk, xC_tt_mk, xC_A_mk, xC_qs_mk, xC_qx_mk, xC_qy_mk, xC_vs_mk, xC_lo_mk, xC_hg_mk, xC_ab_mk, xC_fo_mk, xC_pk_mk, xC_K_mk, xC_kd_mk, xM_n_mk, xM_tg_mk, xM_hd_mk, xM_wt_mk, xM_fb_mk, xM_kn_mk, xM_mn_mk, xM_rk_mk, xM_rs_mk, xM_rh_mk, xM_E_mk, xM_gn_mk, xM_ks_mk, xM_kt_mk, xM_kh_mk, xM_A_mk, xM_qs_mk, xM_qx_mk, xM_qy_mk, xM_rw_mk, xM_wo_mk, xM_ia_mk, xM_fo_mk, xM_pr_mk, xM_h_mk, xS_N_mk, xS_tg_mk, xS_hd_mk, xS_wt_mk, xS_fb_mk, xS_E_mk, xS_gn_mk, xS_ks_mk, xS_kt_mk, xS_kh_mk, xS_A_mk, xS_qs_mk, xS_qx_mk, xS_qy_mk, xC_eta, xM_eta, xS_eta, r1]
    · simp [I_X10_answers, E_X10_answers, zfok, zfv, zfs', ziok, ziv, zpok, zis', zlok, zlv', zls', zbok, zrok, zrv', zrs', zaok, zan, zcok, zcs', zis, zgv, zgh, zcat, zw_1, zw_21, zw_at, zclr_int, zclr_ref, zclr_null, zclr_none, zclr_long, zclr_clr, zbv_0, zbv_1, zbv_ite, zbv_ite', Value.category, xr0, xr1, xr2, xr3, xr4, xr5, xr6, xr7, xr8, xr265, xr266, xr267, xr268, xr269, xr270, xr271, xr272, xr273, xr274, xr275, xr276, xr277, xr278, xr279, xr280, xr281, xr282, xr283, xr284, xr285, xr286, xr287, xr288, xr289, xr290, xr291, xr292, xr293, xr294, xr295, xr296, xr297, xr298, xr299, xr300, xr301, xr302, xv2, xv3, xv4, xv6, xv7, xv266, xv268, xv269, xv270, xv271, xv273, xv274, xv275, xv276, xv277, xv278, xv279, xv280, xv281, xv282, xv283, xv284, xv285, xv286, xv287, xv288, xv289, xv290, xv291, xv292, xv293, xv294, xv295, xv296, xv297, xv298, xv299, xv300, xv301, xv302, znar0, znar1, znarI, zfitb, zfitb1, xC_N_mk, xC_tg_mk, xC_hd_mk, xC_wt_mk, xC_fb_mk, xC_R_mk, xC_G_mk, xC_P_mk, xC_Q_mk, xC_E_mk, xC_kr_mk, xC_ct_mk, xC_tt_mk, xC_A_mk, xC_qs_mk, xC_qx_mk, xC_qy_mk, xC_vs_mk, xC_lo_mk, xC_hg_mk, xC_ab_mk, xC_fo_mk, xC_pk_mk, xC_K_mk, xC_kd_mk, xM_n_mk, xM_tg_mk, xM_hd_mk, xM_wt_mk, xM_fb_mk, xM_kn_mk, xM_mn_mk, xM_rk_mk, xM_rs_mk, xM_rh_mk, xM_E_mk, xM_gn_mk, xM_ks_mk, xM_kt_mk, xM_kh_mk, xM_A_mk, xM_qs_mk, xM_qx_mk, xM_qy_mk, xM_rw_mk, xM_wo_mk, xM_ia_mk, xM_fo_mk, xM_pr_mk, xM_h_mk, xS_N_mk, xS_tg_mk, xS_hd_mk, xS_wt_mk, xS_fb_mk, xS_E_mk, xS_gn_mk, xS_ks_mk, xS_kt_mk, xS_kh_mk, xS_A_mk, xS_qs_mk, xS_qx_mk, xS_qy_mk, xC_eta, xM_eta, xS_eta, b1]
theorem fld_le {f : Nat → Nat × Int32 → Nat × Int32} (h : ∀ i S, (f i S).1 ≤ S.1 + 1) : ∀ c i S, (fld f c i S).1 ≤ S.1 + c
  | 0, _, _ => Nat.le_refl _
  | c + 1, i, S => by
    have := fld_le h c (i + 1) (f i S)
    have := h i S
    rw [fld]; omega
theorem fld_pk {w : Int32} (hw : w < 0) {f : Nat → Nat × Int32 → Nat × Int32} (h : ∀ i S, (f i S).1 ≤ S.1 + 1) (h2 : ∀ i S, S.1 < 100000 → S.2 = -1 → (f i S).2 = -1) : ∀ c i S, S.1 + c < 100000 → S.2 = -1 → (fld f c i S).2 = -1
  | 0, _, _, _, e => e
  | c + 1, i, S, b, e => by
    have := h i S
    rw [fld]
    exact fld_pk hw h h2 c (i + 1) (f i S) (by omega) (h2 i S (by omega) e)
theorem zgs_b (ok : xOk σ) (hn1 : 1 ≤ n) (hn : n ≤ 7) {w : Int32} : (zgs σ n tg hd w).1 ≤ 10000 ∧ (w < 0 → (zgs σ n tg hd w).2 = -1) := by
  have b0 := zrn_7 (σ := σ) hn 0
  have b1 := zrn_7 (σ := σ) hn 1
  have b2 := zrn_7 (σ := σ) hn 2
  have b3 := zrn_7 (σ := σ) hn 3
  have x1 : zrn σ n 0 * zrn σ n 1 ≤ 7 * 7 := Nat.mul_le_mul b0 b1
  have x2 : zrn σ n 0 * zrn σ n 1 * zrn σ n 2 ≤ 7 * 7 * 7 := Nat.mul_le_mul x1 b2
  have x3 : zrn σ n 0 * zrn σ n 1 * zrn σ n 2 * zrn σ n 3 ≤ 7 * 7 * 7 * 7 := Nat.mul_le_mul x2 b3
  have h1 : ∀ i S, (zcd σ n tg hd w i S).1 ≤ S.1 + 1 := fun i S => by
    unfold zcd zno
    split
    · exact Nat.le_refl _
    · omega
  rw [← zcd_zgs ok hn1]
  refine ⟨?_, fun hw => ?_⟩
  · have := fld_le h1 (zrn σ n 0 * zrn σ n 1 * zrn σ n 2 * zrn σ n 3) 0 (0, -1)
    dsimp only at this
    omega
  · refine fld_pk hw h1 (fun i S hb e => ?_) _ _ _ (by dsimp only; omega) rfl
    unfold zcd zno
    split
    · dsimp only
      rw [if_neg]
      · exact e
      · intro z
        have : ¬ nI S.1 < 0 := zge0 (by omega)
        rw [z] at this
        exact this hw
    · exact e
theorem c_answer (ok : xOk σ) (rc : xRC σ C) (rm : xRM ca σ M) (k i : Int32) : xOut ca 164 147 [.int k, .int i] [.int k, .int i] L xs s C M σ := by
  rcases dwn_or σ k with ⟨o, n, tg, hd, h⟩ | h
  · obtain ⟨M1, rm1, b1⟩ := m_barred (L := L) (xs := xs) (s := s) (C := C) ok rm h
    have od := dwn_d ok h
    by_cases hb : σ.A ≠ 0 ∧ zTr hd n = true
    · obtain ⟨C', r1, r2, r3⟩ := x_searched2 (L := L) (xs := xs) (s := s) (M := M) ok rc h hb (w := i)
      obtain ⟨M1, rm1, b1⟩ := m_barred (L := L) (xs := xs) (s := s) (C := C') ok rm h
      rw [if_pos hb] at b1
      have zb := zgs_b (tg := tg) (hd := hd) ok od.n1 od.n7 (w := i)
      have g0 : (0 : Int32) ≤ nI (zgs σ n tg hd i).1 := Int32.not_lt.mp (zge0 (by omega))
      have cls : zC 164 [.ref 1, .int k, .int i] (xW L xs s C M) = some (some (.int (zgs σ n tg hd i).2), xW L xs s C' M) := by
        simp [I_X9_answer, E_X9_answer, zfok, zfv, zfs', ziok, ziv, zpok, zis', zlok, zlv', zls', zbok, zrok, zrv', zrs', zaok, zan, zcok, zcs', zis, zgv, zgh, zcat, zw_1, zw_21, zw_at, zclr_int, zclr_ref, zclr_null, zclr_none, zclr_long, zclr_clr, zbv_0, zbv_1, zbv_ite, zbv_ite', Value.category, xr0, xr1, xr2, xr3, xr4, xr5, xr6, xr7, xr8, xr265, xr266, xr267, xr268, xr269, xr270, xr271, xr272, xr273, xr274, xr275, xr276, xr277, xr278, xr279, xr280, xr281, xr282, xr283, xr284, xr285, xr286, xr287, xr288, xr289, xr290, xr291, xr292, xr293, xr294, xr295, xr296, xr297, xr298, xr299, xr300, xr301, xr302, xv2, xv3, xv4, xv6, xv7, xv266, xv268, xv269, xv270, xv271, xv273, xv274, xv275, xv276, xv277, xv278, xv279, xv280, xv281, xv282, xv283, xv284, xv285, xv286, xv287, xv288, xv289, xv290, xv291, xv292, xv293, xv294, xv295, xv296, xv297, xv298, xv299, xv300, xv301, xv302, znar0, znar1, znarI, zfitb, zfitb1, xC_N_mk, xC_tg_mk, xC_hd_mk, xC_wt_mk, xC_fb_mk, xC_R_mk, xC_G_mk, xC_P_mk, xC_Q_mk, xC_E_mk, xC_kr_mk, xC_ct_mk, xC_tt_mk, xC_A_mk, xC_qs_mk, xC_qx_mk, xC_qy_mk, xC_vs_mk, xC_lo_mk, xC_hg_mk, xC_ab_mk, xC_fo_mk, xC_pk_mk, xC_K_mk, xC_kd_mk, xM_n_mk, xM_tg_mk, xM_hd_mk, xM_wt_mk, xM_fb_mk, xM_kn_mk, xM_mn_mk, xM_rk_mk, xM_rs_mk, xM_rh_mk, xM_E_mk, xM_gn_mk, xM_ks_mk, xM_kt_mk, xM_kh_mk, xM_A_mk, xM_qs_mk, xM_qx_mk, xM_qy_mk, xM_rw_mk, xM_wo_mk, xM_ia_mk, xM_fo_mk, xM_pr_mk, xM_h_mk, xS_N_mk, xS_tg_mk, xS_hd_mk, xS_wt_mk, xS_fb_mk, xS_E_mk, xS_gn_mk, xS_ks_mk, xS_kt_mk, xS_kh_mk, xS_A_mk, xS_qs_mk, xS_qx_mk, xS_qy_mk, xC_eta, xM_eta, xS_eta, r3, g0, r2]
      by_cases hi : i < 0
      · have ni : ¬ 0 ≤ i := Int32.not_le.mpr hi
        rw [zb.2 hi] at cls
        refine ⟨.int (-1), σ, s, C', M1, cls, ?_, ok, r1, rm1, rfl⟩
        simp [I_X10_answer, E_X10_answer, zfok, zfv, zfs', ziok, ziv, zpok, zis', zlok, zlv', zls', zbok, zrok, zrv', zrs', zaok, zan, zcok, zcs', zis, zgv, zgh, zcat, zw_1, zw_21, zw_at, zclr_int, zclr_ref, zclr_null, zclr_none, zclr_long, zclr_clr, zbv_0, zbv_1, zbv_ite, zbv_ite', Value.category, xr0, xr1, xr2, xr3, xr4, xr5, xr6, xr7, xr8, xr265, xr266, xr267, xr268, xr269, xr270, xr271, xr272, xr273, xr274, xr275, xr276, xr277, xr278, xr279, xr280, xr281, xr282, xr283, xr284, xr285, xr286, xr287, xr288, xr289, xr290, xr291, xr292, xr293, xr294, xr295, xr296, xr297, xr298, xr299, xr300, xr301, xr302, xv2, xv3, xv4, xv6, xv7, xv266, xv268, xv269, xv270, xv271, xv273, xv274, xv275, xv276, xv277, xv278, xv279, xv280, xv281, xv282, xv283, xv284, xv285, xv286, xv287, xv288, xv289, xv290, xv291, xv292, xv293, xv294, xv295, xv296, xv297, xv298, xv299, xv300, xv301, xv302, znar0, znar1, znarI, zfitb, zfitb1, xC_N_mk, xC_tg_mk, xC_hd_mk, xC_wt_mk, xC_fb_mk, xC_R_mk, xC_G_mk, xC_P_mk, xC_Q_mk, xC_E_mk, xC_kr_mk, xC_ct_mk, xC_tt_mk, xC_A_mk, xC_qs_mk, xC_qx_mk, xC_qy_mk, xC_vs_mk, xC_lo_mk, xC_hg_mk, xC_ab_mk, xC_fo_mk, xC_pk_mk, xC_K_mk, xC_kd_mk, xM_n_mk, xM_tg_mk, xM_hd_mk, xM_wt_mk, xM_fb_mk, xM_kn_mk, xM_mn_mk, xM_rk_mk, xM_rs_mk, xM_rh_mk, xM_E_mk, xM_gn_mk, xM_ks_mk, xM_kt_mk, xM_kh_mk, xM_A_mk, xM_qs_mk, xM_qx_mk, xM_qy_mk, xM_rw_mk, xM_wo_mk, xM_ia_mk, xM_fo_mk, xM_pr_mk, xM_h_mk, xS_N_mk, xS_tg_mk, xS_hd_mk, xS_wt_mk, xS_fb_mk, xS_E_mk, xS_gn_mk, xS_ks_mk, xS_kt_mk, xS_kh_mk, xS_A_mk, xS_qs_mk, xS_qx_mk, xS_qy_mk, xC_eta, xM_eta, xS_eta, b1, ni]
      · have ni : 0 ≤ i := Int32.not_lt.mp hi
        obtain ⟨M', m1, m2, m3⟩ := s_msearch (L := L) (xs := xs) (s := s) (C := C') ok rm1 h hb.2 (w := i)
        refine ⟨.int (zgs σ n tg hd i).2, σ, s, C', M', cls, ?_, ok, r1, m1, rfl⟩
        simp [I_X10_answer, E_X10_answer, zfok, zfv, zfs', ziok, ziv, zpok, zis', zlok, zlv', zls', zbok, zrok, zrv', zrs', zaok, zan, zcok, zcs', zis, zgv, zgh, zcat, zw_1, zw_21, zw_at, zclr_int, zclr_ref, zclr_null, zclr_none, zclr_long, zclr_clr, zbv_0, zbv_1, zbv_ite, zbv_ite', Value.category, xr0, xr1, xr2, xr3, xr4, xr5, xr6, xr7, xr8, xr265, xr266, xr267, xr268, xr269, xr270, xr271, xr272, xr273, xr274, xr275, xr276, xr277, xr278, xr279, xr280, xr281, xr282, xr283, xr284, xr285, xr286, xr287, xr288, xr289, xr290, xr291, xr292, xr293, xr294, xr295, xr296, xr297, xr298, xr299, xr300, xr301, xr302, xv2, xv3, xv4, xv6, xv7, xv266, xv268, xv269, xv270, xv271, xv273, xv274, xv275, xv276, xv277, xv278, xv279, xv280, xv281, xv282, xv283, xv284, xv285, xv286, xv287, xv288, xv289, xv290, xv291, xv292, xv293, xv294, xv295, xv296, xv297, xv298, xv299, xv300, xv301, xv302, znar0, znar1, znarI, zfitb, zfitb1, xC_N_mk, xC_tg_mk, xC_hd_mk, xC_wt_mk, xC_fb_mk, xC_R_mk, xC_G_mk, xC_P_mk, xC_Q_mk, xC_E_mk, xC_kr_mk, xC_ct_mk, xC_tt_mk, xC_A_mk, xC_qs_mk, xC_qx_mk, xC_qy_mk, xC_vs_mk, xC_lo_mk, xC_hg_mk, xC_ab_mk, xC_fo_mk, xC_pk_mk, xC_K_mk, xC_kd_mk, xM_n_mk, xM_tg_mk, xM_hd_mk, xM_wt_mk, xM_fb_mk, xM_kn_mk, xM_mn_mk, xM_rk_mk, xM_rs_mk, xM_rh_mk, xM_E_mk, xM_gn_mk, xM_ks_mk, xM_kt_mk, xM_kh_mk, xM_A_mk, xM_qs_mk, xM_qx_mk, xM_qy_mk, xM_rw_mk, xM_wo_mk, xM_ia_mk, xM_fo_mk, xM_pr_mk, xM_h_mk, xS_N_mk, xS_tg_mk, xS_hd_mk, xS_wt_mk, xS_fb_mk, xS_E_mk, xS_gn_mk, xS_ks_mk, xS_kt_mk, xS_kh_mk, xS_A_mk, xS_qs_mk, xS_qx_mk, xS_qy_mk, xC_eta, xM_eta, xS_eta, b1, ni, m3]
    · rw [if_neg hb] at b1
      have r1 := x_searched1 (L := L) (xs := xs) (s := s) (M := M) ok rc h hb (w := i)
      have g0 : ¬ (0 : Int32) ≤ -103 := by decide
      refine ⟨.int (-103), σ, s, C, M1, ?_, ?_, ok, rc, rm1, rfl⟩
      · simp [I_X9_answer, E_X9_answer, zfok, zfv, zfs', ziok, ziv, zpok, zis', zlok, zlv', zls', zbok, zrok, zrv', zrs', zaok, zan, zcok, zcs', zis, zgv, zgh, zcat, zw_1, zw_21, zw_at, zclr_int, zclr_ref, zclr_null, zclr_none, zclr_long, zclr_clr, zbv_0, zbv_1, zbv_ite, zbv_ite', Value.category, xr0, xr1, xr2, xr3, xr4, xr5, xr6, xr7, xr8, xr265, xr266, xr267, xr268, xr269, xr270, xr271, xr272, xr273, xr274, xr275, xr276, xr277, xr278, xr279, xr280, xr281, xr282, xr283, xr284, xr285, xr286, xr287, xr288, xr289, xr290, xr291, xr292, xr293, xr294, xr295, xr296, xr297, xr298, xr299, xr300, xr301, xr302, xv2, xv3, xv4, xv6, xv7, xv266, xv268, xv269, xv270, xv271, xv273, xv274, xv275, xv276, xv277, xv278, xv279, xv280, xv281, xv282, xv283, xv284, xv285, xv286, xv287, xv288, xv289, xv290, xv291, xv292, xv293, xv294, xv295, xv296, xv297, xv298, xv299, xv300, xv301, xv302, znar0, znar1, znarI, zfitb, zfitb1, xC_N_mk, xC_tg_mk, xC_hd_mk, xC_wt_mk, xC_fb_mk, xC_R_mk, xC_G_mk, xC_P_mk, xC_Q_mk, xC_E_mk, xC_kr_mk, xC_ct_mk, xC_tt_mk, xC_A_mk, xC_qs_mk, xC_qx_mk, xC_qy_mk, xC_vs_mk, xC_lo_mk, xC_hg_mk, xC_ab_mk, xC_fo_mk, xC_pk_mk, xC_K_mk, xC_kd_mk, xM_n_mk, xM_tg_mk, xM_hd_mk, xM_wt_mk, xM_fb_mk, xM_kn_mk, xM_mn_mk, xM_rk_mk, xM_rs_mk, xM_rh_mk, xM_E_mk, xM_gn_mk, xM_ks_mk, xM_kt_mk, xM_kh_mk, xM_A_mk, xM_qs_mk, xM_qx_mk, xM_qy_mk, xM_rw_mk, xM_wo_mk, xM_ia_mk, xM_fo_mk, xM_pr_mk, xM_h_mk, xS_N_mk, xS_tg_mk, xS_hd_mk, xS_wt_mk, xS_fb_mk, xS_E_mk, xS_gn_mk, xS_ks_mk, xS_kt_mk, xS_kh_mk, xS_A_mk, xS_qs_mk, xS_qx_mk, xS_qy_mk, xC_eta, xM_eta, xS_eta, r1]
      · simp [I_X10_answer, E_X10_answer, zfok, zfv, zfs', ziok, ziv, zpok, zis', zlok, zlv', zls', zbok, zrok, zrv', zrs', zaok, zan, zcok, zcs', zis, zgv, zgh, zcat, zw_1, zw_21, zw_at, zclr_int, zclr_ref, zclr_null, zclr_none, zclr_long, zclr_clr, zbv_0, zbv_1, zbv_ite, zbv_ite', Value.category, xr0, xr1, xr2, xr3, xr4, xr5, xr6, xr7, xr8, xr265, xr266, xr267, xr268, xr269, xr270, xr271, xr272, xr273, xr274, xr275, xr276, xr277, xr278, xr279, xr280, xr281, xr282, xr283, xr284, xr285, xr286, xr287, xr288, xr289, xr290, xr291, xr292, xr293, xr294, xr295, xr296, xr297, xr298, xr299, xr300, xr301, xr302, xv2, xv3, xv4, xv6, xv7, xv266, xv268, xv269, xv270, xv271, xv273, xv274, xv275, xv276, xv277, xv278, xv279, xv280, xv281, xv282, xv283, xv284, xv285, xv286, xv287, xv288, xv289, xv290, xv291, xv292, xv293, xv294, xv295, xv296, xv297, xv298, xv299, xv300, xv301, xv302, znar0, znar1, znarI, zfitb, zfitb1, xC_N_mk, xC_tg_mk, xC_hd_mk, xC_wt_mk, xC_fb_mk, xC_R_mk, xC_G_mk, xC_P_mk, xC_Q_mk, xC_E_mk, xC_kr_mk, xC_ct_mk, xC_tt_mk, xC_A_mk, xC_qs_mk, xC_qx_mk, xC_qy_mk, xC_vs_mk, xC_lo_mk, xC_hg_mk, xC_ab_mk, xC_fo_mk, xC_pk_mk, xC_K_mk, xC_kd_mk, xM_n_mk, xM_tg_mk, xM_hd_mk, xM_wt_mk, xM_fb_mk, xM_kn_mk, xM_mn_mk, xM_rk_mk, xM_rs_mk, xM_rh_mk, xM_E_mk, xM_gn_mk, xM_ks_mk, xM_kt_mk, xM_kh_mk, xM_A_mk, xM_qs_mk, xM_qx_mk, xM_qy_mk, xM_rw_mk, xM_wo_mk, xM_ia_mk, xM_fo_mk, xM_pr_mk, xM_h_mk, xS_N_mk, xS_tg_mk, xS_hd_mk, xS_wt_mk, xS_fb_mk, xS_E_mk, xS_gn_mk, xS_ks_mk, xS_kt_mk, xS_kh_mk, xS_A_mk, xS_qs_mk, xS_qx_mk, xS_qy_mk, xC_eta, xM_eta, xS_eta, b1]
  · have r1 := x_searched0 (L := L) (xs := xs) (s := s) (M := M) ok rc h (w := i)
    have b1 := m_barred0 (L := L) (xs := xs) (s := s) (C := C) ok rm h
    refine ⟨.int (-101), σ, s, C, M, ?_, ?_, ok, rc, rm, rfl⟩
    · simp [I_X9_answer, E_X9_answer, zfok, zfv, zfs', ziok, ziv, zpok, zis', zlok, zlv', zls', zbok, zrok, zrv', zrs', zaok, zan, zcok, zcs', zis, zgv, zgh, zcat, zw_1, zw_21, zw_at, zclr_int, zclr_ref, zclr_null, zclr_none, zclr_long, zclr_clr, zbv_0, zbv_1, zbv_ite, zbv_ite', Value.category, xr0, xr1, xr2, xr3, xr4, xr5, xr6, xr7, xr8, xr265, xr266, xr267, xr268, xr269, xr270, xr271, xr272, xr273, xr274, xr275, xr276, xr277, xr278, xr279, xr280, xr281, xr282, xr283, xr284, xr285, xr286, xr287, xr288, xr289, xr290, xr291, xr292, xr293, xr294, xr295, xr296, xr297, xr298, xr299, xr300, xr301, xr302, xv2, xv3, xv4, xv6, xv7, xv266, xv268, xv269, xv270, xv271, xv273, xv274, xv275, xv276, xv277, xv278, xv279, xv280, xv281, xv282, xv283, xv284, xv285, xv286, xv287, xv288, xv289, xv290, xv291, xv292, xv293, xv294, xv295, xv296, xv297, xv298, xv299, xv300, xv301, xv302, znar0, znar1, znarI, zfitb, zfitb1, xC_N_mk, xC_tg_mk, xC_hd_mk, xC_wt_mk, xC_fb_mk, xC_R_mk, xC_G_mk, xC_P_mk, xC_Q_mk, xC_E_mk, xC_kr_mk, xC_ct_mk, xC_tt_mk, xC_A_mk, xC_qs_mk, xC_qx_mk, xC_qy_mk, xC_vs_mk, xC_lo_mk, xC_hg_mk, xC_ab_mk, xC_fo_mk, xC_pk_mk, xC_K_mk, xC_kd_mk, xM_n_mk, xM_tg_mk, xM_hd_mk, xM_wt_mk, xM_fb_mk, xM_kn_mk, xM_mn_mk, xM_rk_mk, xM_rs_mk, xM_rh_mk, xM_E_mk, xM_gn_mk, xM_ks_mk, xM_kt_mk, xM_kh_mk, xM_A_mk, xM_qs_mk, xM_qx_mk, xM_qy_mk, xM_rw_mk, xM_wo_mk, xM_ia_mk, xM_fo_mk, xM_pr_mk, xM_h_mk, xS_N_mk, xS_tg_mk, xS_hd_mk, xS_wt_mk, xS_fb_mk, xS_E_mk, xS_gn_mk, xS_ks_mk, xS_kt_mk, xS_kh_mk, xS_A_mk, xS_qs_mk, xS_qx_mk, xS_qy_mk, xC_eta, xM_eta, xS_eta, r1]
    · simp [I_X10_answer, E_X10_answer, zfok, zfv, zfs', ziok, ziv, zpok, zis', zlok, zlv', zls', zbok, zrok, zrv', zrs', zaok, zan, zcok, zcs', zis, zgv, zgh, zcat, zw_1, zw_21, zw_at, zclr_int, zclr_ref, zclr_null, zclr_none, zclr_long, zclr_clr, zbv_0, zbv_1, zbv_ite, zbv_ite', Value.category, xr0, xr1, xr2, xr3, xr4, xr5, xr6, xr7, xr8, xr265, xr266, xr267, xr268, xr269, xr270, xr271, xr272, xr273, xr274, xr275, xr276, xr277, xr278, xr279, xr280, xr281, xr282, xr283, xr284, xr285, xr286, xr287, xr288, xr289, xr290, xr291, xr292, xr293, xr294, xr295, xr296, xr297, xr298, xr299, xr300, xr301, xr302, xv2, xv3, xv4, xv6, xv7, xv266, xv268, xv269, xv270, xv271, xv273, xv274, xv275, xv276, xv277, xv278, xv279, xv280, xv281, xv282, xv283, xv284, xv285, xv286, xv287, xv288, xv289, xv290, xv291, xv292, xv293, xv294, xv295, xv296, xv297, xv298, xv299, xv300, xv301, xv302, znar0, znar1, znarI, zfitb, zfitb1, xC_N_mk, xC_tg_mk, xC_hd_mk, xC_wt_mk, xC_fb_mk, xC_R_mk, xC_G_mk, xC_P_mk, xC_Q_mk, xC_E_mk, xC_kr_mk, xC_ct_mk, xC_tt_mk, xC_A_mk, xC_qs_mk, xC_qx_mk, xC_qy_mk, xC_vs_mk, xC_lo_mk, xC_hg_mk, xC_ab_mk, xC_fo_mk, xC_pk_mk, xC_K_mk, xC_kd_mk, xM_n_mk, xM_tg_mk, xM_hd_mk, xM_wt_mk, xM_fb_mk, xM_kn_mk, xM_mn_mk, xM_rk_mk, xM_rs_mk, xM_rh_mk, xM_E_mk, xM_gn_mk, xM_ks_mk, xM_kt_mk, xM_kh_mk, xM_A_mk, xM_qs_mk, xM_qx_mk, xM_qy_mk, xM_rw_mk, xM_wo_mk, xM_ia_mk, xM_fo_mk, xM_pr_mk, xM_h_mk, xS_N_mk, xS_tg_mk, xS_hd_mk, xS_wt_mk, xS_fb_mk, xS_E_mk, xS_gn_mk, xS_ks_mk, xS_kt_mk, xS_kh_mk, xS_A_mk, xS_qs_mk, xS_qx_mk, xS_qy_mk, xC_eta, xM_eta, xS_eta, b1]
end QUEST4
