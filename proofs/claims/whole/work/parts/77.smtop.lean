/-! the class's rows of spans hold the first of the smooth trees -/
def rIn (wt : Nat → Int32) (fb : Nat → Nat) (lim N : Nat) (R : rS) (k i : Nat) : Prop := (∀ a b, a ≤ N → b ≤ N → (a ≤ b ∨ 1 ≤ b) → (max a b - min a b < k ∨ (max a b - min a b = k ∧ min a b < i)) → spR wt fb lim R a b) ∧ (∀ p q, p < q → q ≤ N → (q - p < k ∨ (q - p = k ∧ p < i)) → mtR wt fb lim R p q)
theorem rres_self (R : rS) (i lim : Nat) : rres R i lim i = (lim, (0, (R i).2.2)) := by simp [rres, rset]
theorem rres_ne (R : rS) {i lim j : Nat} (h : j ≠ i) : rres R i lim j = R j := by simp [rres, rset, h]
section SMTOP
variable {wt : Nat → Int32} {fb : Nat → Nat} {lim N : Nat}
theorem spR_fr {R R' : rS} {a b : Nat} (h : R' (8 * a + b) = R (8 * a + b)) (k : spR wt fb lim R a b) : spR wt fb lim R' a b := by
  unfold spR; rw [h]; exact k
theorem mtR_fr {R R' : rS} {a b : Nat} (h : R' (64 + zmc a b) = R (64 + zmc a b)) (k : mtR wt fb lim R a b) : mtR wt fb lim R' a b := by
  unfold mtR; rw [h]; exact k
theorem zmc_lt {a b : Nat} (h : a < b) : zmc a b = 8 * a + b := by unfold zmc; omega
theorem sf1_top (hw : wbd wt) (h1 : 1 ≤ lim) (hN : N ≤ 7) {i len : Nat} (hl : 1 ≤ len) (hij : i + len ≤ N) {R : rS} (hI : rIn wt fb lim N R len i) : rIn wt fb lim N (sf1 fb wt lim i len R) len (i + 1) := by
  obtain ⟨hS, hM⟩ := hI
  unfold sf1
  obtain ⟨j, hj⟩ : ∃ j, j = i + len := ⟨_, rfl⟩
  rw [← hj]
  have zm : zmc i j = 8 * i + j := zmc_lt (by omega)
  have k2 := smt_top (fb := fb) hw h1 (i := i) (j := j) (by omega) (by omega) len i (rres R (64 + zmc i j) lim) (fun _ => 0) (by omega) (by omega) (by rw [rres_self]) (fun k k1 k2 => ⟨spR_fr (rres_ne R (by omega)) (hS i k (by omega) (by omega) (by omega) (by omega)), spR_fr (rres_ne R (by omega)) (hS j (k + 1) (by omega) (by omega) (by omega) (by omega))⟩) (by
    rw [rres_self]
    exact stop_nil (fun z ⟨k, a, b, _⟩ => by omega))
  generalize smt i j len i (rres R (64 + zmc i j) lim) = R2 at k2 ⊢
  obtain ⟨m2, f2⟩ := k2
  have f2 : ∀ r, r ≠ 64 + zmc i j → R2 r = R r := fun r hr => by rw [f2 r hr, rres_ne R hr]
  have k4 := ssp_top (fb := fb) hw h1 (a := i) (e := j) (by omega) (by omega) (by omega) (by omega) len 1 (rres R2 (8 * i + j) lim) (fun _ => 0) (by omega) (by omega) (by rw [rres_self]) (fun u u1 u2 => by
    have zf : zfar i j u = i + u := by unfold zfar; rw [if_pos (by omega)]
    rw [zf, show min i (i + u) = i by omega, show max i (i + u) = i + u by omega]
    refine ⟨mtR_fr (rres_ne R2 (by rw [zmc_lt (by omega)]; omega)) ?_, spR_fr (rres_ne R2 (by omega)) (spR_fr (f2 _ (by omega)) (hS (i + u) j (by omega) (by omega) (by omega) (by omega)))⟩
    by_cases q : i + u = j
    · rw [q]; exact m2
    · exact mtR_fr (f2 _ (by rw [zmc_lt (by omega : i < i + u)]; omega)) (hM i (i + u) (by omega) (by omega) (by omega))) (by
    rw [rres_self]
    exact stop_nil (fun z ⟨k, a, b, _⟩ => by omega))
  generalize ssp fb wt i j len 1 (rres R2 (8 * i + j) lim) = R4 at k4 ⊢
  obtain ⟨s4, f4⟩ := k4
  have f4 : ∀ r, r ≠ 8 * i + j → R4 r = R2 r := fun r hr => by rw [f4 r hr, rres_ne R2 hr]
  by_cases q0 : 0 < i
  · rw [if_pos q0]
    have k6 := ssp_top (fb := fb) hw h1 (a := j) (e := i) (by omega) (by omega) (by omega) (by omega) len 1 (rres R4 (8 * j + i) lim) (fun _ => 0) (by omega) (by omega) (by rw [rres_self]) (fun u u1 u2 => by
      have zf : zfar j i u = j - u := by unfold zfar; rw [if_neg (by omega)]
      rw [zf, show min j (j - u) = j - u by omega, show max j (j - u) = j by omega]
      refine ⟨mtR_fr (rres_ne R4 (by rw [zmc_lt (by omega)]; omega)) (mtR_fr (f4 _ (by rw [zmc_lt (by omega)]; omega)) ?_), spR_fr (rres_ne R4 (by omega)) (spR_fr (f4 _ (by omega)) (spR_fr (f2 _ (by omega)) (hS (j - u) i (by omega) (by omega) (by omega) (by omega))))⟩
      by_cases q : j - u = i
      · rw [q]; exact m2
      · exact mtR_fr (f2 _ (by rw [zmc_lt (by omega : j - u < j)]; omega)) (hM (j - u) j (by omega) (by omega) (by omega))) (by
      rw [rres_self]
      exact stop_nil (fun z ⟨k, a, b, _⟩ => by omega))
    generalize ssp fb wt j i len 1 (rres R4 (8 * j + i) lim) = R6 at k6 ⊢
    obtain ⟨s6, f6⟩ := k6
    have f6 : ∀ r, r ≠ 8 * j + i → R6 r = R4 r := fun r hr => by rw [f6 r hr, rres_ne R4 hr]
    refine ⟨fun a b ha hb hab hk => ?_, fun p q hp hq hk => ?_⟩
    · by_cases q1 : a = i ∧ b = j
      · obtain ⟨rfl, rfl⟩ := q1
        exact spR_fr (f6 _ (by omega)) s4
      · by_cases q2 : a = j ∧ b = i
        · obtain ⟨rfl, rfl⟩ := q2
          exact s6
        · exact spR_fr (f6 _ (by omega)) (spR_fr (f4 _ (by omega)) (spR_fr (f2 _ (by omega)) (hS a b ha hb hab (by omega))))
    · refine mtR_fr (f6 _ (by rw [zmc_lt hp]; omega)) (mtR_fr (f4 _ (by rw [zmc_lt hp]; omega)) ?_)
      by_cases q1 : p = i ∧ q = j
      · obtain ⟨rfl, rfl⟩ := q1
        exact m2
      · exact mtR_fr (f2 _ (by rw [zmc_lt hp]; omega)) (hM p q hp hq (by omega))
  · rw [if_neg q0]
    refine ⟨fun a b ha hb hab hk => ?_, fun p q hp hq hk => ?_⟩
    · by_cases q1 : a = i ∧ b = j
      · obtain ⟨rfl, rfl⟩ := q1
        exact s4
      · exact spR_fr (f4 _ (by omega)) (spR_fr (f2 _ (by omega)) (hS a b ha hb hab (by omega)))
    · refine mtR_fr (f4 _ (by rw [zmc_lt hp]; omega)) ?_
      by_cases q1 : p = i ∧ q = j
      · obtain ⟨rfl, rfl⟩ := q1
        exact m2
      · exact mtR_fr (f2 _ (by rw [zmc_lt hp]; omega)) (hM p q hp hq (by omega))
theorem sf2_top (hw : wbd wt) (h1 : 1 ≤ lim) (hN : N ≤ 7) {len : Nat} (hl : 1 ≤ len) (hlN : len ≤ N) : ∀ (c i : Nat) (R : rS), c + i = N + 1 - len → rIn wt fb lim N R len i → rIn wt fb lim N (sf2 fb wt lim len c i R) (len + 1) 0
  | 0, i, R, hc, hI => by
    rw [sf2]
    exact ⟨fun a b ha hb hab hk => hI.1 a b ha hb hab (by omega), fun p q hp hq hk => hI.2 p q hp hq (by omega)⟩
  | c + 1, i, R, hc, hI => by
    rw [sf2]
    exact sf2_top hw h1 hN hl hlN c (i + 1) _ (by omega) (sf1_top hw h1 hN hl (by omega) hI)
theorem sf3_top (hw : wbd wt) (h1 : 1 ≤ lim) (hN : N ≤ 7) : ∀ (c len : Nat) (R : rS), c + len = N + 1 → 1 ≤ len → rIn wt fb lim N R len 0 → rIn wt fb lim N (sf3 fb wt N lim c len R) (N + 1) 0
  | 0, len, R, hc, hl, hI => by
    rw [sf3, show N + 1 = len by omega]
    exact hI
  | c + 1, len, R, hc, hl, hI => by
    rw [sf3]
    exact sf3_top hw h1 hN c (len + 1) _ (by omega) (by omega) (sf2_top hw h1 hN hl (by omega) (N + 1 - len) 0 R (by omega) hI)
theorem sf0_top (h1 : 1 ≤ lim) (hN : N ≤ 7) : ∀ (c i : Nat) (R : rS), c + i = N + 1 → (∀ k, k < i → spR wt fb lim R k k) → ∀ k, k ≤ N → spR wt fb lim (sf0 lim c i R) k k
  | 0, i, R, hc, h, k, hk => by
    rw [sf0]; exact h k (by omega)
  | c + 1, i, R, hc, h, k, hk => by
    rw [sf0]
    refine sf0_top h1 hN c (i + 1) _ (by omega) (fun m hm => ?_) k hk
    have z0 : zr 0 := by unfold zr; omega
    by_cases q : m = i
    · subst q
      unfold spR
      rw [show rset R (8 * m + m) lim (toff lim (0, (R (8 * m + m)).2.2) 0).2 (8 * m + m) = (lim, (toff lim (0, (R (8 * m + m)).2.2) 0).2) by simp [rset]]
      refine ⟨rfl, ?_⟩
      rcases toff_top (x := 0) h1 (fun z hz => hz.elim) z0 (stop_nil (lim := lim) (Y := fun _ => False) (k := (R (8 * m + m)).2.2) (fun z hz => hz)) with ⟨_, g, t⟩ | ⟨_, _, w, _⟩
      · exact ⟨g, stop_X (fun z => by rw [xsp_self]; exact ⟨fun w => w.elim (fun y => y.elim) id, Or.inr⟩) t⟩
      · dsimp only at w; omega
    · exact spR_fr (by simp only [rset]; rw [if_neg (by omega)]) (h m (by omega))
end SMTOP
/-! smooth trees as spans -/
theorem zov_iff {f : Nat → Nat} {a : Nat} : ∀ (s y : Nat), zov f a s y = true ↔ ∃ j, 1 ≤ j ∧ j ≤ s ∧ zit f j y = a ∧ ∀ i, i < j → zit f i y ≠ 0
  | 0, y => by
    constructor
    · intro h; simp [zov] at h
    · rintro ⟨j, a, b, _⟩; omega
  | s + 1, y => by
    unfold zov
    by_cases h0 : y = 0
    · rw [if_pos h0]
      constructor
      · intro h; cases h
      · rintro ⟨j, a, b, c, d⟩
        exact absurd h0 (d 0 (by omega))
    · rw [if_neg h0]
      by_cases h2 : f y = a
      · rw [if_pos h2]
        refine ⟨fun _ => ⟨1, by omega, by omega, h2, fun i hi => ?_⟩, fun _ => rfl⟩
        rw [show i = 0 by omega]; exact h0
      · rw [if_neg h2, zov_iff s (f y)]
        constructor
        · rintro ⟨j, a, b, c, d⟩
          refine ⟨j + 1, by omega, by omega, c, fun i hi => ?_⟩
          cases i with
          | zero => exact h0
          | succ i => exact d i (by omega)
        · rintro ⟨j, a, b, c, d⟩
          cases j with
          | zero => omega
          | succ j =>
            cases j with
            | zero => exact absurd c h2
            | succ j => exact ⟨j + 1, by omega, by omega, c, fun i hi => d (i + 1) (by omega)⟩
theorem ivl_0 {N x : Nat} : ivl 0 N x ↔ 1 ≤ x ∧ x ≤ N := by unfold ivl; omega
theorem spn_all {fb : Nat → Nat} {N : Nat} (hN : N ≤ 7) {g : Nat → Nat} (h0 : ∀ x, ¬ (1 ≤ x ∧ x ≤ N) → g x = 0) : SPn (fun x h => fb (8 * x + h) = 0) 0 N g ↔ g ∈ (xall N fb).filter (tss N) := by
  have g0 : g 0 = 0 := h0 0 (by omega)
  rw [List.mem_filter, mem_xall]
  constructor
  · intro h
    have hle : ∀ x, g x ≤ N := fun x => by
      by_cases q : 1 ≤ x ∧ x ≤ N
      · rcases (h x (ivl_0.mpr q)).2.1 with w | w
        · omega
        · exact (ivl_0.mp w).2
      · rw [h0 x q]; omega
    have ft : ftr N 0 g = true := by
      rw [ftr_fexo]
      intro x a b
      obtain ⟨j, hj, _⟩ := (h x (ivl_0.mpr ⟨a, by omega⟩)).2.2.1
      exact ⟨j, Or.inl (by omega)⟩
    refine ⟨⟨g0, fun x hx => h0 x (by omega), fun x a b => ⟨hle x, ?_⟩, ft⟩, ?_⟩
    · have hx := h x (ivl_0.mpr ⟨a, b⟩)
      unfold zisf
      simp only [Bool.and_eq_true, decide_eq_true_eq]
      refine ⟨fun e => ?_, hx.1⟩
      obtain ⟨j, hj, _⟩ := hx.2.2.1
      rw [zit_fix e] at hj
      omega
    · unfold tss
      rw [zall_iff]
      intro d d1 d2
      unfold zmsd
      rw [zall_iff]
      intro y y1 y2
      rw [zov_iff]
      have hb : btw d y (g d) := by unfold btw; omega
      obtain ⟨j, hj, hp⟩ := (h d (ivl_0.mpr ⟨d1, by omega⟩)).2.2.2 y hb
      have hy : y ≤ N := by have := hle d; omega
      have jN : j ≤ N := by
        apply Classical.byContradiction
        intro w
        have := ivl_0.mp (hp N (by omega))
        rw [ftr_zit hle g0 ft y hy] at this
        omega
      refine ⟨j, ?_, jN, hj, fun i hi => by have := ivl_0.mp (hp i hi); omega⟩
      cases j with
      | zero => 
        have : y = g d := hj
        unfold btw at hb; omega
      | succ j => omega
  · rintro ⟨⟨_, b, c, e⟩, t⟩ x hx
    have hx := ivl_0.mp hx
    have hle : ∀ x, g x ≤ N := fun x => by
      by_cases q : 1 ≤ x ∧ x ≤ N
      · exact (c x q.1 q.2).1
      · rw [h0 x q]; omega
    have up : ∀ a y, y ≤ N → zov g a N y = true → rch (ivl 0 N) g y a := by
      intro a y hy h
      obtain ⟨j, j1, j2, j3, j4⟩ := (zov_iff N y).mp h
      refine ⟨j, j3, fun i hi => ivl_0.mpr ⟨by have := j4 i hi; omega, zit_le hle hy⟩⟩
    have cd := (c x hx.1 hx.2).2
    unfold zisf at cd
    simp only [Bool.and_eq_true, decide_eq_true_eq] at cd
    refine ⟨cd.2, ?_, up 0 x hx.2 ((zov_zit g0 N x (by omega)).mpr (ftr_zit hle g0 e x hx.2)), fun y hy => ?_⟩
    · by_cases q : g x = 0
      · exact Or.inl q
      · exact Or.inr (ivl_0.mpr ⟨by omega, hle x⟩)
    · have gx := hle x
      unfold btw at hy
      refine up _ y (by omega) ?_
      unfold tss at t
      have k := (zall_iff.mp t) x hx.1 (by omega)
      unfold zmsd at k
      exact (zall_iff.mp k) y (by omega) (by omega)
theorem zkI_all {wt : Nat → Int32} {N : Nat} (hN : N ≤ 7) (f : Nat → Nat) : zkI wt 0 N f = zkt wt N f := by
  unfold zkI zkt
  rw [← zkey_eq]
  have e := zsm_add2 (f := fun d => if ivb 0 N d = true then zka (wt (8 * d + f d)).toInt (f d) d else 0) N (7 - N) 1
  rw [show N + (7 - N) = 7 by omega] at e
  rw [e]
  have a : zsm (fun d => if ivb 0 N d = true then zka (wt (8 * d + f d)).toInt (f d) d else 0) N 1 = zsm (fun x => zka (wt (8 * x + f x)).toInt (f x) x) N 1 := zsm_congr N 1 (fun x h1 h2 => by
    rw [if_pos (ivb_iff.mpr (ivl_0.mpr ⟨h1, by omega⟩))])
  have b : zsm (fun d => if ivb 0 N d = true then zka (wt (8 * d + f d)).toInt (f d) d else 0) (7 - N) (1 + N) = zsm (fun _ => 0) (7 - N) (1 + N) := zsm_congr _ _ (fun x h1 h2 => by
    rw [if_neg (fun w => by have := ivl_0.mp (ivb_iff.mp w); omega)])
  have c : ∀ c d, zsm (fun _ => 0) c d = 0 := by
    intro c
    induction c with
    | zero => intro d; rfl
    | succ c ih => intro d; rw [zsm, ih]; rfl
  rw [a, b, c]
  omega
theorem xsp_all {wt : Nat → Int32} {fb : Nat → Nat} {N : Nat} (hN : N ≤ 7) (z : Int) : xsp wt fb 0 N z ↔ ∃ f, f ∈ (xall N fb).filter (tss N) ∧ z = zkt wt N f := by
  constructor
  · rintro ⟨f, hs, rfl⟩
    have k : ∀ x, ivl 0 N x → f x = (fun x => if 1 ≤ x ∧ x ≤ N then f x else 0) x := fun x hx => by
      show f x = if 1 ≤ x ∧ x ≤ N then f x else 0
      rw [if_pos (ivl_0.mp hx)]
    refine ⟨_, (spn_all hN (fun x hx => ?_)).mp (SPn_cgr k hs), ?_⟩
    · show (if 1 ≤ x ∧ x ≤ N then f x else 0) = 0
      rw [if_neg hx]
    · rw [zkI_cgr k, zkI_all hN]
  · rintro ⟨f, hf, rfl⟩
    obtain ⟨a, b, _⟩ := mem_xall.mp (List.mem_filter.mp hf).1
    refine ⟨f, (spn_all hN (fun x hx => ?_)).mpr hf, (zkI_all hN f).symm⟩
    by_cases q : x = 0
    · rw [q, a]
    · exact b x (by omega)
theorem x_topS : xTopS := by
  intro wt fb N lim R hw hN1 hN hf1 h1 h2 hR
  have k0 := sf0_top (wt := wt) (fb := fb) (lim := lim) h1 hN (N + 1) 0 R (by omega) (fun k hk => absurd hk (Nat.not_lt_zero _))
  have kI : rIn wt fb lim N (sf0 lim (N + 1) 0 R) 1 0 := ⟨fun a b ha hb hab hk => by
    have : a = b := by omega
    subst this
    exact k0 a ha, fun p q hp hq hk => by omega⟩
  have k := (sf3_top hw h1 hN N 1 _ (by omega) (by omega) kI).1 0 N (by omega) (by omega) (by omega) (by omega)
  obtain ⟨a, g, t⟩ := k
  rw [show 8 * 0 + N = N by omega] at a t
  exact ⟨a, g, stop_X (fun z => xsp_all hN z) t⟩
