/-! keys of smooth spans and of meetings -/
def ivb (a b x : Nat) : Bool := (decide (a < x) && decide (x ≤ b)) || (decide (b ≤ x) && decide (x < a))
theorem ivb_iff {a b x : Nat} : ivb a b x = true ↔ ivl a b x := by
  unfold ivb ivl
  simp only [Bool.or_eq_true, Bool.and_eq_true, decide_eq_true_eq]
def zkI (wt : Nat → Int32) (a b : Nat) (f : Nat → Nat) : Int := zsm (fun x => if ivb a b x = true then zka (wt (8 * x + f x)).toInt (f x) x else 0) 7 1
def xsp (wt : Nat → Int32) (fb : Nat → Nat) (a b : Nat) (z : Int) : Prop := ∃ f, SPn (fun x h => fb (8 * x + h) = 0) a b f ∧ z = zkI wt a b f
def xmt (wt : Nat → Int32) (fb : Nat → Nat) (i j : Nat) (z : Int) : Prop := ∃ l, i ≤ l ∧ l < j ∧ ∃ y1 y2, xsp wt fb i l y1 ∧ xsp wt fb j (l + 1) y2 ∧ z = y1 + y2
theorem zit_cgr {f g : Nat → Nat} {P : Nat → Prop} (h : ∀ x, P x → f x = g x) : ∀ (j x : Nat), (∀ i, i < j → P (zit f i x)) → ∀ i, i ≤ j → zit f i x = zit g i x := by
  intro j x hp i
  induction i with
  | zero => intro _; rfl
  | succ i ih =>
    intro hi
    rw [zit_s, zit_s, ← ih (by omega)]
    exact h _ (hp i (by omega))
theorem rch_cgr {f g : Nat → Nat} {P : Nat → Prop} (h : ∀ x, P x → f x = g x) {y z : Nat} (hr : rch P f y z) : rch P g y z := by
  obtain ⟨j, a, b⟩ := hr
  have k := zit_cgr h j y b
  exact ⟨j, by rw [← k j (Nat.le_refl _)]; exact a, fun i hi => by rw [← k i (by omega)]; exact b i hi⟩
theorem SPn_cgr {al : Nat → Nat → Prop} {a b : Nat} {f g : Nat → Nat} (h : ∀ x, ivl a b x → f x = g x) (hs : SPn al a b f) : SPn al a b g := by
  intro x hx
  obtain ⟨h1, h2, h3, h4⟩ := hs x hx
  rw [← h x hx]
  exact ⟨h1, h2, rch_cgr h h3, fun y hy => rch_cgr h (h4 y hy)⟩
theorem zkI_cgr {wt : Nat → Int32} {a b : Nat} {f g : Nat → Nat} (h : ∀ x, ivl a b x → f x = g x) : zkI wt a b f = zkI wt a b g := by
  unfold zkI
  refine zsm_congr 7 1 (fun x _ _ => ?_)
  by_cases q : ivb a b x = true
  · rw [if_pos q, if_pos q, h x (ivb_iff.mp q)]
  · rw [if_neg q, if_neg q]
theorem SPn_self {al : Nat → Nat → Prop} {a : Nat} {f : Nat → Nat} : SPn al a a f := fun x hx => by unfold ivl at hx; omega
theorem xsp_self {wt : Nat → Int32} {fb : Nat → Nat} {a : Nat} (z : Int) : xsp wt fb a a z ↔ z = 0 := by
  have k : ∀ f, zkI wt a a f = 0 := fun f => by
    have : zkI wt a a f = zsm (fun _ => 0) 7 1 := zsm_congr 7 1 (fun x _ _ => by
      rw [if_neg (fun w => by have := ivb_iff.mp w; unfold ivl at this; omega)])
    rw [this]
    simp [zsm]
  constructor
  · rintro ⟨f, _, rfl⟩; exact k f
  · rintro rfl; exact ⟨fun _ => 0, SPn_self, (k _).symm⟩
/-- a sum over disjoint words -/
theorem zkI_split {wt : Nat → Int32} {a b d i l j m : Nat} {f : Nat → Nat} (hd1 : 1 ≤ d) (hd7 : d ≤ 7) (hda : f d = a) (hdis : ∀ x, 1 ≤ x → x ≤ 7 → (ivl a b x ↔ (ivl i l x ∨ ivl j m x ∨ ivl d b x ∨ x = d)) ∧ ¬ (ivl i l x ∧ ivl j m x) ∧ ¬ (ivl i l x ∧ ivl d b x) ∧ ¬ (ivl j m x ∧ ivl d b x) ∧ (x = d → ¬ ivl i l x ∧ ¬ ivl j m x ∧ ¬ ivl d b x)) : zkI wt a b f = zkI wt i l f + zkI wt j m f + zkI wt d b f + zka (wt (8 * d + a)).toInt a d := by
  have t : zsm (fun x => if x = d then zka (wt (8 * x + f x)).toInt (f x) x else 0) 7 1 = zka (wt (8 * d + a)).toInt a d := by
    have := zsm_one (f := fun x => if x = d then zka (wt (8 * x + f x)).toInt (f x) x else 0) (g := fun _ => 0) (t := zka (wt (8 * d + a)).toInt a d) (k := d) 7 1 hd1 (by omega) (fun x hx => by rw [if_neg hx]) (by rw [if_pos rfl, hda]; omega)
    rw [this]
    simp [zsm]
  unfold zkI
  rw [← t, ← zsm_add, ← zsm_add, ← zsm_add]
  refine zsm_congr 7 1 (fun x a1 a2 => ?_)
  obtain ⟨h1, h2, h3, h4, h5⟩ := hdis x a1 (by omega)
  by_cases q1 : ivl i l x
  · have e : ¬ x = d := fun w => (h5 w).1 q1
    have n2 : ¬ ivl j m x := fun w => h2 ⟨q1, w⟩
    have n3 : ¬ ivl d b x := fun w => h3 ⟨q1, w⟩
    have y : ivl a b x := h1.mpr (Or.inl q1)
    simp [ivb_iff, q1, n2, n3, y, e]
  · by_cases q2 : ivl j m x
    · have e : ¬ x = d := fun w => (h5 w).2.1 q2
      have n3 : ¬ ivl d b x := fun w => h4 ⟨q2, w⟩
      have y : ivl a b x := h1.mpr (Or.inr (Or.inl q2))
      simp [ivb_iff, q1, q2, n3, y, e]
    · by_cases q3 : ivl d b x
      · have e : ¬ x = d := fun w => (h5 w).2.2 q3
        have y : ivl a b x := h1.mpr (Or.inr (Or.inr (Or.inl q3)))
        simp [ivb_iff, q1, q2, q3, y, e]
      · by_cases e : x = d
        · have y : ivl a b x := h1.mpr (Or.inr (Or.inr (Or.inr e)))
          rw [e] at q1 q2 q3 y ⊢
          simp [ivb_iff, q1, q2, q3, y]
        · have y : ¬ ivl a b x := fun w => by
            rcases h1.mp w with w | w | w | w
            · exact q1 w
            · exact q2 w
            · exact q3 w
            · exact e w
          simp [ivb_iff, q1, q2, q3, y, e]
theorem xsp_step {wt : Nat → Int32} {fb : Nat → Nat} {a b : Nat} (hab : a ≠ b) (ha : a ≤ 7) (hb : b ≤ 7) (h0 : a < b ∨ 1 ≤ b) (z : Int) : xsp wt fb a b z ↔ ∃ t, 1 ≤ t ∧ t ≤ max a b - min a b ∧ fb (8 * zfar a b t + a) = 0 ∧ ∃ y1 y2, xmt wt fb (min a (zfar a b t)) (max a (zfar a b t)) y1 ∧ xsp wt fb (zfar a b t) b y2 ∧ z = y1 + y2 + zka (wt (8 * zfar a b t + a)).toInt a (zfar a b t) := by
  rcases Nat.lt_or_gt_of_ne hab with q | q
  · constructor
    · rintro ⟨f, hs, rfl⟩
      obtain ⟨d, l, m, h1, h2, h3, h4, hm, da, ald, sA, sB, sD⟩ := sp_apart_f q hs
      have zd : zfar a b (d - a) = d := by unfold zfar; rw [if_pos q]; omega
      refine ⟨d - a, by omega, by omega, ?_⟩
      rw [zd]
      refine ⟨ald, zkI wt a l f + zkI wt d m f, zkI wt d b f, ⟨l, by omega, by omega, ?_⟩, ⟨f, sD, rfl⟩, ?_⟩
      · rw [show min a d = a by omega, show max a d = d by omega, ← hm]
        exact ⟨_, _, ⟨f, sA, rfl⟩, ⟨f, sB, rfl⟩, rfl⟩
      · exact zkI_split (by omega) (by omega) da (fun x _ _ => by unfold ivl; omega)
    · rintro ⟨t, t1, t2, hfb, y1, y2, ⟨l, l1, l2, u1, u2, ⟨f1, s1, e1⟩, ⟨f2, s2, e2⟩, ey⟩, ⟨f3, s3, e3⟩, ez⟩
      have zd : zfar a b t = a + t := by unfold zfar; rw [if_pos q]
      generalize zfar a b t = d at *
      rw [show min a d = a by omega] at l1 s1 e1
      rw [show max a d = d by omega] at l2 s2 e2
      let f : Nat → Nat := fun x => if ivb a l x = true then f1 x else if ivb d (l + 1) x = true then f2 x else if ivb d b x = true then f3 x else if x = d then a else 0
      have g1 : ∀ x, ivl a l x → f1 x = f x := fun x hx => by show _ = if _ then _ else _; rw [if_pos (ivb_iff.mpr hx)]
      have g2 : ∀ x, ivl d (l + 1) x → f2 x = f x := fun x hx => by
        show _ = if _ then _ else _
        rw [if_neg (fun w => by have := ivb_iff.mp w; unfold ivl at this hx; omega), if_pos (ivb_iff.mpr hx)]
      have g3 : ∀ x, ivl d b x → f3 x = f x := fun x hx => by
        show _ = if _ then _ else _
        rw [if_neg (fun w => by have := ivb_iff.mp w; unfold ivl at this hx; omega), if_neg (fun w => by have := ivb_iff.mp w; unfold ivl at this hx; omega), if_pos (ivb_iff.mpr hx)]
      have fd : f d = a := by
        show (if _ then _ else _) = _
        rw [if_neg (fun w => by have := ivb_iff.mp w; unfold ivl at this; omega), if_neg (fun w => by have := ivb_iff.mp w; unfold ivl at this; omega), if_neg (fun w => by have := ivb_iff.mp w; unfold ivl at this; omega), if_pos rfl]
      refine ⟨f, sp_put_f (d := d) (l := l) (m := l + 1) (by omega) (by omega) l1 l2 rfl fd hfb (SPn_cgr g1 s1) (SPn_cgr g2 s2) (SPn_cgr g3 s3), ?_⟩
      rw [zkI_split (wt := wt) (a := a) (b := b) (d := d) (i := a) (l := l) (j := d) (m := l + 1) (by omega) (by omega) fd (fun x _ _ => by unfold ivl; omega), ez, ey, e1, e2, e3, zkI_cgr g1, zkI_cgr g2, zkI_cgr g3]
  · have b1 : 1 ≤ b := by omega
    constructor
    · rintro ⟨f, hs, rfl⟩
      obtain ⟨d, l, m, h1, h2, h3, h4, hm, da, ald, sA, sB, sD⟩ := sp_apart_b q hs
      have zd : zfar a b (a - d) = d := by unfold zfar; rw [if_neg (by omega)]; omega
      refine ⟨a - d, by omega, by omega, ?_⟩
      rw [zd]
      refine ⟨ald, zkI wt d m f + zkI wt a l f, zkI wt d b f, ⟨m, by omega, by omega, ?_⟩, ⟨f, sD, rfl⟩, ?_⟩
      · rw [show min a d = d by omega, show max a d = a by omega, show m + 1 = l by omega]
        exact ⟨_, _, ⟨f, sB, rfl⟩, ⟨f, sA, rfl⟩, rfl⟩
      · exact zkI_split (by omega) (by omega) da (fun x _ _ => by unfold ivl; omega)
    · rintro ⟨t, t1, t2, hfb, y1, y2, ⟨l, l1, l2, u1, u2, ⟨f1, s1, e1⟩, ⟨f2, s2, e2⟩, ey⟩, ⟨f3, s3, e3⟩, ez⟩
      have zd : zfar a b t = a - t := by unfold zfar; rw [if_neg (by omega)]
      generalize zfar a b t = d at *
      rw [show min a d = d by omega] at l1 s1 e1
      rw [show max a d = a by omega] at l2 s2 e2
      let f : Nat → Nat := fun x => if ivb d l x = true then f1 x else if ivb a (l + 1) x = true then f2 x else if ivb d b x = true then f3 x else if x = d then a else 0
      have g1 : ∀ x, ivl d l x → f1 x = f x := fun x hx => by show _ = if _ then _ else _; rw [if_pos (ivb_iff.mpr hx)]
      have g2 : ∀ x, ivl a (l + 1) x → f2 x = f x := fun x hx => by
        show _ = if _ then _ else _
        rw [if_neg (fun w => by have := ivb_iff.mp w; unfold ivl at this hx; omega), if_pos (ivb_iff.mpr hx)]
      have g3 : ∀ x, ivl d b x → f3 x = f x := fun x hx => by
        show _ = if _ then _ else _
        rw [if_neg (fun w => by have := ivb_iff.mp w; unfold ivl at this hx; omega), if_neg (fun w => by have := ivb_iff.mp w; unfold ivl at this hx; omega), if_pos (ivb_iff.mpr hx)]
      have fd : f d = a := by
        show (if _ then _ else _) = _
        rw [if_neg (fun w => by have := ivb_iff.mp w; unfold ivl at this; omega), if_neg (fun w => by have := ivb_iff.mp w; unfold ivl at this; omega), if_neg (fun w => by have := ivb_iff.mp w; unfold ivl at this; omega), if_pos rfl]
      refine ⟨f, sp_put_b (d := d) (l := l + 1) (m := l) (by omega) (by omega) (by omega) (by omega) (by omega) fd hfb (SPn_cgr g2 s2) (SPn_cgr g1 s1) (SPn_cgr g3 s3), ?_⟩
      rw [zkI_split (wt := wt) (a := a) (b := b) (d := d) (i := d) (l := l) (j := a) (m := l + 1) (by omega) (by omega) fd (fun x _ _ => by unfold ivl; omega), ez, ey, e1, e2, e3, zkI_cgr g1, zkI_cgr g2, zkI_cgr g3]
