/-! how many: lists of heads, each once -/
def cnn (X : (Nat → Nat) → Prop) (n : Nat) : Prop := ∃ l : List (Nat → Nat), l.Nodup ∧ (∀ f, f ∈ l ↔ X f) ∧ l.length = n
theorem cnn_uniq {X : (Nat → Nat) → Prop} {n m : Nat} (h1 : cnn X n) (h2 : cnn X m) : n = m := by
  obtain ⟨l1, a1, b1, c1⟩ := h1
  obtain ⟨l2, a2, b2, c2⟩ := h2
  have p := (List.perm_ext_iff_of_nodup a1 a2).mpr (fun f => by rw [b1, b2])
  have := p.length_eq
  omega
theorem cnn_X {X Y : (Nat → Nat) → Prop} {n : Nat} (h : ∀ f, X f ↔ Y f) (k : cnn X n) : cnn Y n := by
  obtain ⟨l, a, b, c⟩ := k
  exact ⟨l, a, fun f => by rw [b, h], c⟩
theorem cnn_0 {X : (Nat → Nat) → Prop} (h : ∀ f, ¬ X f) : cnn X 0 := ⟨[], List.nodup_nil, fun f => ⟨fun w => absurd w List.not_mem_nil, fun w => absurd w (h f)⟩, rfl⟩
theorem cnn_or {X Y : (Nat → Nat) → Prop} {n m : Nat} (h1 : cnn X n) (h2 : cnn Y m) (h : ∀ f, X f → ¬ Y f) : cnn (fun f => X f ∨ Y f) (n + m) := by
  obtain ⟨l1, a1, b1, c1⟩ := h1
  obtain ⟨l2, a2, b2, c2⟩ := h2
  refine ⟨l1 ++ l2, List.nodup_append.mpr ⟨a1, a2, fun a ha b hb e => ?_⟩, fun f => by rw [List.mem_append, b1, b2], by rw [List.length_append, c1, c2]⟩
  subst e
  exact h a ((b1 a).mp ha) ((b2 a).mp hb)
theorem nodup_fm {α β : Type} {g : α → List β} : ∀ (l : List α), l.Nodup → (∀ a, a ∈ l → (g a).Nodup) → (∀ a b, a ∈ l → b ∈ l → a ≠ b → ∀ x, x ∈ g a → ¬ x ∈ g b) → (l.flatMap g).Nodup
  | [], _, _, _ => by rw [List.flatMap_nil]; exact List.nodup_nil
  | a :: l, h, h1, h2 => by
    rw [List.flatMap_cons, List.nodup_append]
    have hc := List.nodup_cons.mp h
    refine ⟨h1 a List.mem_cons_self, nodup_fm l hc.2 (fun b hb => h1 b (List.mem_cons_of_mem _ hb)) (fun b c hb hc' => h2 b c (List.mem_cons_of_mem _ hb) (List.mem_cons_of_mem _ hc')), fun x hx y hy e => ?_⟩
    subst e
    obtain ⟨b, hb, hy⟩ := List.mem_flatMap.mp hy
    exact h2 a b List.mem_cons_self (List.mem_cons_of_mem _ hb) (fun e => hc.1 (by rw [e]; exact hb)) x hx hy
theorem nodup_mp {α β : Type} {g : α → β} : ∀ (l : List α), l.Nodup → (∀ a b, a ∈ l → b ∈ l → g a = g b → a = b) → (l.map g).Nodup
  | [], _, _ => List.nodup_nil
  | a :: l, h, h1 => by
    rw [List.map_cons, List.nodup_cons]
    have hc := List.nodup_cons.mp h
    refine ⟨fun w => ?_, nodup_mp l hc.2 (fun b c hb hc' => h1 b c (List.mem_cons_of_mem _ hb) (List.mem_cons_of_mem _ hc'))⟩
    obtain ⟨b, hb, e⟩ := List.mem_map.mp w
    have := h1 b a (List.mem_cons_of_mem _ hb) List.mem_cons_self e
    exact hc.1 (by rw [← this]; exact hb)
theorem len_fmp {α β γ : Type} {op : α → β → γ} {l2 : List β} : ∀ (l : List α), (l.flatMap (fun x => l2.map (op x))).length = l.length * l2.length
  | [] => by simp
  | a :: l => by
    rw [List.flatMap_cons, List.length_append, len_fmp l, List.length_map, List.length_cons, Nat.succ_mul]
    omega
theorem cnn_mul {X Y : (Nat → Nat) → Prop} {n m : Nat} {op : (Nat → Nat) → (Nat → Nat) → Nat → Nat} (h1 : cnn X n) (h2 : cnn Y m) (h : ∀ x x' y y', X x → X x' → Y y → Y y' → op x y = op x' y' → x = x' ∧ y = y') : cnn (fun f => ∃ x y, X x ∧ Y y ∧ f = op x y) (n * m) := by
  obtain ⟨l1, a1, b1, c1⟩ := h1
  obtain ⟨l2, a2, b2, c2⟩ := h2
  refine ⟨l1.flatMap (fun x => l2.map (op x)), nodup_fm l1 a1 (fun a ha => nodup_mp l2 a2 (fun b c hb hc e => (h a a b c ((b1 a).mp ha) ((b1 a).mp ha) ((b2 b).mp hb) ((b2 c).mp hc) e).2)) (fun a b ha hb ne x hx hy => ?_), fun f => ?_, by rw [len_fmp, c1, c2]⟩
  · obtain ⟨y, hy1, e1⟩ := List.mem_map.mp hx
    obtain ⟨y', hy2, e2⟩ := List.mem_map.mp hy
    exact ne (h a b y y' ((b1 a).mp ha) ((b1 b).mp hb) ((b2 y).mp hy1) ((b2 y').mp hy2) (by rw [e1, e2])).1
  · rw [List.mem_flatMap]
    constructor
    · rintro ⟨x, hx, w⟩
      obtain ⟨y, hy, e⟩ := List.mem_map.mp w
      exact ⟨x, y, (b1 x).mp hx, (b2 y).mp hy, e.symm⟩
    · rintro ⟨x, y, hx, hy, e⟩
      exact ⟨x, (b1 x).mpr hx, List.mem_map.mpr ⟨y, (b2 y).mpr hy, e.symm⟩⟩
/-! spans and meetings as heads that are 0 elsewhere -/
def rs (a b : Nat) (f : Nat → Nat) : Nat → Nat := fun x => if ivb a b x = true then f x else 0
theorem rs_in {a b x : Nat} {f : Nat → Nat} (h : ivl a b x) : rs a b f x = f x := by unfold rs; rw [if_pos (ivb_iff.mpr h)]
theorem rs_out {a b x : Nat} {f : Nat → Nat} (h : ¬ ivl a b x) : rs a b f x = 0 := by unfold rs; rw [if_neg (fun w => h (ivb_iff.mp w))]
def spF (fb : Nat → Nat) (a b : Nat) (f : Nat → Nat) : Prop := SPn (fun x h => fb (8 * x + h) = 0) a b f ∧ ∀ x, ¬ ivl a b x → f x = 0
def fad (x y : Nat → Nat) : Nat → Nat := fun p => x p + y p
def fop (a d : Nat) (x y : Nat → Nat) : Nat → Nat := fun p => x p + y p + if p = d then a else 0
def mtF (fb : Nat → Nat) (i j : Nat) (f : Nat → Nat) : Prop := ∃ l, i ≤ l ∧ l < j ∧ ∃ x y, spF fb i l x ∧ spF fb j (l + 1) y ∧ f = fad x y
theorem spF_rs {fb : Nat → Nat} {a b : Nat} {f : Nat → Nat} (h : SPn (fun x h => fb (8 * x + h) = 0) a b f) : spF fb a b (rs a b f) := ⟨SPn_cgr (fun _ hx => (rs_in hx).symm) h, fun _ hx => rs_out hx⟩
theorem spF_self {fb : Nat → Nat} {a : Nat} (f : Nat → Nat) : spF fb a a f ↔ f = fun _ => 0 := by
  constructor
  · rintro ⟨_, h⟩
    funext x
    exact h x (by unfold ivl; omega)
  · rintro rfl
    exact ⟨SPn_self, fun _ _ => rfl⟩
/-- the words of a meeting, told by one f -/
theorem mtF_parts {fb : Nat → Nat} {i j : Nat} {f x : Nat → Nat} (h : mtF fb i j x) (he : ∀ p, i < p → p < j → f p = x p) : ∃ l, i ≤ l ∧ l < j ∧ SPn (fun x h => fb (8 * x + h) = 0) i l f ∧ SPn (fun x h => fb (8 * x + h) = 0) j (l + 1) f := by
  obtain ⟨l, l1, l2, y, z, hy, hz, rfl⟩ := h
  refine ⟨l, l1, l2, SPn_cgr (fun p hp => ?_) hy.1, SPn_cgr (fun p hp => ?_) hz.1⟩
  · unfold ivl at hp
    rw [he p (by omega) (by omega), fad, hz.2 p (by unfold ivl; omega), Nat.add_zero]
  · unfold ivl at hp
    rw [he p (by omega) (by omega), fad, hy.2 p (by unfold ivl; omega), Nat.zero_add]
theorem mtF_out {fb : Nat → Nat} {i j : Nat} {x : Nat → Nat} (h : mtF fb i j x) {p : Nat} (hp : ¬ (i < p ∧ p < j)) : x p = 0 := by
  obtain ⟨l, l1, l2, y, z, hy, hz, rfl⟩ := h
  rw [fad, hy.2 p (by unfold ivl; omega), hz.2 p (by unfold ivl; omega)]
theorem spF_fwd {fb : Nat → Nat} {a b d : Nat} {x y : Nat → Nat} (h1 : a < d) (h2 : d ≤ b) (hx : mtF fb a d x) (hy : spF fb d b y) : ∃ l, a ≤ l ∧ l < d ∧ fop a d x y d = a ∧ SPn (fun x h => fb (8 * x + h) = 0) a l (fop a d x y) ∧ SPn (fun x h => fb (8 * x + h) = 0) d (l + 1) (fop a d x y) ∧ SPn (fun x h => fb (8 * x + h) = 0) d b (fop a d x y) ∧ ∀ p, ¬ ivl a b p → fop a d x y p = 0 := by
  obtain ⟨l, l1, l2, s1, s2⟩ := mtF_parts (f := fop a d x y) hx (fun p p1 p2 => by
    rw [fop, hy.2 p (by unfold ivl; omega), if_neg (by omega), Nat.add_zero])
  refine ⟨l, l1, l2, ?_, s1, s2, SPn_cgr (fun p hp => ?_) hy.1, fun p hp => ?_⟩
  · rw [fop, mtF_out hx (by omega), hy.2 d (by unfold ivl; omega), if_pos rfl]
    omega
  · unfold ivl at hp
    rw [fop, mtF_out hx (by omega), if_neg (by omega)]
    omega
  · unfold ivl at hp
    rw [fop, mtF_out hx (by omega), hy.2 p (by unfold ivl; omega), if_neg (by omega)]
theorem spF_bwd {fb : Nat → Nat} {a b d : Nat} {x y : Nat → Nat} (h1 : d < a) (h2 : b ≤ d) (hx : mtF fb d a x) (hy : spF fb d b y) : ∃ l, d ≤ l ∧ l < a ∧ fop a d x y d = a ∧ SPn (fun x h => fb (8 * x + h) = 0) d l (fop a d x y) ∧ SPn (fun x h => fb (8 * x + h) = 0) a (l + 1) (fop a d x y) ∧ SPn (fun x h => fb (8 * x + h) = 0) d b (fop a d x y) ∧ ∀ p, ¬ ivl a b p → fop a d x y p = 0 := by
  obtain ⟨l, l1, l2, s1, s2⟩ := mtF_parts (f := fop a d x y) hx (fun p p1 p2 => by
    rw [fop, hy.2 p (by unfold ivl; omega), if_neg (by omega), Nat.add_zero])
  refine ⟨l, l1, l2, ?_, s1, s2, SPn_cgr (fun p hp => ?_) hy.1, fun p hp => ?_⟩
  · rw [fop, mtF_out hx (by omega), hy.2 d (by unfold ivl; omega), if_pos rfl]
    omega
  · unfold ivl at hp
    rw [fop, mtF_out hx (by omega), if_neg (by omega)]
    omega
  · unfold ivl at hp
    rw [fop, mtF_out hx (by omega), hy.2 p (by unfold ivl; omega), if_neg (by omega)]
theorem spF_step {fb : Nat → Nat} {a b : Nat} (hab : a ≠ b) (f : Nat → Nat) : spF fb a b f ↔ ∃ t, 1 ≤ t ∧ t ≤ max a b - min a b ∧ fb (8 * zfar a b t + a) = 0 ∧ ∃ x y, mtF fb (min a (zfar a b t)) (max a (zfar a b t)) x ∧ spF fb (zfar a b t) b y ∧ f = fop a (zfar a b t) x y := by
  rcases Nat.lt_or_gt_of_ne hab with q | q
  · constructor
    · rintro ⟨hs, h0⟩
      obtain ⟨d, l, m, h1, h2, h3, h4, hm, da, ald, sA, sB, sD⟩ := sp_apart_f q hs
      have zd : zfar a b (d - a) = d := by unfold zfar; rw [if_pos q]; omega
      refine ⟨d - a, by omega, by omega, ?_⟩
      rw [zd, show min a d = a by omega, show max a d = d by omega]
      refine ⟨ald, fad (rs a l f) (rs d m f), rs d b f, ⟨l, h3, h4, _, _, spF_rs sA, by rw [← hm]; exact spF_rs sB, rfl⟩, spF_rs sD, ?_⟩
      funext p
      show f p = rs a l f p + rs d m f p + rs d b f p + if p = d then a else 0
      by_cases q1 : ivl a l p
      · rw [rs_in q1, rs_out (by unfold ivl at *; omega), rs_out (by unfold ivl at *; omega), if_neg (by unfold ivl at *; omega)]
        omega
      · by_cases q2 : ivl d m p
        · rw [rs_in q2, rs_out q1, rs_out (by unfold ivl at *; omega), if_neg (by unfold ivl at *; omega)]
          omega
        · by_cases q3 : ivl d b p
          · rw [rs_in q3, rs_out q1, rs_out q2, if_neg (by unfold ivl at *; omega)]
            omega
          · rw [rs_out q1, rs_out q2, rs_out q3]
            by_cases q4 : p = d
            · rw [if_pos q4, q4, da]; omega
            · rw [if_neg q4, h0 p (by unfold ivl at *; omega)]
    · rintro ⟨t, t1, t2, hfb, x, y, hx, hy, rfl⟩
      have zd : zfar a b t = a + t := by unfold zfar; rw [if_pos q]
      generalize zfar a b t = d at *
      rw [show min a d = a by omega, show max a d = d by omega] at hx
      obtain ⟨l, l1, l2, fd, s1, s2, s3, o⟩ := spF_fwd (b := b) (by omega) (by omega) hx hy
      exact ⟨sp_put_f (d := d) (l := l) (m := l + 1) (by omega) (by omega) l1 l2 rfl fd hfb s1 s2 s3, o⟩
  · constructor
    · rintro ⟨hs, h0⟩
      obtain ⟨d, l, m, h1, h2, h3, h4, hm, da, ald, sA, sB, sD⟩ := sp_apart_b q hs
      have zd : zfar a b (a - d) = d := by unfold zfar; rw [if_neg (by omega)]; omega
      refine ⟨a - d, by omega, by omega, ?_⟩
      rw [zd, show min a d = d by omega, show max a d = a by omega]
      refine ⟨ald, fad (rs d m f) (rs a l f), rs d b f, ⟨m, by omega, by omega, _, _, spF_rs sB, by rw [show m + 1 = l by omega]; exact spF_rs sA, rfl⟩, spF_rs sD, ?_⟩
      funext p
      show f p = rs d m f p + rs a l f p + rs d b f p + if p = d then a else 0
      by_cases q1 : ivl a l p
      · rw [rs_in q1, rs_out (by unfold ivl at *; omega), rs_out (by unfold ivl at *; omega), if_neg (by unfold ivl at *; omega)]
        omega
      · by_cases q2 : ivl d m p
        · rw [rs_in q2, rs_out q1, rs_out (by unfold ivl at *; omega), if_neg (by unfold ivl at *; omega)]
          omega
        · by_cases q3 : ivl d b p
          · rw [rs_in q3, rs_out q1, rs_out q2, if_neg (by unfold ivl at *; omega)]
            omega
          · rw [rs_out q1, rs_out q2, rs_out q3]
            by_cases q4 : p = d
            · rw [if_pos q4, q4, da]; omega
            · rw [if_neg q4, h0 p (by unfold ivl at *; omega)]
    · rintro ⟨t, t1, t2, hfb, x, y, hx, hy, rfl⟩
      have zd : zfar a b t = a - t := by unfold zfar; rw [if_neg (by omega)]
      generalize zfar a b t = d at *
      rw [show min a d = d by omega, show max a d = a by omega] at hx
      obtain ⟨l, l1, l2, fd, s1, s2, s3, o⟩ := spF_bwd (b := b) (by omega) (by omega) hx hy
      exact ⟨sp_put_b (d := d) (l := l + 1) (m := l) (by omega) (by omega) (by omega) (by omega) (by omega) fd hfb s2 s1 s3, o⟩
/-- a span hangs on one last word only -/
theorem spF_one {fb : Nat → Nat} {a b t t' : Nat} (hab : a ≠ b) {x y x' y' : Nat → Nat} (t1 : 1 ≤ t) (t2 : t ≤ max a b - min a b) (t1' : 1 ≤ t') (t2' : t' ≤ max a b - min a b) (hx : mtF fb (min a (zfar a b t)) (max a (zfar a b t)) x) (hy : spF fb (zfar a b t) b y) (hx' : mtF fb (min a (zfar a b t')) (max a (zfar a b t')) x') (hy' : spF fb (zfar a b t') b y') (e : fop a (zfar a b t) x y = fop a (zfar a b t') x' y') : t = t' := by
  rcases Nat.lt_or_gt_of_ne hab with q | q
  · have zd : zfar a b t = a + t := by unfold zfar; rw [if_pos q]
    have zd' : zfar a b t' = a + t' := by unfold zfar; rw [if_pos q]
    rw [zd] at hx hy e
    rw [zd'] at hx' hy' e
    rw [show min a (a + t) = a by omega, show max a (a + t) = a + t by omega] at hx
    rw [show min a (a + t') = a by omega, show max a (a + t') = a + t' by omega] at hx'
    obtain ⟨l, l1, l2, fd, s1, s2, s3, o⟩ := spF_fwd (b := b) (by omega) (by omega) hx hy
    obtain ⟨l', l1', l2', fd', s1', s2', s3', o'⟩ := spF_fwd (b := b) (by omega) (by omega) hx' hy'
    rw [← e] at fd' s1' s2' s3'
    have := (sp_uniq_f (b := b) (by omega) (by omega) l1 l2 rfl fd s1 s2 s3 (by omega) (by omega) l1' l2' rfl fd' s1' s2' s3').1
    omega
  · have zd : zfar a b t = a - t := by unfold zfar; rw [if_neg (by omega)]
    have zd' : zfar a b t' = a - t' := by unfold zfar; rw [if_neg (by omega)]
    rw [zd] at hx hy e
    rw [zd'] at hx' hy' e
    rw [show min a (a - t) = a - t by omega, show max a (a - t) = a by omega] at hx
    rw [show min a (a - t') = a - t' by omega, show max a (a - t') = a by omega] at hx'
    obtain ⟨l, l1, l2, fd, s1, s2, s3, o⟩ := spF_bwd (b := b) (by omega) (by omega) hx hy
    obtain ⟨l', l1', l2', fd', s1', s2', s3', o'⟩ := spF_bwd (b := b) (by omega) (by omega) hx' hy'
    rw [← e] at fd' s1' s2' s3'
    have := (sp_uniq_b (b := b) (d := a - t) (l := l + 1) (m := l) (d' := a - t') (l' := l' + 1) (m' := l') (by omega) (by omega) (by omega) (by omega) (by omega) fd s2 s1 s3 (by omega) (by omega) (by omega) (by omega) (by omega) fd' s2' s1' s3').1
    omega
/-- a meeting parts at one place only -/
theorem mtF_one {fb : Nat → Nat} {i j k k' : Nat} (h1 : i ≤ k) (h2 : k < j) (h1' : i ≤ k') (h2' : k' < j) {x y x' y' : Nat → Nat} (hx : spF fb i k x) (hy : spF fb j (k + 1) y) (hx' : spF fb i k' x') (hy' : spF fb j (k' + 1) y') (e : fad x y = fad x' y') : k = k' := by
  have gen : ∀ {k k' : Nat} {x y x' y' : Nat → Nat}, i ≤ k → k < j → i ≤ k' → k' < j → spF fb i k x → spF fb j (k + 1) y → spF fb i k' x' → spF fb j (k' + 1) y' → fad x y = fad x' y' → ¬ k < k' := by
    intro k k' x y x' y' h1 h2 h1' h2' hx hy hx' hy' e q
    have a1 : ∀ p, ivl j (k + 1) p → y p = fad x y p := fun p hp => by
      unfold ivl at hp
      rw [fad, hx.2 p (by unfold ivl; omega), Nat.zero_add]
    have a2 : ∀ p, ivl i k' p → x' p = fad x y p := fun p hp => by
      unfold ivl at hp
      rw [e, fad, hy'.2 p (by unfold ivl; omega), Nat.add_zero]
    have r1 := rch_mono (Q := fun p => i < p ∧ p < j) (fun p hp => by unfold ivl at hp; omega) (rch_cgr a1 (hy.1 (k + 1) (by unfold ivl; omega)).2.2.1)
    have r2 := rch_mono (Q := fun p => i < p ∧ p < j) (fun p hp => by unfold ivl at hp; omega) (rch_cgr a2 (hx'.1 (k + 1) (by unfold ivl; omega)).2.2.1)
    have := rch_uniq r1 r2 (by omega) (by omega)
    omega
  have g1 := gen h1 h2 h1' h2' hx hy hx' hy' e
  have g2 := gen h1' h2' h1 h2 hx' hy' hx hy e.symm
  omega
/-- words apart: each side told by the sum -/
theorem fad_inj {A B : Nat → Prop} (hA : ∀ p, A p → ¬ B p) {x y x' y' c : Nat → Nat} (hx : ∀ p, ¬ A p → x p = 0) (hx' : ∀ p, ¬ A p → x' p = 0) (hy : ∀ p, ¬ B p → y p = 0) (hy' : ∀ p, ¬ B p → y' p = 0) (e : ∀ p, x p + y p + c p = x' p + y' p + c p) : x = x' ∧ y = y' := by
  have k : ∀ p, x p = x' p ∧ y p = y' p := fun p => by
    have := e p
    by_cases q : A p
    · have := hy p (hA p q)
      have := hy' p (hA p q)
      omega
    · have := hx p q
      have := hx' p q
      omega
  exact ⟨funext fun p => (k p).1, funext fun p => (k p).2⟩
