/-! all trees over sets of words -/
/-- more of what stands behind enough others changes nothing -/
theorem stop_full {lim : Nat} {Z W : Int → Prop} {S : tS} {g : Nat → Int} (t : stop lim Z S g) (h : ∀ v, W v → Z v ∨ ∃ e : Nat → Int, (∀ k, k < lim → Z (e k) ∧ v < e k) ∧ ∀ k l, k < l → l < lim → e k ≠ e l) : stop lim (fun z => Z z ∨ W z) S g := by
  obtain ⟨⟨t1, t2, t3, t4⟩, t5⟩ := t
  refine ⟨⟨t1, t2, fun i hi => Or.inl (t3 i hi), fun x hx => ?_⟩, t5⟩
  rcases hx with hx | hx
  · exact t4 x hx
  · rcases h x hx with w | ⟨e, e1, e2⟩
    · exact t4 x w
    · right
      exact itop_behind (X := Z) (n := lim) (e := e) ⟨t1, t2, t3, t4⟩ (Nat.le_refl _) (fun k hk => (e1 k hk).2) e2 (fun k hk => t4 _ (e1 k hk).1)
def mms (st d : Nat) : Prop := 1 ≤ d ∧ st.testBit (d - 1) = true
def trs (fb : Nat → Nat) (st : Nat) (f : Nat → Nat) : Prop := f 0 = 0 ∧ ∀ d, mms st d → fb (8 * d + f d) = 0 ∧ (f d = 0 ∨ mms st (f d)) ∧ ∃ j, zit f j d = 0
def zks (wt : Nat → Int32) (st : Nat) (f : Nat → Nat) : Int := zsm (fun d => if st.testBit (d - 1) = true then zka (wt (8 * d + f d)).toInt (f d) d else 0) 7 1
def xks (wt : Nat → Int32) (fb : Nat → Nat) (st : Nat) (z : Int) : Prop := ∃ f, trs fb st f ∧ z = zks wt st f
theorem zwo_bit0 : ∀ st, st < 128 → ∀ d, d < 8 → ∀ x, x < 8 → (d == 0 || x == 0 || !st.testBit (d - 1) || ((zwo st d).testBit (x - 1) == (st.testBit (x - 1) && decide (x ≠ d)))) = true := by decide +kernel
theorem zwo_bit (st : Nat) (h : st < 128) (d : Nat) (hd : d < 8) (h1 : 1 ≤ d) (x : Nat) (hx : x < 8) (hx1 : 1 ≤ x) (hb : st.testBit (d - 1) = true) : (zwo st d).testBit (x - 1) = (st.testBit (x - 1) && decide (x ≠ d)) := by
  have k := zwo_bit0 st h d hd x hx
  have e1 : (d == 0) = false := by simp; omega
  have e2 : (x == 0) = false := by simp; omega
  rw [e1, e2, hb] at k
  simpa using k
theorem zpl_bit : ∀ r, r < 128 → ∀ p, p < 8 → (2 * r + 1).testBit p = (decide (p = 0) || r.testBit (p - 1)) := by decide +kernel
theorem mms_7 {st : Nat} (h : st < 128) {d : Nat} (hd : mms st d) : d ≤ 7 := by
  apply Classical.byContradiction
  intro w
  have e : st.testBit (d - 1) = false := Nat.testBit_lt_two_pow (Nat.lt_of_lt_of_le h (show 2 ^ 7 ≤ 2 ^ (d - 1) from Nat.pow_le_pow_right (by omega) (by omega)))
  rw [hd.2] at e
  cases e
theorem zwo_lt {st d : Nat} (h : st < 128) (hd : mms st d) : zwo st d < 128 ∧ zwo st d < st := by
  have d7 := mms_7 h hd
  have := zwo8 st h d (by omega) hd.1
  exact ⟨this.2.1, this.2.2 hd.2⟩
theorem mms_wo {st d : Nat} (h : st < 128) (hd : mms st d) (x : Nat) : mms (zwo st d) x ↔ mms st x ∧ x ≠ d := by
  have d7 := mms_7 h hd
  have lt := (zwo_lt h hd).1
  constructor
  · intro hx
    have x7 := mms_7 lt hx
    have b := zwo_bit st h d (by omega) hd.1 x (by omega) hx.1 hd.2
    rw [hx.2] at b
    have b := b.symm
    simp only [Bool.and_eq_true, decide_eq_true_eq] at b
    exact ⟨⟨hx.1, b.1⟩, b.2⟩
  · rintro ⟨hx, hn⟩
    have x7 := mms_7 h hx
    have b := zwo_bit st h d (by omega) hd.1 x (by omega) hx.1 hd.2
    rw [hx.2] at b
    exact ⟨hx.1, by rw [b]; simp [hn]⟩
theorem mms_pl {r p : Nat} (h : r < 128) (hp : p < 8) : (2 * r + 1).testBit p = true ↔ p = 0 ∨ mms r p := by
  rw [zpl_bit r h p hp]
  simp only [Bool.or_eq_true, decide_eq_true_eq]
  unfold mms
  constructor
  · rintro (a | a)
    · exact Or.inl a
    · by_cases q : p = 0
      · exact Or.inl q
      · exact Or.inr ⟨by omega, a⟩
  · rintro (a | a)
    · exact Or.inl a
    · exact Or.inr a.2
theorem zsm_one {f g : Nat → Int} {t : Int} {k : Nat} : ∀ (c d : Nat), d ≤ k → k < d + c → (∀ x, x ≠ k → f x = g x) → f k = g k + t → zsm f c d = zsm g c d + t
  | 0, d, h1, h2, _, _ => absurd h2 (by omega)
  | c + 1, d, h1, h2, h3, h4 => by
    rw [zsm, zsm]
    by_cases q : d = k
    · subst q
      rw [h4, zsm_congr (g := g) c (d + 1) (fun x a _ => h3 x (by omega))]
      omega
    · rw [h3 d q, zsm_one c (d + 1) (by omega) (by omega) h3 h4]
      omega
theorem zit_path {f g : Nat → Nat} {P : Nat → Prop} (h : ∀ x, P x → f x = g x ∧ P (f x)) : ∀ (j x : Nat), P x → zit f j x = zit g j x ∧ P (zit f j x)
  | 0, x, hx => ⟨rfl, hx⟩
  | j + 1, x, hx => by
    have a := h x hx
    have b := zit_path h j (f x) a.2
    rw [zit, zit, ← a.1]
    exact b
/-- a word that nothing hangs on -/
theorem leaf_ex {fb : Nat → Nat} {st : Nat} (hst : st < 128) {f : Nat → Nat} (ht : trs fb st f) {d0 : Nat} (h0 : mms st d0) : ∃ d, mms st d ∧ ∀ x, mms st x → f x ≠ d := by
  apply Classical.byContradiction
  intro no
  have ch : ∀ d, ∃ x, mms st d → mms st x ∧ f x = d := by
    intro d
    apply Classical.byContradiction
    intro w
    have hd : mms st d := Classical.byContradiction (fun z => w ⟨0, fun y => absurd y z⟩)
    exact no ⟨d, hd, fun x hx e => w ⟨x, fun _ => ⟨hx, e⟩⟩⟩
  obtain ⟨c, hc⟩ : ∃ c : Nat → Nat, ∀ d, mms st d → mms st (c d) ∧ f (c d) = d := ⟨fun d => Classical.choose (ch d), fun d hd => Classical.choose_spec (ch d) hd⟩
  have m : ∀ k, mms st (zit c k d0) := by
    intro k
    induction k with
    | zero => exact h0
    | succ k ih => rw [zit_s]; exact (hc _ ih).1
  have back : ∀ j i, zit f j (zit c (i + j) d0) = zit c i d0 := by
    intro j
    induction j with
    | zero => intro i; rfl
    | succ j ih =>
      intro i
      rw [zit, show i + (j + 1) = (i + j) + 1 by omega, zit_s, (hc _ (m _)).2, ih]
  have hole := fb_holes 7 9 (fun k => zit c k d0 - 1) (fun i _ => by
    have a := mms_7 hst (m i)
    have b := (m i).1
    show zit c i d0 - 1 < 7
    omega) (fun i j hij _ e => by
    have e : zit c i d0 - 1 = zit c j d0 - 1 := e
    have a := (m i).1
    have b := (m j).1
    have eq : zit c i d0 = zit c j d0 := by omega
    have bk := back (j - i) i
    rw [show i + (j - i) = j by omega, ← eq] at bk
    obtain ⟨n, hn⟩ := (ht.2 _ (m i)).2.2
    exact zno_self ht.1 hn (by omega) (show 1 ≤ j - i by omega) bk)
  omega
theorem xks_step {wt : Nat → Int32} {fb : Nat → Nat} {st : Nat} (hst : st < 128) {d0 : Nat} (h0 : mms st d0) (z : Int) : xks wt fb st z ↔ ∃ d p, mms st d ∧ p < 8 ∧ (2 * zwo st d + 1).testBit p = true ∧ fb (8 * d + p) = 0 ∧ ∃ y, xks wt fb (zwo st d) y ∧ z = y + zka (wt (8 * d + p)).toInt p d := by
  have keyE : ∀ d f, mms st d → zks wt st f = zks wt (zwo st d) f + zka (wt (8 * d + f d)).toInt (f d) d := by
    intro d f hd
    have d7 := mms_7 hst hd
    have d1 := hd.1
    unfold zks
    have nd : ¬ mms (zwo st d) d := fun w => ((mms_wo hst hd d).mp w).2 rfl
    have nb : ¬ (zwo st d).testBit (d - 1) = true := fun w => nd ⟨d1, w⟩
    have key := zsm_one (f := fun x => if 1 ≤ x ∧ st.testBit (x - 1) = true then zka (wt (8 * x + f x)).toInt (f x) x else 0) (g := fun x => if 1 ≤ x ∧ (zwo st d).testBit (x - 1) = true then zka (wt (8 * x + f x)).toInt (f x) x else 0) (t := zka (wt (8 * d + f d)).toInt (f d) d) (k := d) 7 1 d1 (by omega) (fun x hx => by
      have : (1 ≤ x ∧ (zwo st d).testBit (x - 1) = true) ↔ (1 ≤ x ∧ st.testBit (x - 1) = true) := by
        have := mms_wo hst hd x
        unfold mms at this
        rw [this]
        exact ⟨fun w => w.1, fun w => ⟨w, hx⟩⟩
      simp only [this]) (by
      rw [if_pos ⟨d1, hd.2⟩, if_neg (fun w => nb w.2)]
      omega)
    have c1 : ∀ s : Nat, zsm (fun x => if s.testBit (x - 1) = true then zka (wt (8 * x + f x)).toInt (f x) x else 0) 7 1 = zsm (fun x => if 1 ≤ x ∧ s.testBit (x - 1) = true then zka (wt (8 * x + f x)).toInt (f x) x else 0) 7 1 := fun s => zsm_congr 7 1 (fun x a _ => by simp [a])
    rw [c1, c1]
    exact key
  have keyC : ∀ s f g, (∀ x, mms s x → f x = g x) → zks wt s f = zks wt s g := by
    intro s f g h
    unfold zks
    refine zsm_congr 7 1 (fun x a _ => ?_)
    by_cases q : s.testBit (x - 1) = true
    · rw [if_pos q, if_pos q, h x ⟨a, q⟩]
    · rw [if_neg q, if_neg q]
  constructor
  · rintro ⟨f, ht, rfl⟩
    obtain ⟨d, hd, leaf⟩ := leaf_ex hst ht h0
    have hfd := ht.2 d hd
    have lt := zwo_lt hst hd
    have pl : f d = 0 ∨ mms (zwo st d) (f d) := by
      rcases hfd.2.1 with w | w
      · exact Or.inl w
      · refine Or.inr ((mms_wo hst hd _).mpr ⟨w, fun e => ?_⟩)
        exact leaf d hd e
    have p8 : f d < 8 := by
      rcases hfd.2.1 with w | w
      · omega
      · have := mms_7 hst w; omega
    refine ⟨d, f d, hd, p8, (mms_pl lt.1 p8).mpr pl, hfd.1, zks wt (zwo st d) f, ⟨f, ⟨ht.1, fun x hx => ?_⟩, rfl⟩, keyE d f hd⟩
    obtain ⟨x1, x2⟩ := (mms_wo hst hd x).mp hx
    have hfx := ht.2 x x1
    refine ⟨hfx.1, ?_, hfx.2.2⟩
    rcases hfx.2.1 with w | w
    · exact Or.inl w
    · exact Or.inr ((mms_wo hst hd _).mpr ⟨w, leaf x x1⟩)
  · rintro ⟨d, p, hd, p8, hp, hfb, y, ⟨f, ht, rfl⟩, rfl⟩
    have lt := zwo_lt hst hd
    have hp := (mms_pl lt.1 p8).mp hp
    have d1 := hd.1
    have pth : ∀ x, (x = 0 ∨ mms (zwo st d) x) → f x = zupd f d p x ∧ (f x = 0 ∨ mms (zwo st d) (f x)) := by
      rintro x (w | w)
      · subst w
        refine ⟨?_, Or.inl ht.1⟩
        unfold zupd
        rw [if_neg (by omega)]
      · refine ⟨?_, (ht.2 x w).2.1⟩
        unfold zupd
        rw [if_neg ((mms_wo hst hd x).mp w).2]
    have reach : ∀ x, (x = 0 ∨ mms (zwo st d) x) → ∃ j, zit (zupd f d p) j x = 0 := by
      intro x hx
      have : ∃ j, zit f j x = 0 := by
        rcases hx with w | w
        · exact ⟨0, w⟩
        · exact (ht.2 x w).2.2
      obtain ⟨j, hj⟩ := this
      exact ⟨j, by rw [← (zit_path pth j x hx).1]; exact hj⟩
    have ud : zupd f d p d = p := by simp [zupd]
    refine ⟨zupd f d p, ⟨?_, fun x hx => ?_⟩, ?_⟩
    · unfold zupd; rw [if_neg (by omega)]; exact ht.1
    · by_cases q : x = d
      · subst q
        rw [ud]
        refine ⟨hfb, ?_, ?_⟩
        · rcases hp with w | w
          · exact Or.inl w
          · exact Or.inr ((mms_wo hst hd p).mp w).1
        · obtain ⟨j, hj⟩ := reach p hp
          exact ⟨j + 1, by rw [zit, ud]; exact hj⟩
      · have xr : mms (zwo st d) x := (mms_wo hst hd x).mpr ⟨hx, q⟩
        have a := pth x (Or.inr xr)
        rw [← a.1]
        refine ⟨(ht.2 x xr).1, ?_, reach x (Or.inr xr)⟩
        rcases a.2 with w | w
        · exact Or.inl w
        · exact Or.inr ((mms_wo hst hd _).mp w).1
    · rw [keyE d _ hd, ud, keyC (zwo st d) f (zupd f d p) (fun x hx => (pth x (Or.inr hx)).1)]
theorem xks_0 {wt : Nat → Int32} {fb : Nat → Nat} (z : Int) : xks wt fb 0 z ↔ z = 0 := by
  have k0 : ∀ f, zks wt 0 f = 0 := fun f => by
    unfold zks
    simp [zsm]
  constructor
  · rintro ⟨f, _, rfl⟩; exact k0 f
  · rintro rfl
    exact ⟨fun _ => 0, ⟨rfl, fun d hd => by have := hd.2; simp at this⟩, (k0 _).symm⟩
theorem zka_b {w : Int} (hw : -1000000 ≤ w ∧ w ≤ 1000000) {p d : Nat} (hp : p ≤ 7) (hd : 1 ≤ d) : -2200000000000 ≤ zka w p d ∧ zka w p d ≤ 2200000000000 := by
  unfold zka
  have e1 : (2 : Int) ^ (3 * (7 - d)) ≤ 2 ^ 18 := by
    have : ((2 ^ (3 * (7 - d)) : Nat) : Int) ≤ ((2 ^ 18 : Nat) : Int) := by
      exact_mod_cast Nat.pow_le_pow_right (by omega) (by omega)
    simpa using this
  have e0 : (0 : Int) < 2 ^ (3 * (7 - d)) := Int.pow_pos (by omega)
  have e2 : (p : Int) * 2 ^ (3 * (7 - d)) ≤ 7 * 2 ^ 18 := Int.mul_le_mul (by omega) e1 (by omega) (by omega)
  have e3 : 0 ≤ (p : Int) * 2 ^ (3 * (7 - d)) := Int.mul_nonneg (by omega) (by omega)
  omega
