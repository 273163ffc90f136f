/-! the class's rows of spans and meetings -/
def spR (wt : Nat → Int32) (fb : Nat → Nat) (lim : Nat) (R : rS) (a b : Nat) : Prop := (R (8 * a + b)).1 = lim ∧ ∃ g, stop lim (xsp wt fb a b) (R (8 * a + b)).2 g
def mtR (wt : Nat → Int32) (fb : Nat → Nat) (lim : Nat) (R : rS) (i j : Nat) : Prop := (R (64 + zmc i j)).1 = lim ∧ ∃ g, stop lim (xmt wt fb i j) (R (64 + zmc i j)).2 g
theorem zbo_s {z : Int} (h : zbo z) : zbs z := by unfold zbo at h; unfold zbs; omega
theorem stop_nil {lim : Nat} {Y : Int → Prop} {k : Nat → Int64} (h : ∀ z, ¬ Y z) : stop lim Y ((0, k) : tS) (fun _ => 0) :=
  ⟨⟨Nat.zero_le _, fun i j _ w => absurd w (Nat.not_lt_zero _), fun i w => absurd w (Nat.not_lt_zero _), fun x hx => absurd hx (h x)⟩, fun i w => absurd w (Nat.not_lt_zero _)⟩
section SPTOP
variable {wt : Nat → Int32} {fb : Nat → Nat} {lim : Nat}
theorem smt_top (hw : wbd wt) (h1 : 1 ≤ lim) {i j : Nat} (hij : i < j) (hj : j ≤ 7) : ∀ (c l : Nat) (R : rS) (g : Nat → Int), c + l = j → i ≤ l → (R (64 + zmc i j)).1 = lim → (∀ k, i ≤ k → k < j → spR wt fb lim R i k ∧ spR wt fb lim R j (k + 1)) → stop lim (fun z => ∃ k, i ≤ k ∧ k < l ∧ ∃ y1 y2, xsp wt fb i k y1 ∧ xsp wt fb j (k + 1) y2 ∧ z = y1 + y2) (R (64 + zmc i j)).2 g → mtR wt fb lim (smt i j c l R) i j ∧ ∀ r, r ≠ 64 + zmc i j → smt i j c l R r = R r
  | 0, l, R, g, hc, hl, hm, hr, t => by
    have e : l = j := by omega
    subst e
    exact ⟨⟨hm, g, t⟩, fun _ _ => rfl⟩
  | c + 1, l, R, g, hc, hl, hm, hr, t => by
    rw [smt]
    obtain ⟨⟨a1, g1, t1⟩, ⟨a2, g2, t2⟩⟩ := hr l hl (by omega)
    have z8 : 64 + zmc i j = 64 + (8 * i + j) := by unfold zmc; omega
    have k := pair_top (lim := lim) h1 (y := 0) t1 t2 t (fun z hz => by obtain ⟨k, hk⟩ := xsp_dk (by omega) (by omega) hz; exact zbo_s (dk_b hw hk)) (fun z hz => by obtain ⟨k, hk⟩ := xsp_dk hj (by omega) hz; exact zbo_s (dk_b hw hk)) (fun z hz => by
      obtain ⟨k, k1, k2, y1, y2, s1, s2, rfl⟩ := hz
      have : xmt wt fb i j (y1 + y2) := ⟨k, k1, by omega, y1, y2, s1, s2, rfl⟩
      obtain ⟨k', hk⟩ := xmt_dk hj this
      exact zbo_r (dk_b hw hk)) (by unfold zbs; omega) (fun x x' w w' hx hx' hw1 hw2 e => by
      obtain ⟨p1, d1⟩ := xsp_dk (by omega) (by omega) hx
      obtain ⟨p2, d2⟩ := xsp_dk (by omega) (by omega) hx'
      obtain ⟨p3, d3⟩ := xsp_dk hj (by omega) hw1
      obtain ⟨p4, d4⟩ := xsp_dk hj (by omega) hw2
      exact dk_inj (fun y hy => by
        have hy := ivb_iff.mp hy
        cases q : ivb j (l + 1) y
        · rfl
        · have := ivb_iff.mp q
          unfold ivl at hy this
          omega) d1 d3 d2 d4 e)
    obtain ⟨g', k⟩ := k
    rw [show lZ 0 = 0 from rfl] at k
    rw [hm]
    generalize tpair lim (R (8 * j + (l + 1))).2.1 (R (8 * i + l)).2.2 (R (8 * j + (l + 1))).2.2 0 (R (8 * i + l)).2.1 0 (R (64 + zmc i j)).2 = S2 at k
    have e1 : rset R (64 + zmc i j) lim S2 (64 + zmc i j) = (lim, S2) := by simp [rset]
    have e2 : ∀ r, r ≠ 64 + zmc i j → rset R (64 + zmc i j) lim S2 r = R r := fun r hr => by simp [rset, hr]
    obtain ⟨m1, m2⟩ := smt_top hw h1 hij hj c (l + 1) (rset R (64 + zmc i j) lim S2) g' (by omega) (by omega) (by rw [e1]) (fun k k1 k2 => by
      unfold spR
      rw [e2 _ (by omega), e2 _ (by omega)]
      exact hr k k1 k2) (by
      rw [e1]
      refine stop_X (fun z => ?_) k
      constructor
      · rintro (⟨k, k1, k2, w⟩ | ⟨y1, y2, s1, s2, rfl⟩)
        · exact ⟨k, k1, by omega, w⟩
        · exact ⟨l, hl, by omega, y1, y2, s1, s2, by omega⟩
      · rintro ⟨k, k1, k2, y1, y2, s1, s2, rfl⟩
        by_cases q : k = l
        · subst q
          exact Or.inr ⟨y1, y2, s1, s2, by omega⟩
        · exact Or.inl ⟨k, k1, by omega, y1, y2, s1, s2, rfl⟩)
    exact ⟨m1, fun r hr => by rw [m2 r hr, e2 r hr]⟩
theorem ssp_top (hw : wbd wt) (h1 : 1 ≤ lim) {a e : Nat} (ha : a ≤ 7) (he : e ≤ 7) (hae : a ≠ e) (h0 : a < e ∨ 1 ≤ e) : ∀ (c t : Nat) (R : rS) (g : Nat → Int), c + t = max a e - min a e + 1 → 1 ≤ t → (R (8 * a + e)).1 = lim → (∀ u, 1 ≤ u → u ≤ max a e - min a e → mtR wt fb lim R (min a (zfar a e u)) (max a (zfar a e u)) ∧ spR wt fb lim R (zfar a e u) e) → stop lim (fun z => ∃ u, 1 ≤ u ∧ u < t ∧ fb (8 * zfar a e u + a) = 0 ∧ ∃ y1 y2, xmt wt fb (min a (zfar a e u)) (max a (zfar a e u)) y1 ∧ xsp wt fb (zfar a e u) e y2 ∧ z = y1 + y2 + zka (wt (8 * zfar a e u + a)).toInt a (zfar a e u)) (R (8 * a + e)).2 g → spR wt fb lim (ssp fb wt a e c t R) a e ∧ ∀ r, r ≠ 8 * a + e → ssp fb wt a e c t R r = R r
  | 0, t, R, g, hc, ht, hm, hr, st => by
    refine ⟨⟨hm, g, stop_X (fun z => ?_) st⟩, fun _ _ => rfl⟩
    rw [xsp_step hae ha he h0]
    constructor
    · rintro ⟨u, u1, u2, w⟩; exact ⟨u, u1, by omega, w⟩
    · rintro ⟨u, u1, u2, w⟩; exact ⟨u, u1, by omega, w⟩
  | c + 1, t, R, g, hc, ht, hm, hr, st => by
    rw [ssp]
    have hz : zfar a e t ≤ 7 ∧ zfar a e t ≠ a ∧ 1 ≤ zfar a e t := by unfold zfar; split <;> omega
    by_cases q : fb (8 * zfar a e t + a) = 0
    · rw [if_pos q]
      obtain ⟨⟨a1, g1, t1⟩, ⟨a2, g2, t2⟩⟩ := hr t ht (by omega)
      have zm : zmc (min a (zfar a e t)) (max a (zfar a e t)) = zmc a (zfar a e t) := by unfold zmc; omega
      have zm7 : zmc a (zfar a e t) < 64 := by unfold zmc; omega
      rw [zm] at a1 t1
      have kb := zka_b (hw (8 * zfar a e t + a)) (p := a) (d := zfar a e t) ha hz.2.2
      have k := pair_top (lim := lim) h1 (y := zka (wt (8 * zfar a e t + a)).toInt a (zfar a e t)) t1 t2 st (fun z hz' => by obtain ⟨k, hk⟩ := xmt_dk (by omega) hz'; exact zbo_s (dk_b hw hk)) (fun z hz' => by obtain ⟨k, hk⟩ := xsp_dk hz.1 he hz'; exact zbo_s (dk_b hw hk)) (fun z hz' => by
        obtain ⟨u, u1, u2, w⟩ := hz'
        have : xsp wt fb a e z := (xsp_step hae ha he h0 z).mpr ⟨u, u1, by omega, w⟩
        obtain ⟨k', hk⟩ := xsp_dk ha he this
        exact zbo_r (dk_b hw hk)) (by unfold zbs; omega) (fun x x' w w' hx hx' hw1 hw2 ee => by
        obtain ⟨p1, d1⟩ := xmt_dk (by omega) hx
        obtain ⟨p2, d2⟩ := xmt_dk (by omega) hx'
        obtain ⟨p3, d3⟩ := xsp_dk hz.1 he hw1
        obtain ⟨p4, d4⟩ := xsp_dk hz.1 he hw2
        exact dk_inj (fun y hy => by
          unfold opn at hy
          simp only [Bool.and_eq_true, decide_eq_true_eq] at hy
          cases q : ivb (zfar a e t) e y
          · rfl
          · have := ivb_iff.mp q
            unfold ivl at this
            unfold zfar at this hy
            split at this <;> split at hy <;> omega) d1 d3 d2 d4 ee)
      obtain ⟨g', k⟩ := k
      rw [hm]
      generalize tpair lim (R (8 * zfar a e t + e)).2.1 (R (64 + zmc a (zfar a e t))).2.2 (R (8 * zfar a e t + e)).2.2 (lZ (zka (wt (8 * zfar a e t + a)).toInt a (zfar a e t))) (R (64 + zmc a (zfar a e t))).2.1 0 (R (8 * a + e)).2 = S2 at k
      have e1 : rset R (8 * a + e) lim S2 (8 * a + e) = (lim, S2) := by simp [rset]
      have e2 : ∀ r, r ≠ 8 * a + e → rset R (8 * a + e) lim S2 r = R r := fun r hr => by simp [rset, hr]
      obtain ⟨m1, m2⟩ := ssp_top hw h1 ha he hae h0 c (t + 1) (rset R (8 * a + e) lim S2) g' (by omega) (by omega) (by rw [e1]) (fun u u1 u2 => by
        have zu : zfar a e u ≤ 7 ∧ zfar a e u ≠ a := by unfold zfar; split <;> omega
        unfold spR mtR
        rw [e2 _ (by omega), e2 _ (by omega)]
        exact hr u u1 u2) (by
        rw [e1]
        refine stop_X (fun z => ?_) k
        constructor
        · rintro (⟨u, u1, u2, w⟩ | ⟨y1, y2, s1, s2, rfl⟩)
          · exact ⟨u, u1, by omega, w⟩
          · exact ⟨t, ht, by omega, q, y1, y2, s1, s2, rfl⟩
        · rintro ⟨u, u1, u2, w1, y1, y2, s1, s2, rfl⟩
          by_cases qq : u = t
          · subst qq
            exact Or.inr ⟨y1, y2, s1, s2, rfl⟩
          · exact Or.inl ⟨u, u1, by omega, w1, y1, y2, s1, s2, rfl⟩)
      exact ⟨m1, fun r hr => by rw [m2 r hr, e2 r hr]⟩
    · rw [if_neg q]
      refine ssp_top hw h1 ha he hae h0 c (t + 1) R g (by omega) (by omega) hm hr (stop_X (fun z => ?_) st)
      constructor
      · rintro ⟨u, u1, u2, w⟩; exact ⟨u, u1, by omega, w⟩
      · rintro ⟨u, u1, u2, w1, w⟩
        by_cases qq : u = t
        · subst qq; exact absurd w1 q
        · exact ⟨u, u1, by omega, w1, w⟩
end SPTOP
