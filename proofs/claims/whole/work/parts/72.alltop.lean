/-! the class's rows over sets hold the first of all trees -/
def zbo (z : Int) : Prop := -20000000000000 ≤ z ∧ z ≤ 20000000000000
theorem zbo_r {z : Int} (h : zbo z) : zr z := by unfold zbo at h; unfold zr; omega
theorem xks_b {wt : Nat → Int32} (hw : wbd wt) {fb : Nat → Nat} {st : Nat} (hst : st < 128) {z : Int} (h : xks wt fb st z) : zbo z := by
  obtain ⟨f, ht, rfl⟩ := h
  have b := zsm_bd (f := fun d => if 1 ≤ d ∧ st.testBit (d - 1) = true then zka (wt (8 * d + f d)).toInt (f d) d else 0) (b := 2200000000000) (by omega) (fun x => by
    by_cases q : 1 ≤ x ∧ st.testBit (x - 1) = true
    · rw [if_pos q]
      have hf : f x ≤ 7 := by
        rcases (ht.2 x q).2.1 with w | w
        · omega
        · exact mms_7 hst w
      exact zka_b (hw _) hf q.1
    · rw [if_neg q]; omega) (c := 7) (d := 1)
  have c1 : zks wt st f = zsm (fun d => if 1 ≤ d ∧ st.testBit (d - 1) = true then zka (wt (8 * d + f d)).toInt (f d) d else 0) 7 1 := zsm_congr 7 1 (fun x a _ => by simp [a])
  rw [c1]
  unfold zbo
  omega
theorem ahl_top {wt : Nat → Int32} (hw : wbd wt) {fb : Nat → Nat} {lim : Nat} (h1 : 1 ≤ lim) (h2 : lim ≤ 31) {st d : Nat} (hst : st < 128) (hd : mms st d) : ∀ (c p : Nat) (R : rS) (Y : Int → Prop) (g : Nat → Int), c + p = 8 → (R st).1 = lim → (∃ h, stop lim (xks wt fb (zwo st d)) (R (zwo st d)).2 h) → stop lim Y (R st).2 g → (∀ z, Y z → zbo z) →
    ∃ g', stop lim (fun z => Y z ∨ ∃ q, p ≤ q ∧ q < 8 ∧ (2 * zwo st d + 1).testBit q = true ∧ fb (8 * d + q) = 0 ∧ ∃ y, xks wt fb (zwo st d) y ∧ z = y + zka (wt (8 * d + q)).toInt q d) (ahl fb wt st d c p R st).2 g' ∧ (ahl fb wt st d c p R st).1 = lim ∧ ∀ j, j ≠ st → ahl fb wt st d c p R j = R j
  | 0, p, R, Y, g, hc, hl, hr, t, hY => ⟨g, stop_X (fun z => ⟨Or.inl, fun w => w.elim id (fun ⟨q, a, b, _⟩ => absurd a (by omega))⟩) t, hl, fun _ _ => rfl⟩
  | c + 1, p, R, Y, g, hc, hl, hr, t, hY => by
    have lt := zwo_lt hst hd
    rw [ahl]
    by_cases q : (2 * zwo st d + 1).testBit p = true ∧ fb (8 * d + p) = 0
    · rw [if_pos q]
      obtain ⟨h, th⟩ := hr
      have kb := zka_b (hw (8 * d + p)) (p := p) (d := d) (by omega) hd.1
      have n1 := th.1.1
      have mn : min (R (zwo st d)).2.1 31 = (R (zwo st d)).2.1 := by omega
      obtain ⟨g1, t1, _, _⟩ := tsome_top (lim := lim) (r := (R (zwo st d)).2.2) (h := h) (y := zka (wt (8 * d + p)).toInt p d) (n := (R (zwo st d)).2.1) h1 th.2 (fun i hi => by
        have := xks_b hw lt.1 (th.1.2.2.1 i hi)
        unfold zbo at this
        unfold zr; omega) th.1.2.1 (R (zwo st d)).2.1 0 Y (R st).2 g (by omega) (fun z hz => zbo_r (hY z hz)) t
      have t2 := stop_full (W := fun v => ∃ y, xks wt fb (zwo st d) y ∧ v = y + zka (wt (8 * d + p)).toInt p d) t1 (fun v hv => by
        obtain ⟨y, hy, rfl⟩ := hv
        rcases th.1.2.2.2 y hy with ⟨i, hi, e⟩ | ⟨e, lo⟩
        · exact Or.inl (Or.inr ⟨i, by omega, by omega, by rw [← e]⟩)
        · refine Or.inr ⟨fun k => h k + zka (wt (8 * d + p)).toInt p d, fun k hk => ⟨Or.inr ⟨k, by omega, by omega, rfl⟩, ?_⟩, fun k l hkl hl z => ?_⟩
          · show y + _ < h k + _
            have := lo k (by omega); omega
          · have z : h k + zka (wt (8 * d + p)).toInt p d = h l + zka (wt (8 * d + p)).toInt p d := z
            have := th.1.2.1 k l hkl (by omega); omega)
      have ne : zwo st d ≠ st := by omega
      rw [hl, mn]
      generalize hS : (tsome lim (R (zwo st d)).2.2 (lZ (zka (wt (8 * d + p)).toInt p d)) (R (zwo st d)).2.1 0 (R st).2).2 = S2 at t2
      have e1 : (rset R st lim S2 st) = (lim, S2) := by simp [rset]
      have e2 : ∀ j, j ≠ st → rset R st lim S2 j = R j := fun j hj => by simp [rset, hj]
      obtain ⟨g2, k1, k2, k3⟩ := ahl_top hw h1 h2 hst hd c (p + 1) (rset R st lim S2) _ g1 (by omega) (by rw [e1]) ⟨h, by rw [e2 _ ne]; exact th⟩ (by rw [e1]; exact t2) (fun z hz => by
        rcases hz with (hz | ⟨i, _, hi, rfl⟩) | ⟨y, hy, rfl⟩
        · exact hY z hz
        · exact xks_b hw hst ((xks_step hst hd _).mpr ⟨d, p, hd, by omega, q.1, q.2, h i, th.1.2.2.1 i (by omega), rfl⟩)
        · exact xks_b hw hst ((xks_step hst hd _).mpr ⟨d, p, hd, by omega, q.1, q.2, y, hy, rfl⟩))
      refine ⟨g2, stop_X (fun z => ?_) k1, k2, fun j hj => by rw [k3 j hj, e2 j hj]⟩
      constructor
      · rintro (((w | ⟨i, _, hi, rfl⟩) | ⟨y, hy, rfl⟩) | ⟨q', a, b, c', e, y, hy, rfl⟩)
        · exact Or.inl w
        · exact Or.inr ⟨p, Nat.le_refl _, by omega, q.1, q.2, h i, th.1.2.2.1 i (by omega), rfl⟩
        · exact Or.inr ⟨p, Nat.le_refl _, by omega, q.1, q.2, y, hy, rfl⟩
        · exact Or.inr ⟨q', by omega, b, c', e, y, hy, rfl⟩
      · rintro (w | ⟨q', a, b, c', e, y, hy, rfl⟩)
        · exact Or.inl (Or.inl (Or.inl w))
        · by_cases qq : q' = p
          · subst qq
            exact Or.inl (Or.inr ⟨y, hy, rfl⟩)
          · exact Or.inr ⟨q', by omega, b, c', e, y, hy, rfl⟩
    · rw [if_neg q]
      obtain ⟨g2, k1, k2, k3⟩ := ahl_top hw h1 h2 hst hd c (p + 1) R Y g (by omega) hl hr t hY
      refine ⟨g2, stop_X (fun z => ?_) k1, k2, k3⟩
      constructor
      · rintro (w | ⟨q', a, b, c', e, y, hy, rfl⟩)
        · exact Or.inl w
        · exact Or.inr ⟨q', by omega, b, c', e, y, hy, rfl⟩
      · rintro (w | ⟨q', a, b, c', e, y, hy, rfl⟩)
        · exact Or.inl w
        · by_cases qq : q' = p
          · subst qq
            exact absurd ⟨c', e⟩ q
          · exact Or.inr ⟨q', by omega, b, c', e, y, hy, rfl⟩
/-- what is hung so far, the last word being below d0 -/
def xus (wt : Nat → Int32) (fb : Nat → Nat) (st d0 : Nat) (z : Int) : Prop := ∃ d p, d < d0 ∧ mms st d ∧ p < 8 ∧ (2 * zwo st d + 1).testBit p = true ∧ fb (8 * d + p) = 0 ∧ ∃ y, xks wt fb (zwo st d) y ∧ z = y + zka (wt (8 * d + p)).toInt p d
theorem afw_top {wt : Nat → Int32} (hw : wbd wt) {fb : Nat → Nat} {lim : Nat} (h1 : 1 ≤ lim) (h2 : lim ≤ 31) {st : Nat} (hst : st < 128) : ∀ (c d : Nat) (R : rS) (g : Nat → Int), 1 ≤ d → (R st).1 = lim → (∀ s, s < st → ∃ h, stop lim (xks wt fb s) (R s).2 h) → stop lim (xus wt fb st d) (R st).2 g → ∃ g', stop lim (xus wt fb st (d + c)) (afw fb wt st c d R st).2 g' ∧ (afw fb wt st c d R st).1 = lim ∧ ∀ j, j ≠ st → afw fb wt st c d R j = R j
  | 0, d, R, g, hd, hl, hr, t => ⟨g, t, hl, fun _ _ => rfl⟩
  | c + 1, d, R, g, hd, hl, hr, t => by
    rw [afw]
    have bd : ∀ z, xus wt fb st d z → zbo z := by
      rintro z ⟨d', p, _, m, p8, a, b, y, hy, rfl⟩
      exact xks_b hw hst ((xks_step hst m _).mpr ⟨d', p, m, p8, a, b, y, hy, rfl⟩)
    by_cases q : st.testBit (d - 1) = true
    · rw [if_pos q]
      have m : mms st d := ⟨hd, q⟩
      have lt := zwo_lt hst m
      obtain ⟨g1, k1, k2, k3⟩ := ahl_top hw h1 h2 hst m 8 0 R _ g (by omega) hl (hr _ lt.2) t bd
      obtain ⟨g2, j1, j2, j3⟩ := afw_top hw h1 h2 hst c (d + 1) (ahl fb wt st d 8 0 R) g1 (by omega) k2 (fun s hs => by rw [k3 s (by omega)]; exact hr s hs) (stop_X (fun z => by
        constructor
        · rintro (⟨d', p, a, w⟩ | ⟨p, _, b, w⟩)
          · exact ⟨d', p, by omega, w⟩
          · exact ⟨d, p, by omega, m, b, w⟩
        · rintro ⟨d', p, a, m', p8, w⟩
          by_cases e : d' = d
          · subst e
            exact Or.inr ⟨p, by omega, p8, w⟩
          · exact Or.inl ⟨d', p, by omega, m', p8, w⟩) k1)
      refine ⟨g2, ?_, j2, fun j hj => by rw [j3 j hj, k3 j hj]⟩
      rw [show d + (c + 1) = d + 1 + c by omega]; exact j1
    · rw [if_neg q]
      obtain ⟨g2, j1, j2, j3⟩ := afw_top hw h1 h2 hst c (d + 1) R g (by omega) hl hr (stop_X (fun z => by
        constructor
        · rintro ⟨d', p, a, w⟩
          exact ⟨d', p, by omega, w⟩
        · rintro ⟨d', p, a, m', w⟩
          by_cases e : d' = d
          · subst e
            exact absurd m'.2 q
          · exact ⟨d', p, by omega, m', w⟩) t)
      refine ⟨g2, ?_, j2, j3⟩
      rw [show d + (c + 1) = d + 1 + c by omega]; exact j1
theorem mms_ex0 : ∀ st, st < 128 → (st == 0 || (List.range 8).any (fun d => decide (1 ≤ d) && st.testBit (d - 1))) = true := by decide +kernel
theorem mms_ex {st : Nat} (h : st < 128) (h0 : st ≠ 0) : ∃ d, mms st d := by
  have k := mms_ex0 st h
  have e : (st == 0) = false := by simp [h0]
  rw [e, Bool.false_or, List.any_eq_true] at k
  obtain ⟨d, _, hd⟩ := k
  simp only [Bool.and_eq_true, decide_eq_true_eq] at hd
  exact ⟨d, hd.1, hd.2⟩
theorem mms_N {st N : Nat} (h : st < 2 ^ N) {d : Nat} (hd : mms st d) : d ≤ N := by
  apply Classical.byContradiction
  intro w
  have e : st.testBit (d - 1) = false := Nat.testBit_lt_two_pow (Nat.lt_of_lt_of_le h (Nat.pow_le_pow_right (by omega) (by omega)))
  rw [hd.2] at e
  cases e
theorem afs_top {wt : Nat → Int32} (hw : wbd wt) {fb : Nat → Nat} {N lim : Nat} (hN : N ≤ 7) (h1 : 1 ≤ lim) (h2 : lim ≤ 31) : ∀ (c st : Nat) (R : rS), c + st = 2 ^ N → 1 ≤ st → (∀ s, s < st → (R s).1 = lim ∧ ∃ h, stop lim (xks wt fb s) (R s).2 h) → ∀ s, s < 2 ^ N → (afs fb wt N lim c st R s).1 = lim ∧ ∃ h, stop lim (xks wt fb s) (afs fb wt N lim c st R s).2 h
  | 0, st, R, hc, hs1, hr, s, hs => by
    rw [afs]; exact hr s (by omega)
  | c + 1, st, R, hc, hs1, hr, s, hs => by
    rw [afs]
    have p7 : 2 ^ N ≤ 128 := Nat.pow_le_pow_right (n := 2) (by omega) hN
    have hst : st < 128 := by omega
    refine afs_top hw hN h1 h2 c (st + 1) _ (by omega) (by omega) (fun j hj => ?_) s hs
    have e1 : rset R st lim (0, (R st).2.2) st = (lim, (0, (R st).2.2)) := by simp [rset]
    have e2 : ∀ j, j ≠ st → rset R st lim (0, (R st).2.2) j = R j := fun j hj => by simp [rset, hj]
    have t0 : stop lim (xus wt fb st 1) (rset R st lim (0, (R st).2.2) st).2 (fun _ => 0) := by
      rw [e1]
      refine ⟨⟨Nat.zero_le _, fun i j _ h => absurd h (Nat.not_lt_zero _), fun i h => absurd h (Nat.not_lt_zero _), fun x hx => ?_⟩, fun i h => absurd h (Nat.not_lt_zero _)⟩
      obtain ⟨d, p, a, m, _⟩ := hx
      have := m.1
      omega
    obtain ⟨g, k1, k2, k3⟩ := afw_top hw h1 h2 hst N 1 (rset R st lim (0, (R st).2.2)) _ (by omega) (by rw [e1]) (fun s hs => by rw [e2 s (by omega)]; exact (hr s hs).2) t0
    by_cases q : j = st
    · subst q
      refine ⟨k2, g, stop_X (fun z => ?_) k1⟩
      obtain ⟨d0, m0⟩ := mms_ex hst (by omega)
      rw [xks_step hst m0]
      constructor
      · rintro ⟨d, p, _, w⟩; exact ⟨d, p, w⟩
      · rintro ⟨d, p, m, w⟩
        have := mms_N (show j < 2 ^ N by omega) m
        exact ⟨d, p, by omega, m, w⟩
    · rw [k3 j q, e2 j q]
      exact hr j (by omega)
theorem full_bit {N : Nat} (hN : N ≤ 7) (d : Nat) : mms (2 ^ N - 1) d ↔ 1 ≤ d ∧ d ≤ N := by
  unfold mms
  rw [Nat.testBit_two_pow_sub_one]
  simp only [decide_eq_true_eq]
  omega
theorem xks_all {wt : Nat → Int32} {fb : Nat → Nat} {N : Nat} (hN : N ≤ 7) (z : Int) : xks wt fb (2 ^ N - 1) z ↔ ∃ f, f ∈ xall N fb ∧ z = zkt wt N f := by
  have key : ∀ f, zks wt (2 ^ N - 1) f = zkt wt N f := by
    intro f
    unfold zks zkt
    rw [← zkey_eq]
    have e := zsm_add2 (f := fun d => if (2 ^ N - 1).testBit (d - 1) = true then zka (wt (8 * d + f d)).toInt (f d) d else 0) N (7 - N) 1
    rw [show N + (7 - N) = 7 by omega] at e
    rw [e]
    have a : zsm (fun d => if (2 ^ N - 1).testBit (d - 1) = true then zka (wt (8 * d + f d)).toInt (f d) d else 0) N 1 = zsm (fun x => zka (wt (8 * x + f x)).toInt (f x) x) N 1 := zsm_congr N 1 (fun x h1 h2 => by
      rw [if_pos ((full_bit hN x).mpr ⟨h1, by omega⟩).2])
    have b : zsm (fun d => if (2 ^ N - 1).testBit (d - 1) = true then zka (wt (8 * d + f d)).toInt (f d) d else 0) (7 - N) (1 + N) = zsm (fun _ => 0) (7 - N) (1 + N) := zsm_congr _ _ (fun x h1 h2 => by
      rw [if_neg (fun w => by have := (full_bit hN x).mp ⟨by omega, w⟩; omega)])
    have c : ∀ c d, zsm (fun _ => 0) c d = 0 := by
      intro c
      induction c with
      | zero => intro d; rfl
      | succ c ih => intro d; rw [zsm, ih]; rfl
    rw [a, b, c]
    omega
  constructor
  · rintro ⟨f, ht, rfl⟩
    refine ⟨fun x => if 1 ≤ x ∧ x ≤ N then f x else 0, ?_, ?_⟩
    · have pth : ∀ x, (x = 0 ∨ (1 ≤ x ∧ x ≤ N)) → f x = (fun x => if 1 ≤ x ∧ x ≤ N then f x else 0) x ∧ (f x = 0 ∨ (1 ≤ f x ∧ f x ≤ N)) := by
        rintro x (w | w)
        · subst w
          exact ⟨by show f 0 = if 1 ≤ 0 ∧ 0 ≤ N then f 0 else 0; rw [if_neg (by omega)]; exact ht.1, Or.inl ht.1⟩
        · refine ⟨by show f x = if 1 ≤ x ∧ x ≤ N then f x else 0; rw [if_pos w], ?_⟩
          rcases (ht.2 x ((full_bit hN x).mpr w)).2.1 with y | y
          · exact Or.inl y
          · exact Or.inr ((full_bit hN _).mp y)
      rw [mem_xall]
      refine ⟨by show (if 1 ≤ 0 ∧ 0 ≤ N then f 0 else 0) = 0; rw [if_neg (by omega)], fun x hx => by show (if 1 ≤ x ∧ x ≤ N then f x else 0) = 0; rw [if_neg (by omega)], fun x a b => ?_, ?_⟩
      · show (if 1 ≤ x ∧ x ≤ N then f x else 0) ≤ N ∧ zisf fb x (if 1 ≤ x ∧ x ≤ N then f x else 0) = true
        rw [if_pos ⟨a, b⟩]
        have hx := ht.2 x ((full_bit hN x).mpr ⟨a, b⟩)
        refine ⟨?_, ?_⟩
        · rcases (pth x (Or.inr ⟨a, b⟩)).2 with y | y
          · omega
          · exact y.2
        · unfold zisf
          simp only [Bool.and_eq_true, decide_eq_true_eq]
          refine ⟨fun e => ?_, hx.1⟩
          obtain ⟨j, hj⟩ := hx.2.2
          rw [zit_fix e] at hj
          omega
      · rw [ftr_fexo]
        intro x a b
        obtain ⟨j, hj⟩ := (ht.2 x ((full_bit hN x).mpr ⟨a, by omega⟩)).2.2
        refine ⟨j, Or.inl ?_⟩
        rw [← (zit_path pth j x (Or.inr ⟨a, by omega⟩)).1, hj]
        exact Nat.le_refl _
    · rw [key]
      exact zkt_congr (fun d a b => by show f d = if 1 ≤ d ∧ d ≤ N then f d else 0; rw [if_pos ⟨a, b⟩])
  · rintro ⟨f, hf, rfl⟩
    have fN := xall_7 hN hf
    obtain ⟨a, b, c, e⟩ := mem_xall.mp hf
    refine ⟨f, ⟨a, fun d hd => ?_⟩, (key f).symm⟩
    have dd := (full_bit hN d).mp hd
    have cd := (c d dd.1 dd.2).2
    unfold zisf at cd
    simp only [Bool.and_eq_true, decide_eq_true_eq] at cd
    refine ⟨cd.2, ?_, N, ftr_zit fN a e d dd.2⟩
    by_cases q : f d = 0
    · exact Or.inl q
    · exact Or.inr ((full_bit hN _).mpr ⟨by omega, fN d⟩)
theorem x_topA : xTopA := by
  intro wt fb N lim R hw hN1 hN hf1 h1 h2 hR
  have z0 : zr 0 := by unfold zr; omega
  have t0 : stop lim (fun _ => False) ((0, (R 0).2.2) : tS) (fun _ => 0) := ⟨⟨Nat.zero_le _, fun i j _ h => absurd h (Nat.not_lt_zero _), fun i h => absurd h (Nat.not_lt_zero _), fun x hx => hx.elim⟩, fun i h => absurd h (Nat.not_lt_zero _)⟩
  have b0 : ∃ g, stop lim (xks wt fb 0) (toff lim (0, (R 0).2.2) 0).2 g := by
    rcases toff_top (x := 0) h1 (fun z hz => hz.elim) z0 t0 with ⟨_, g, t⟩ | ⟨_, _, w, _⟩
    · exact ⟨g, stop_X (fun z => by rw [xks_0]; exact ⟨fun w => w.elim (fun y => y.elim) id, Or.inr⟩) t⟩
    · dsimp only at w; omega
  have k := afs_top hw hN h1 h2 (fb := fb) (2 ^ N - 1) 1 (rset R 0 lim (toff lim (0, (R 0).2.2) 0).2) (by have : 0 < 2 ^ N := Nat.two_pow_pos N; omega) (by omega) (fun s hs => by
    have : s = 0 := by omega
    subst this
    rw [show rset R 0 lim (toff lim (0, (R 0).2.2) 0).2 0 = (lim, (toff lim (0, (R 0).2.2) 0).2) by simp [rset]]
    exact ⟨rfl, b0⟩) (2 ^ N - 1) (by have : 0 < 2 ^ N := Nat.two_pow_pos N; omega)
  obtain ⟨k1, g, k2⟩ := k
  exact ⟨k1, g, stop_X (fun z => xks_all hN z) k2⟩
