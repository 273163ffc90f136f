/-! the class's tables of ways hold the numbers of smooth spans -/
def spP (fb : Nat → Nat) (P : Nat → Int64) (a b : Nat) : Prop := ∃ n : Nat, cnn (spF fb a b) n ∧ P (8 * a + b) = lZ n
def mtP (fb : Nat → Nat) (Q : Nat → Int64) (i j : Nat) : Prop := ∃ n : Nat, cnn (mtF fb i j) n ∧ Q (zmc i j) = lZ n
theorem zwm_cnt {fb : Nat → Nat} {P : Nat → Int64} {i j : Nat} : ∀ (c l : Nat) (s : Int64), c + l = j → i ≤ l → (∀ k, i ≤ k → k < j → spP fb P i k ∧ spP fb P j (k + 1)) → (∃ n : Nat, cnn (fun f => ∃ k, i ≤ k ∧ k < l ∧ ∃ x y, spF fb i k x ∧ spF fb j (k + 1) y ∧ f = fad x y) n ∧ s = lZ n) → ∃ n : Nat, cnn (mtF fb i j) n ∧ zwm P i j c l s = lZ n
  | 0, l, s, hc, hl, hr, ⟨n, h1, h2⟩ => by
    have e : l = j := by omega
    subst e
    exact ⟨n, h1, h2⟩
  | c + 1, l, s, hc, hl, hr, ⟨n, h1, h2⟩ => by
    rw [zwm]
    obtain ⟨⟨n1, a1, a2⟩, ⟨n2, b1, b2⟩⟩ := hr l hl (by omega)
    refine zwm_cnt c (l + 1) _ (by omega) (by omega) hr ⟨n + n1 * n2, ?_, by rw [h2, a2, b2, lZ_mul, lZ_add, Int.natCast_add, Int.natCast_mul]⟩
    have m := cnn_mul (op := fad) a1 b1 (fun x x' y y' hx hx' hy hy' e => fad_inj (A := ivl i l) (B := ivl j (l + 1)) (c := fun _ => 0) (fun p hp w => by unfold ivl at hp w; omega) hx.2 hx'.2 hy.2 hy'.2 (fun p => by have := congrFun e p; unfold fad at this; omega))
    refine cnn_X (fun f => ?_) (cnn_or h1 m (fun f hf hg => ?_))
    · constructor
      · rintro (⟨k, k1, k2, w⟩ | w)
        · exact ⟨k, k1, by omega, w⟩
        · exact ⟨l, hl, by omega, w⟩
      · rintro ⟨k, k1, k2, w⟩
        by_cases q : k = l
        · subst q; exact Or.inr w
        · exact Or.inl ⟨k, k1, by omega, w⟩
    · obtain ⟨k, k1, k2, x, y, hx, hy, e⟩ := hf
      obtain ⟨x', y', hx', hy', e'⟩ := hg
      have := mtF_one k1 (by omega) hl (by omega) hx hy hx' hy' (by rw [← e, ← e'])
      omega
theorem zws_cnt {fb : Nat → Nat} {P Q : Nat → Int64} {a b : Nat} (hab : a ≠ b) : ∀ (c t : Nat) (s : Int64), c + t = max a b - min a b + 1 → 1 ≤ t → (∀ u, 1 ≤ u → u ≤ max a b - min a b → mtP fb Q (min a (zfar a b u)) (max a (zfar a b u)) ∧ spP fb P (zfar a b u) b) → (∃ n : Nat, cnn (fun f => ∃ u, 1 ≤ u ∧ u < t ∧ fb (8 * zfar a b u + a) = 0 ∧ ∃ x y, mtF fb (min a (zfar a b u)) (max a (zfar a b u)) x ∧ spF fb (zfar a b u) b y ∧ f = fop a (zfar a b u) x y) n ∧ s = lZ n) → ∃ n : Nat, cnn (spF fb a b) n ∧ zws' fb P Q a b c t s = lZ n
  | 0, t, s, hc, ht, hr, ⟨n, h1, h2⟩ => by
    refine ⟨n, cnn_X (fun f => ?_) h1, h2⟩
    rw [spF_step hab]
    constructor
    · rintro ⟨u, u1, u2, w⟩; exact ⟨u, u1, by omega, w⟩
    · rintro ⟨u, u1, u2, w⟩; exact ⟨u, u1, by omega, w⟩
  | c + 1, t, s, hc, ht, hr, ⟨n, h1, h2⟩ => by
    rw [zws']
    by_cases q : fb (8 * zfar a b t + a) = 0
    · rw [if_pos q]
      obtain ⟨⟨n1, a1, a2⟩, ⟨n2, b1, b2⟩⟩ := hr t ht (by omega)
      have zm : zmc (min a (zfar a b t)) (max a (zfar a b t)) = zmc a (zfar a b t) := by unfold zmc; omega
      rw [zm] at a2
      refine zws_cnt hab c (t + 1) _ (by omega) (by omega) hr ⟨n + n1 * n2, ?_, by rw [h2, a2, b2, lZ_mul, lZ_add, Int.natCast_add, Int.natCast_mul]⟩
      have m := cnn_mul (op := fop a (zfar a b t)) a1 b1 (fun x x' y y' hx hx' hy hy' e => fad_inj (A := fun p => min a (zfar a b t) < p ∧ p < max a (zfar a b t)) (B := ivl (zfar a b t) b) (c := fun p => if p = zfar a b t then a else 0) (fun p hp w => by
        unfold ivl at w
        unfold zfar at hp w
        split at hp <;> split at w <;> omega) (fun p hp => mtF_out hx hp) (fun p hp => mtF_out hx' hp) hy.2 hy'.2 (fun p => congrFun e p))
      refine cnn_X (fun f => ?_) (cnn_or h1 m (fun f hf hg => ?_))
      · constructor
        · rintro (⟨k, k1, k2, w⟩ | w)
          · exact ⟨k, k1, by omega, w⟩
          · exact ⟨t, ht, by omega, q, w⟩
        · rintro ⟨k, k1, k2, w1, w⟩
          by_cases q : k = t
          · subst q; exact Or.inr w
          · exact Or.inl ⟨k, k1, by omega, w1, w⟩
      · obtain ⟨k, k1, k2, _, x, y, hx, hy, e⟩ := hf
        obtain ⟨x', y', hx', hy', e'⟩ := hg
        have := spF_one hab k1 (by omega) ht (by omega) hx hy hx' hy' (by rw [← e, ← e'])
        omega
    · rw [if_neg q]
      refine zws_cnt hab c (t + 1) s (by omega) (by omega) hr ⟨n, cnn_X (fun f => ?_) h1, h2⟩
      constructor
      · rintro ⟨k, k1, k2, w⟩; exact ⟨k, k1, by omega, w⟩
      · rintro ⟨k, k1, k2, w1, w⟩
        by_cases qq : k = t
        · subst qq; exact absurd w1 q
        · exact ⟨k, k1, by omega, w1, w⟩
def pIn (fb : Nat → Nat) (N : Nat) (S : (Nat → Int64) × (Nat → Int64)) (k i : Nat) : Prop := (∀ a b, a ≤ N → b ≤ N → (a ≤ b ∨ 1 ≤ b) → (max a b - min a b < k ∨ (max a b - min a b = k ∧ min a b < i)) → spP fb S.1 a b) ∧ (∀ p q, p < q → q ≤ N → (q - p < k ∨ (q - p = k ∧ p < i)) → mtP fb S.2 p q)
theorem upL_self (P : Nat → Int64) (i : Nat) (v : Int64) : vp_updL P i v i = v := by unfold vp_updL; rw [if_pos rfl]
theorem upL_ne (P : Nat → Int64) {i j : Nat} (v : Int64) (h : j ≠ i) : vp_updL P i v j = P j := by unfold vp_updL; rw [if_neg h]
theorem spP_fr {fb : Nat → Nat} {P P' : Nat → Int64} {a b : Nat} (h : P' (8 * a + b) = P (8 * a + b)) (k : spP fb P a b) : spP fb P' a b := by
  unfold spP; rw [h]; exact k
theorem mtP_fr {fb : Nat → Nat} {P P' : Nat → Int64} {a b : Nat} (h : P' (zmc a b) = P (zmc a b)) (k : mtP fb P a b) : mtP fb P' a b := by
  unfold mtP; rw [h]; exact k
theorem zst1_top {fb : Nat → Nat} {N : Nat} (hN : N ≤ 7) {i len : Nat} (hl : 1 ≤ len) (hij : i + len ≤ N) {S : (Nat → Int64) × (Nat → Int64)} (hI : pIn fb N S len i) : pIn fb N (zst1 fb i len S) len (i + 1) := by
  obtain ⟨hS, hM⟩ := hI
  obtain ⟨P, Q⟩ := S
  dsimp only at hS hM
  unfold zst1
  obtain ⟨j, hj⟩ : ∃ j, j = i + len := ⟨_, rfl⟩
  rw [← hj]
  dsimp only
  have zm : zmc i j = 8 * i + j := zmc_lt (by omega)
  have k2 := zwm_cnt (fb := fb) (P := P) (i := i) (j := j) len i 0 (by omega) (by omega) (fun k k1 k2 => ⟨hS i k (by omega) (by omega) (by omega) (by omega), hS j (k + 1) (by omega) (by omega) (by omega) (by omega)⟩) ⟨0, cnn_0 (fun f ⟨k, a, b, _⟩ => by omega), rfl⟩
  generalize zwm P i j len i 0 = v2 at k2 ⊢
  obtain ⟨n2, c2, e2⟩ := k2
  have m2 : mtP fb (vp_updL Q (zmc i j) v2) i j := ⟨n2, c2, by rw [upL_self, e2]⟩
  have f2 : ∀ r, r ≠ zmc i j → vp_updL Q (zmc i j) v2 r = Q r := fun r hr => upL_ne Q v2 hr
  generalize vp_updL Q (zmc i j) v2 = Q2 at m2 f2 ⊢
  have k4 := zws_cnt (fb := fb) (P := P) (Q := Q2) (a := i) (b := j) (by omega) len 1 0 (by omega) (by omega) (fun u u1 u2 => by
    have zf : zfar i j u = i + u := by unfold zfar; rw [if_pos (by omega)]
    rw [zf, show min i (i + u) = i by omega, show max i (i + u) = i + u by omega]
    refine ⟨?_, hS (i + u) j (by omega) (by omega) (by omega) (by omega)⟩
    by_cases q : i + u = j
    · rw [q]; exact m2
    · exact mtP_fr (f2 _ (by rw [zmc_lt (by omega : i < i + u)]; omega)) (hM i (i + u) (by omega) (by omega) (by omega))) ⟨0, cnn_0 (fun f ⟨k, a, b, _⟩ => by omega), rfl⟩
  generalize zws' fb P Q2 i j len 1 0 = v4 at k4 ⊢
  obtain ⟨n4, c4, e4⟩ := k4
  have s4 : spP fb (vp_updL P (8 * i + j) v4) i j := ⟨n4, c4, by rw [upL_self, e4]⟩
  have f4 : ∀ r, r ≠ 8 * i + j → vp_updL P (8 * i + j) v4 r = P r := fun r hr => upL_ne P v4 hr
  generalize vp_updL P (8 * i + j) v4 = P4 at s4 f4 ⊢
  have M2 : ∀ p q, p < q → q ≤ N → (q - p < len ∨ (q - p = len ∧ p < i + 1)) → mtP fb Q2 p q := fun p q hp hq hk => by
    by_cases q1 : p = i ∧ q = j
    · obtain ⟨rfl, rfl⟩ := q1
      exact m2
    · exact mtP_fr (f2 _ (by rw [zmc_lt hp]; omega)) (hM p q hp hq (by omega))
  by_cases q0 : 0 < i
  · rw [if_pos q0]
    have k6 := zws_cnt (fb := fb) (P := P4) (Q := Q2) (a := j) (b := i) (by omega) len 1 0 (by omega) (by omega) (fun u u1 u2 => by
      have zf : zfar j i u = j - u := by unfold zfar; rw [if_neg (by omega)]
      rw [zf, show min j (j - u) = j - u by omega, show max j (j - u) = j by omega]
      exact ⟨M2 (j - u) j (by omega) (by omega) (by omega), spP_fr (f4 _ (by omega)) (hS (j - u) i (by omega) (by omega) (by omega) (by omega))⟩) ⟨0, cnn_0 (fun f ⟨k, a, b, _⟩ => by omega), rfl⟩
    generalize zws' fb P4 Q2 j i len 1 0 = v6 at k6 ⊢
    obtain ⟨n6, c6, e6⟩ := k6
    refine ⟨fun a b ha hb hab hk => ?_, M2⟩
    dsimp only
    by_cases q1 : a = i ∧ b = j
    · obtain ⟨rfl, rfl⟩ := q1
      exact spP_fr (upL_ne P4 v6 (by omega)) s4
    · by_cases q2 : a = j ∧ b = i
      · obtain ⟨rfl, rfl⟩ := q2
        exact ⟨n6, c6, by rw [upL_self, e6]⟩
      · exact spP_fr (upL_ne P4 v6 (by omega)) (spP_fr (f4 _ (by omega)) (hS a b ha hb hab (by omega)))
  · rw [if_neg q0]
    refine ⟨fun a b ha hb hab hk => ?_, M2⟩
    dsimp only
    by_cases q1 : a = i ∧ b = j
    · obtain ⟨rfl, rfl⟩ := q1
      exact s4
    · exact spP_fr (f4 _ (by omega)) (hS a b ha hb hab (by omega))
theorem zst2_top {fb : Nat → Nat} {N : Nat} (hN : N ≤ 7) {len : Nat} (hl : 1 ≤ len) (hlN : len ≤ N) : ∀ (c i : Nat) (S : (Nat → Int64) × (Nat → Int64)), c + i = N + 1 - len → pIn fb N S len i → pIn fb N (zst2 fb len c i S) (len + 1) 0
  | 0, i, S, hc, hI => by
    rw [zst2]
    exact ⟨fun a b ha hb hab hk => hI.1 a b ha hb hab (by omega), fun p q hp hq hk => hI.2 p q hp hq (by omega)⟩
  | c + 1, i, S, hc, hI => by
    rw [zst2]
    exact zst2_top hN hl hlN c (i + 1) _ (by omega) (zst1_top hN hl (by omega) hI)
theorem zst3_top {fb : Nat → Nat} {N : Nat} (hN : N ≤ 7) : ∀ (c len : Nat) (S : (Nat → Int64) × (Nat → Int64)), c + len = N + 1 → 1 ≤ len → pIn fb N S len 0 → pIn fb N (zst3 fb N c len S) (N + 1) 0
  | 0, len, S, hc, hl, hI => by
    rw [zst3, show N + 1 = len by omega]
    exact hI
  | c + 1, len, S, hc, hl, hI => by
    rw [zst3]
    exact zst3_top hN c (len + 1) _ (by omega) (by omega) (zst2_top hN hl (by omega) (N + 1 - len) 0 S (by omega) hI)
theorem spP_one {fb : Nat → Nat} {P : Nat → Int64} {a : Nat} (h : P (8 * a + a) = 1) : spP fb P a a :=
  ⟨1, ⟨[fun _ => 0], List.nodup_cons.mpr ⟨List.not_mem_nil, List.nodup_nil⟩, fun f => by rw [List.mem_singleton, spF_self], rfl⟩, h⟩
theorem zst0_top {N : Nat} : ∀ (c i : Nat) (P : Nat → Int64), c + i = N + 1 → (∀ k, k < i → P (8 * k + k) = 1) → ∀ k, k ≤ N → zst0 c i P (8 * k + k) = 1
  | 0, i, P, hc, h, k, hk => by
    rw [zst0]; exact h k (by omega)
  | c + 1, i, P, hc, h, k, hk => by
    rw [zst0]
    refine zst0_top c (i + 1) _ (by omega) (fun m hm => ?_) k hk
    by_cases q : m = i
    · subst q; exact upL_self _ _ _
    · rw [upL_ne _ _ (by omega)]
      exact h m (by omega)
theorem tls_nd {al : Nat → Nat → Bool} {N : Nat} : ∀ (c d : Nat) (f : Nat → Nat), (tls al N c d f).Nodup
  | 0, d, f => by rw [tls]; exact List.nodup_cons.mpr ⟨List.not_mem_nil, List.nodup_nil⟩
  | c + 1, d, f => by
    rw [tls]
    refine nodup_fm _ List.nodup_range (fun h _ => ?_) (fun h h' _ _ ne x hx hy => ?_)
    · split
      · exact tls_nd c (d + 1) _
      · exact List.nodup_nil
    · have get : ∀ h, x ∈ (if al d h = true ∧ ftr d 0 (fun x => if x = d then h else f x) = true then tls al N c (d + 1) (fun x => if x = d then h else f x) else []) → x d = h := by
        intro h hx
        split at hx
        · rw [mem_tls] at hx
          have := hx.1 d (by omega)
          rw [if_pos rfl] at this
          exact this
        · exact absurd hx List.not_mem_nil
      exact ne (by rw [← get h hx, ← get h' hy])
theorem x_cntS : xCntS := by
  intro fb N S hN1 hN hf1
  have k0 := zst0_top (N := N) (N + 1) 0 S.1 (by omega) (fun k hk => absurd hk (Nat.not_lt_zero _))
  have kI : pIn fb N (zst0 (N + 1) 0 S.1, S.2) 1 0 := ⟨fun a b ha hb hab hk => by
    have : a = b := by omega
    subst this
    exact spP_one (k0 a ha), fun p q hp hq hk => by omega⟩
  obtain ⟨n, c, e⟩ := (zst3_top hN N 1 _ (by omega) (by omega) kI).1 0 N (by omega) (by omega) (by omega) (by omega)
  rw [show 8 * 0 + N = N by omega] at e
  rw [e]
  have c2 : cnn (spF fb 0 N) ((xall N fb).filter (tss N)).length := by
    refine ⟨_, List.Pairwise.filter _ (tls_nd N 1 _), fun f => ?_, rfl⟩
    constructor
    · intro hf
      obtain ⟨a, b, _⟩ := mem_xall.mp (List.mem_filter.mp hf).1
      have o : ∀ x, ¬ (1 ≤ x ∧ x ≤ N) → f x = 0 := fun x hx => by
        by_cases q : x = 0
        · rw [q, a]
        · exact b x (by omega)
      exact ⟨(spn_all hN o).mpr hf, fun x hx => o x (fun w => hx (ivl_0.mpr w))⟩
    · rintro ⟨h, o⟩
      exact (spn_all hN (fun x hx => o x (fun w => hx (ivl_0.mp w)))).mp h
  rw [cnn_uniq c c2]
