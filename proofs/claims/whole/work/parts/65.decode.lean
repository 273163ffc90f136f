/-! trees of the list; heads told by a key -/
theorem mem_tls {al : Nat → Nat → Bool} {N : Nat} {g : Nat → Nat} : ∀ (c d : Nat) (f : Nat → Nat), g ∈ tls al N c d f ↔ ((∀ x, x < d ∨ d + c ≤ x → g x = f x) ∧ ∀ x, d ≤ x → x < d + c → g x ≤ N ∧ al x (g x) = true ∧ ftr x 0 g = true)
  | 0, d, f => by
    rw [tls, List.mem_singleton]
    constructor
    · intro h
      rw [h]
      exact ⟨fun _ _ => rfl, fun x a b => absurd a (by omega)⟩
    · rintro ⟨h, _⟩
      funext x
      exact h x (by omega)
  | c + 1, d, f => by
    rw [tls, List.mem_flatMap]
    constructor
    · rintro ⟨h, h1, h2⟩
      rw [List.mem_range] at h1
      by_cases q : al d h = true ∧ ftr d 0 (fun x => if x = d then h else f x) = true
      · rw [if_pos q, mem_tls c (d + 1)] at h2
        obtain ⟨k1, k2⟩ := h2
        have gd : g d = h := by rw [k1 d (by omega), if_pos rfl]
        refine ⟨fun x hx => ?_, fun x a b => ?_⟩
        · rw [k1 x (by omega), if_neg (by omega)]
        · by_cases w : x = d
          · rw [w, gd]
            refine ⟨by omega, q.1, ?_⟩
            rw [← q.2]
            refine ftr_congr d 0 _ _ (fun y y1 y2 => ?_)
            rw [k1 y (by omega)]
          · exact k2 x (by omega) (by omega)
      · rw [if_neg q] at h2
        exact absurd h2 (List.not_mem_nil)
    · rintro ⟨k1, k2⟩
      have kd := k2 d (Nat.le_refl _) (by omega)
      have ft : ftr d 0 (fun x => if x = d then g d else f x) = true := by
        rw [← kd.2.2]
        refine ftr_congr d 0 _ _ (fun y y1 y2 => ?_)
        by_cases w : y = d
        · rw [if_pos w, w]
        · rw [if_neg w, k1 y (by omega)]
      refine ⟨g d, List.mem_range.mpr (by omega), ?_⟩
      rw [if_pos ⟨kd.2.1, ft⟩, mem_tls c (d + 1)]
      refine ⟨fun x hx => ?_, fun x a b => k2 x (by omega) (by omega)⟩
      by_cases w : x = d
      · rw [if_pos w, w]
      · rw [if_neg w, k1 x (by omega)]
theorem mem_xall {N : Nat} {fb : Nat → Nat} {g : Nat → Nat} : g ∈ xall N fb ↔ (g 0 = 0 ∧ (∀ x, N < x → g x = 0) ∧ (∀ x, 1 ≤ x → x ≤ N → g x ≤ N ∧ zisf fb x (g x) = true) ∧ ftr N 0 g = true) := by
  unfold xall
  rw [mem_tls]
  constructor
  · rintro ⟨a, b⟩
    refine ⟨a 0 (Or.inl (by omega)), fun x hx => a x (Or.inr (by omega)), fun x h1 h2 => ⟨(b x h1 (by omega)).1, (b x h1 (by omega)).2.1⟩, ?_⟩
    by_cases q : N = 0
    · rw [q]; rfl
    · exact (b N (by omega) (by omega)).2.2
  · rintro ⟨a, b, c, e⟩
    refine ⟨fun x hx => ?_, fun x h1 h2 => ⟨(c x h1 (by omega)).1, (c x h1 (by omega)).2, ftr_pre x N 0 g (by omega) e⟩⟩
    by_cases q : x = 0
    · rw [q, a]
    · exact b x (by omega)
theorem xall_7 {N : Nat} (hN : N ≤ 7) {fb : Nat → Nat} {g : Nat → Nat} (h : g ∈ xall N fb) : ∀ x, g x ≤ N := by
  obtain ⟨a, b, c, _⟩ := mem_xall.mp h
  intro x
  by_cases q : x = 0
  · rw [q, a]; omega
  · by_cases q2 : x ≤ N
    · exact (c x (by omega) q2).1
    · rw [b x (by omega)]; omega
theorem mem_xsrt {N t : Nat} {fb : Nat → Nat} {g : Nat → Nat} (h : g ∈ xsrt N fb t) : g ∈ xall N fb := by
  unfold xsrt at h
  split at h
  · exact h
  · exact (List.mem_filter.mp h).1
/-! digits -/
theorem zsm_add2 {f : Nat → Int} : ∀ (a b d : Nat), zsm f (a + b) d = zsm f a d + zsm f b (d + a)
  | 0, b, d => by simp [zsm]
  | a + 1, b, d => by
    rw [show a + 1 + b = a + b + 1 by omega, zsm, zsm_add2 a b (d + 1), zsm, show d + 1 + a = d + (a + 1) by omega]
    omega
theorem zdig_div {f : Nat → Nat} {e : Nat} (he : e ≤ 8) : ∀ (c d : Nat), d + c ≤ e → ∃ A : Int, zdig f c d = A * 2 ^ (3 * (8 - e))
  | 0, d, _ => ⟨0, by simp [zdig, zsm]⟩
  | c + 1, d, h => by
    obtain ⟨A, hA⟩ := zdig_div he c (d + 1) (by omega)
    refine ⟨(f d : Int) * 2 ^ (3 * (e - d - 1)) + A, ?_⟩
    have e1 : (2 : Int) ^ (3 * (7 - d)) = 2 ^ (3 * (e - d - 1)) * 2 ^ (3 * (8 - e)) := by
      rw [← Int.pow_add]
      congr 1
      omega
    unfold zdig at hA ⊢
    rw [zsm, hA, e1, Int.add_mul, Int.mul_assoc]
theorem zdg_key {wt : Nat → Int32} {N : Nat} (hN : N ≤ 7) {f : Nat → Nat} (hf : ∀ x, f x ≤ 7) {d : Nat} (h1 : 1 ≤ d) (h2 : d ≤ N) : zdg (zkt wt N f) d = f d := by
  obtain ⟨A, hA⟩ := zdig_div (f := f) (e := d) (by omega) (d - 1) 1 (by omega)
  have hB := zdig_b hf (N - d) (d + 1) (by omega) (by omega)
  have e0 : zdig f N 1 = zdig f (d - 1) 1 + (f d : Int) * 2 ^ (3 * (7 - d)) + zdig f (N - d) (d + 1) := by
    unfold zdig
    have : N = (d - 1) + (1 + (N - d)) := by omega
    conv => lhs; rw [this]
    rw [zsm_add2, zsm_add2 1, show 1 + (d - 1) = d by omega]
    simp only [zsm]
    omega
  have p1 : (2 : Int) ^ (3 * (8 - d)) = 8 * 2 ^ (3 * (7 - d)) := by
    rw [show 3 * (8 - d) = 3 * (7 - d) + 3 by omega, Int.pow_add]
    omega
  have p2 : (2097152 : Int) = 2 ^ (3 * (d - 1)) * (8 * 2 ^ (3 * (7 - d))) := by
    rw [← p1, ← Int.pow_add, show 3 * (d - 1) + 3 * (8 - d) = 21 by omega]
    decide
  have p3 : 3 * (8 - (d + 1)) = 3 * (7 - d) := by omega
  rw [p3] at hB
  have p4 : (0 : Int) < 2 ^ (3 * (8 - (N - d + (d + 1)))) := Int.pow_pos (by omega)
  have hfd := hf d
  unfold zdg zkt
  rw [e0, hA, p1, p2]
  generalize zdig f (N - d) (d + 1) = B at hB
  generalize hP : (2 : Int) ^ (3 * (7 - d)) = P at hB ⊢
  have Pp : 0 < P := by rw [← hP]; exact Int.pow_pos (by omega)
  generalize (2 : Int) ^ (3 * (d - 1)) = Q
  generalize zwsm wt f N 1 = S
  have key : -(S * (Q * (8 * P)) - (A * (8 * P) + (f d : Int) * P + B)) = B + P * (8 * (A - S * Q) + (f d : Int)) := by grind
  rw [key, Int.add_mul_ediv_left _ _ (by omega), Int.ediv_eq_zero_of_lt (by omega) (by omega), Int.zero_add]
  omega
theorem ztk_val {z : Int} : ∀ (c d : Nat) (f : Nat → Nat) (e : Nat), ztk z c d f e = if d ≤ e ∧ e < d + c then zdg z e else f e
  | 0, d, f, e => by rw [ztk, if_neg (by omega)]
  | c + 1, d, f, e => by
    rw [ztk, ztk_val c (d + 1)]
    unfold zupd
    by_cases q : e = d
    · rw [if_neg (by omega), if_pos q, if_pos (by omega), q]
    · by_cases q2 : d ≤ e ∧ e < d + (c + 1)
      · rw [if_pos (by omega), if_pos q2]
      · rw [if_neg (by omega), if_neg q, if_neg q2]
theorem zkt_r {wt : Nat → Int32} (hw : ∀ k, -1000000 ≤ (wt k).toInt ∧ (wt k).toInt ≤ 1000000) {N : Nat} (hN : N ≤ 7) {f : Nat → Nat} (hf : ∀ x, f x ≤ 7) : -20000000000000 ≤ zkt wt N f ∧ zkt wt N f ≤ 20000000000000 := by
  have b1 := zwsm_bw hw (f := f) hN 1
  have b2 := zdig_b1 hf hN
  unfold zkt
  omega
/-- the same key: the same heads -/
theorem zkt_inj {wt : Nat → Int32} {N : Nat} (hN : N ≤ 7) {f g : Nat → Nat} (hf : ∀ x, f x ≤ 7) (hg : ∀ x, g x ≤ 7) (h : zkt wt N f = zkt wt N g) : ∀ d, 1 ≤ d → d ≤ N → f d = g d := by
  intro d h1 h2
  rw [← zdg_key (wt := wt) hN hf h1 h2, ← zdg_key (wt := wt) hN hg h1 h2, h]
theorem zkt_congr {wt : Nat → Int32} {N : Nat} {f g : Nat → Nat} (h : ∀ d, 1 ≤ d → d ≤ N → f d = g d) : zkt wt N f = zkt wt N g := by
  unfold zkt zwsm zdig
  rw [zsm_congr N 1 (fun x a b => by rw [h x a (by omega)]), zsm_congr (f := fun x => (f x : Int) * 2 ^ (3 * (7 - x))) N 1 (fun x a b => by rw [h x a (by omega)])]
