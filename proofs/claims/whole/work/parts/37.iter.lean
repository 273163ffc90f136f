/-! iteration: paths to the root -/
theorem fb_holes : ∀ (m n : Nat) (f : Nat → Nat), (∀ i, i < n → f i < m) → (∀ i j, i < j → j < n → f i ≠ f j) → n ≤ m := by
  intro m
  induction m with
  | zero =>
    intro n f h1 _
    rcases Nat.eq_zero_or_pos n with h | h
    · omega
    · exact absurd (h1 0 h) (Nat.not_lt_zero _)
  | succ m ih =>
    intro n f h1 h2
    by_cases hx : ∃ i, i < n ∧ f i = m
    · obtain ⟨a, ha, hfa⟩ := hx
      have hg := ih (n - 1) (fun i => if i < a then f i else f (i + 1)) (by
        intro i hi
        by_cases q : i < a
        · simp only [if_pos q]
          have b1 := h1 i (by omega)
          have b2 := h2 i a q ha
          omega
        · simp only [if_neg q]
          have b1 := h1 (i + 1) (by omega)
          have b2 := h2 a (i + 1) (by omega) (by omega)
          omega) (by
        intro i j hij hj
        by_cases q : i < a
        · by_cases r : j < a
          · simp only [if_pos q, if_pos r]
            exact h2 i j hij (by omega)
          · simp only [if_pos q, if_neg r]
            exact h2 i (j + 1) (by omega) (by omega)
        · have r : ¬ j < a := by omega
          simp only [if_neg q, if_neg r]
          exact h2 (i + 1) (j + 1) (by omega) (by omega))
      omega
    · have hg := ih n f (fun i hi => by
        have b1 := h1 i hi
        have b2 : f i ≠ m := fun e => hx ⟨i, hi, e⟩
        omega) h2
      omega
section ITER
variable {f : Nat → Nat} {N : Nat}
theorem zit_add : ∀ (a b x : Nat), zit f (a + b) x = zit f b (zit f a x)
  | 0, b, x => by rw [Nat.zero_add]; rfl
  | a + 1, b, x => by
    rw [Nat.add_right_comm]
    exact zit_add a b (f x)
theorem zit_s (k x : Nat) : zit f (k + 1) x = f (zit f k x) := zit_add k 1 x
theorem zit_le (hf : ∀ d, f d ≤ N) {k x : Nat} (hx : x ≤ N) : zit f k x ≤ N := by
  cases k with
  | zero => exact hx
  | succ k => rw [zit_s]; exact hf _
theorem zit_up (hf0 : f 0 = 0) {a b x : Nat} (h : zit f a x = 0) (hab : a ≤ b) : zit f b x = 0 := by
  obtain ⟨c, rfl⟩ := Nat.exists_eq_add_of_le hab
  rw [zit_add, h]
  exact zit_0 hf0 c
/-- who comes to the root at all, comes there in N steps -/
theorem zit_N (hf : ∀ d, f d ≤ N) (hf0 : f 0 = 0) {x : Nat} (hx : x ≤ N) : ∀ k, zit f k x = 0 → zit f N x = 0 := by
  intro k
  induction k using Nat.strongRecOn with
  | ind k ih =>
    intro hk
    by_cases hkN : k ≤ N
    · exact zit_up hf0 hk hkN
    · by_cases hm : ∃ j, j < k ∧ zit f j x = 0
      · obtain ⟨j, hj, hj0⟩ := hm
        exact ih j hj hj0
      · exfalso
        have hne : ∀ j, j < k → zit f j x ≠ 0 := fun j hj e => hm ⟨j, hj, e⟩
        have := fb_holes N k (fun i => zit f i x - 1) (fun i hi => by
          have h1 := hne i hi
          have h2 := zit_le hf (k := i) hx
          show zit f i x - 1 < N
          omega) (fun i j hij hj => by
          intro e
          have h1 := hne i (by omega)
          have h2 := hne j hj
          have e' : zit f i x = zit f j x := by
            have e2 : zit f i x - 1 = zit f j x - 1 := e
            omega
          have h3 : zit f (i + (k - j)) x = 0 := by
            rw [zit_add, e', ← zit_add, show j + (k - j) = k by omega]
            exact hk
          exact hne (i + (k - j)) (by omega) h3)
        omega
theorem zpm_bit (a : Nat) : ∀ (s x m : Nat), x ≠ 0 → (zpm f s x m).testBit a = (m.testBit a || zov f a s x)
  | 0, x, m, hx => by simp [zpm, zov]
  | s + 1, x, m, hx => by
    unfold zpm zov
    rw [if_neg hx]
    by_cases h : f x = 0
    · rw [if_pos h, h]
      have z0 : zov f a s 0 = false := by cases s <;> simp [zov]
      by_cases ha : 0 = a
      · subst ha; simp [Nat.testBit_or]
      · rw [if_neg ha, z0, Nat.testBit_or]
        have : (1 : Nat).testBit a = false := by
          rw [show (1 : Nat) = 2 ^ 0 from rfl, Nat.testBit_two_pow]
          exact decide_eq_false ha
        rw [this]
    · rw [if_neg h, zpm_bit a s (f x) _ h, Nat.testBit_or, Nat.testBit_two_pow]
      by_cases ha : f x = a
      · rw [if_pos ha]; simp [ha]
      · rw [if_neg ha]; simp [ha]
theorem zab_zov {a x : Nat} (hx : x ≠ 0) : zab f N a x = zov f a N x := by
  unfold zab
  rw [zpm_bit a N x 0 hx]
  simp
theorem zov_zit (hf0 : f 0 = 0) : ∀ (s x : Nat), x ≠ 0 → (zov f 0 s x = true ↔ zit f s x = 0)
  | 0, x, hx => by simp [zov, zit, hx]
  | s + 1, x, hx => by
    unfold zov zit
    rw [if_neg hx]
    by_cases h : f x = 0
    · rw [if_pos h, h, zit_0 hf0]; simp
    · rw [if_neg h]
      exact zov_zit hf0 s (f x) h
/-- is it a tree? -/
def zTr (f : Nat → Nat) (N : Nat) : Bool := zall (fun x => decide (zit f N x = 0)) N 1
theorem zall_congr {P Q : Nat → Bool} : ∀ {c d : Nat}, (∀ k, d ≤ k → k < d + c → P k = Q k) → zall P c d = zall Q c d
  | 0, d, _ => rfl
  | c + 1, d, h => by
    unfold zall
    rw [h d (Nat.le_refl _) (by omega), zall_congr (fun k h1 h2 => h k (by omega) (by omega))]
theorem zcnt_congr {P Q : Nat → Bool} : ∀ {c d : Nat}, (∀ k, d ≤ k → k < d + c → P k = Q k) → zcnt P c d = zcnt Q c d
  | 0, d, _ => rfl
  | c + 1, d, h => by
    unfold zcnt
    rw [h d (Nat.le_refl _) (by omega), zcnt_congr (fun k h1 h2 => h k (by omega) (by omega))]
theorem zTr_c (hf0 : f 0 = 0) : zall (fun x => zab f N 0 x) N 1 = zTr f N := by
  unfold zTr
  refine zall_congr fun k h1 h2 => ?_
  rw [zab_zov (by omega)]
  have := zov_zit (f := f) hf0 N k (by omega)
  by_cases h : zit f N k = 0
  · rw [this.mpr h, decide_eq_true h]
  · rw [decide_eq_false h]
    exact Bool.eq_false_iff.mpr fun z => h (this.mp z)
theorem zTr_m (hf : ∀ d, f d ≤ N) (hf0 : f 0 = 0) : zall (fun x => decide (zit f (N + 1) x = 0)) N 1 = zTr f N := by
  unfold zTr
  refine zall_congr fun k h1 h2 => ?_
  have : zit f (N + 1) k = 0 ↔ zit f N k = 0 := ⟨fun z => zit_N hf hf0 (by omega) (N + 1) z, fun z => zit_up hf0 z (by omega)⟩
  simp only [this]
theorem zTr_all (hf : ∀ d, f d ≤ N) (hf0 : f 0 = 0) (hz : ∀ d, N < d → f d = 0) (h : zTr f N = true) (hN : 1 ≤ N) : ∀ x, zit f N x = 0 := by
  intro x
  by_cases h0 : x = 0
  · rw [h0]; exact zit_0 hf0 N
  · by_cases hx : x ≤ N
    · exact of_decide_eq_true ((zall_iff.mp h) x (by omega) (by omega))
    · obtain ⟨m, rfl⟩ : ∃ m, N = m + 1 := ⟨N - 1, by omega⟩
      show zit f m (f x) = 0
      rw [hz x (by omega)]
      exact zit_0 hf0 m
theorem zTr_sm (hN : 1 ≤ N) : zall (fun x => zsmd f N x) N 1 = zall (zmsd f N) N 1 := by
  refine zall_congr fun k h1 h2 => ?_
  unfold zsmd zmsd
  refine zall_congr fun j h3 h4 => ?_
  exact zab_zov (by omega)
/-- nobody stands above itself in a tree -/
theorem zov_self (hf0 : f 0 = 0) {x : Nat} : ∀ (s y : Nat), zov f x s y = true → ∃ k, 1 ≤ k ∧ k ≤ s ∧ zit f k y = x
  | 0, y, h => by simp [zov] at h
  | s + 1, y, h => by
    unfold zov at h
    by_cases h0 : y = 0
    · simp [h0] at h
    · rw [if_neg h0] at h
      by_cases h1 : f y = x
      · exact ⟨1, by omega, by omega, h1⟩
      · rw [if_neg h1] at h
        obtain ⟨k, k1, k2, k3⟩ := zov_self hf0 s (f y) h
        exact ⟨k + 1, by omega, by omega, k3⟩
theorem zit_cyc {x k : Nat} (h : zit f k x = x) : ∀ c, zit f (c * k) x = x
  | 0 => by rw [Nat.zero_mul]; rfl
  | c + 1 => by
    rw [Nat.succ_mul, zit_add, zit_cyc h c, h]
theorem zno_self (hf0 : f 0 = 0) {s x k : Nat} (hz : zit f s x = 0) (hx : x ≠ 0) (hk : 1 ≤ k) : zit f k x ≠ x := by
  intro e
  have h1 := zit_cyc e s
  have h2 : zit f (s * k) x = 0 := zit_up hf0 hz (Nat.le_mul_of_pos_right s (by omega))
  rw [h2] at h1
  exact hx h1.symm
end ITER
