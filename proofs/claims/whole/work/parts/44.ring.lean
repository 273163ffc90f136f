/-! no ring: every word comes out -/
def fexo (m k : Nat) (f : Nat → Nat) : Prop := ∀ x, k < x → x ≤ k + m → ∃ j, zit f j x ≤ k ∨ k + m < zit f j x
theorem zit_fix {f : Nat → Nat} {x : Nat} (e : f x = x) : ∀ j, zit f j x = x
  | 0 => rfl
  | j + 1 => by rw [zit, e, zit_fix e j]
theorem fexo_1 {m k : Nat} {f g : Nat → Nat} (hg : g = fun d => if f d = k + 1 then f (k + 1) else f d) : ∀ (n j x : Nat), j ≤ n → k + 1 < x → x ≤ k + 1 + m → (zit f j x ≤ k ∨ k + 1 + m < zit f j x) → ∃ i, zit g i x ≤ k + 1 ∨ k + 1 + m < zit g i x
  | _, 0, x, _, h1, h2, h3 => by simp only [zit] at h3; omega
  | 0, j + 1, x, hn, h1, h2, h3 => absurd hn (by omega)
  | n + 1, j + 1, x, hn, h1, h2, h3 => by
    rw [zit] at h3
    by_cases q : f x = k + 1
    · have gx : g x = f (k + 1) := by rw [hg]; simp [q]
      by_cases q2 : f (k + 1) ≤ k + 1 ∨ k + 1 + m < f (k + 1)
      · exact ⟨1, by rw [zit, zit, gx]; exact q2⟩
      · rw [q] at h3
        cases j with
        | zero => simp only [zit] at h3; omega
        | succ j' =>
          rw [zit] at h3
          obtain ⟨i, hi⟩ := fexo_1 hg n j' (f (k + 1)) (by omega) (by omega) (by omega) h3
          exact ⟨i + 1, by rw [zit, gx]; exact hi⟩
    · have gx : g x = f x := by rw [hg]; simp [q]
      by_cases q2 : f x ≤ k + 1 ∨ k + 1 + m < f x
      · exact ⟨1, by rw [zit, zit, gx]; exact q2⟩
      · obtain ⟨i, hi⟩ := fexo_1 hg n j (f x) (by omega) (by omega) (by omega) h3
        exact ⟨i + 1, by rw [zit, gx]; exact hi⟩
theorem fexo_2 {m k : Nat} {f g : Nat → Nat} (hg : g = fun d => if f d = k + 1 then f (k + 1) else f d) (e : f (k + 1) ≠ k + 1) : ∀ (i x : Nat), k + 1 < x → x ≤ k + 1 + m → (zit g i x ≤ k + 1 ∨ k + 1 + m < zit g i x) → ∃ j, zit f j x ≤ k ∨ k + 1 + m < zit f j x
  | 0, x, h1, h2, h3 => by simp only [zit] at h3; omega
  | i + 1, x, h1, h2, h3 => by
    rw [zit] at h3
    have key : ∃ j, zit f j (g x) ≤ k ∨ k + 1 + m < zit f j (g x) := by
      by_cases q2 : g x ≤ k + 1 ∨ k + 1 + m < g x
      · have : g x ≠ k + 1 := by
          rw [hg]
          by_cases q : f x = k + 1
          · simp [q, e]
          · simp [q]
        exact ⟨0, by rw [zit]; omega⟩
      · exact fexo_2 hg e i (g x) (by omega) (by omega) h3
    obtain ⟨j, hj⟩ := key
    by_cases q : f x = k + 1
    · have gx : g x = f (k + 1) := by rw [hg]; simp [q]
      exact ⟨j + 2, by rw [zit, zit, q, ← gx]; exact hj⟩
    · have gx : g x = f x := by rw [hg]; simp [q]
      exact ⟨j + 1, by rw [zit, ← gx]; exact hj⟩
theorem ftr_fexo : ∀ (m k : Nat) (f : Nat → Nat), ftr m k f = true ↔ fexo m k f
  | 0, k, f => ⟨fun _ x h1 h2 => absurd h1 (by omega), fun _ => rfl⟩
  | m + 1, k, f => by
    by_cases e : f (k + 1) = k + 1
    · constructor
      · intro h; simp [ftr, e] at h
      · intro h
        obtain ⟨j, hj⟩ := h (k + 1) (by omega) (by omega)
        rw [zit_fix e] at hj
        omega
    · have h1 : ftr (m + 1) k f = ftr m (k + 1) (fun d => if f d = k + 1 then f (k + 1) else f d) := by simp [ftr, e]
      rw [h1, ftr_fexo m (k + 1)]
      constructor
      · intro h
        have hx : ∀ x, k + 1 < x → x ≤ k + 1 + m → ∃ j, zit f j x ≤ k ∨ k + 1 + m < zit f j x := fun x a b => by
          obtain ⟨i, hi⟩ := h x a b
          exact fexo_2 rfl e i x a b hi
        intro x a b
        rw [show k + (m + 1) = k + 1 + m by omega] at b ⊢
        by_cases q : x = k + 1
        · subst q
          by_cases q2 : f (k + 1) ≤ k ∨ k + 1 + m < f (k + 1)
          · exact ⟨1, by rw [zit, zit]; exact q2⟩
          · obtain ⟨j, hj⟩ := hx (f (k + 1)) (by omega) (by omega)
            exact ⟨j + 1, by rw [zit]; exact hj⟩
        · exact hx x (by omega) b
      · intro h x a b
        obtain ⟨j, hj⟩ := h x (by omega) (by omega)
        rw [show k + (m + 1) = k + 1 + m by omega] at hj
        exact fexo_1 rfl j j x (Nat.le_refl j) a b hj
/-- where the way from x on comes out of the words below d -/
def fxv (f : Nat → Nat) (d x v : Nat) : Prop := ∃ j, zit f j x = v ∧ (v = 0 ∨ d ≤ v) ∧ ∀ i, i < j → 0 < zit f i x ∧ zit f i x < d
theorem fxv_ex {f : Nat → Nat} {d : Nat} : ∀ (j x : Nat), (zit f j x = 0 ∨ d ≤ zit f j x) → ∃ v, fxv f d x v
  | 0, x, h => ⟨x, 0, rfl, h, fun i hi => absurd hi (Nat.not_lt_zero _)⟩
  | j + 1, x, h => by
    by_cases q : x = 0 ∨ d ≤ x
    · exact ⟨x, 0, rfl, q, fun i hi => absurd hi (Nat.not_lt_zero _)⟩
    · obtain ⟨v, i, h1, h2, h3⟩ := fxv_ex j (f x) h
      refine ⟨v, i + 1, h1, h2, fun a ha => ?_⟩
      cases a with
      | zero => simp only [zit]; omega
      | succ a => exact h3 a (by omega)
theorem ftr_ex {f : Nat → Nat} {d : Nat} (h : ftr (d - 1) 0 f = true) (x : Nat) : ∃ v, fxv f d x v := by
  by_cases q : x = 0 ∨ d ≤ x
  · exact fxv_ex 0 x q
  · obtain ⟨j, hj⟩ := (ftr_fexo (d - 1) 0 f).mp h x (by omega) (by omega)
    exact fxv_ex j x (by omega)
theorem ftr_step {f : Nat → Nat} {d v : Nat} (hd : 1 ≤ d) (h : ftr (d - 1) 0 f = true) (hv : fxv f d (f d) v) : ftr d 0 f = true ↔ v ≠ d := by
  obtain ⟨j, h1, h2, h3⟩ := hv
  rw [ftr_fexo]
  have cyc : v = d → ∀ n, 0 < zit f n d ∧ zit f n d ≤ d := by
    intro e n
    induction n using Nat.strongRecOn with
    | ind n ih =>
      by_cases q : n ≤ j
      · cases n with
        | zero => simp only [zit]; omega
        | succ n =>
          rw [zit]
          have := h3 n (by omega)
          omega
      · have : zit f n d = zit f (n - (j + 1)) d := by
          conv => lhs; rw [show n = (j + 1) + (n - (j + 1)) by omega, zit_add, zit, h1, e]
        rw [this]
        exact ih _ (by omega)
  constructor
  · intro h e
    obtain ⟨n, hn⟩ := h d (by omega) (by omega)
    have := cyc e n
    omega
  · intro e x a b
    have hdx : ∃ n, zit f n d ≤ 0 ∨ 0 + d < zit f n d := ⟨j + 1, by rw [zit, h1]; omega⟩
    by_cases q : x = d
    · rw [q]; exact hdx
    · obtain ⟨w, i, w1, w2, w3⟩ := ftr_ex h x
      by_cases q2 : w = d
      · obtain ⟨n, hn⟩ := hdx
        exact ⟨i + n, by rw [zit_add, w1, q2]; exact hn⟩
      · exact ⟨i, by rw [w1]; omega⟩
/-- all the trees of what is allowed, in the order of their heads -/
def tls (al : Nat → Nat → Bool) (N : Nat) : Nat → Nat → (Nat → Nat) → List (Nat → Nat)
  | 0, _, f => [f]
  | c + 1, d, f => (List.range (N + 1)).flatMap (fun h => if al d h = true ∧ ftr d 0 (fun x => if x = d then h else f x) = true then tls al N c (d + 1) (fun x => if x = d then h else f x) else [])
theorem len_fm {α : Type} {g : Nat → List α} {r : Nat → Rat} : ∀ (n : Nat), (∀ i, i < n → ((g i).length : Rat) = r i) → ((((List.range n).flatMap g).length : Nat) : Rat) = rsum r n
  | 0, _ => by simp [rsum]
  | n + 1, h => by
    rw [List.range_succ, List.flatMap_append, List.length_append, Rat.natCast_add, len_fm n (fun i hi => h i (by omega)), rsum]
    simp [h n (by omega)]
theorem tls_len {al : Nat → Nat → Bool} {N : Nat} : ∀ (c d : Nat) (f : Nat → Nat), c + d = N + 1 → ftr (d - 1) 0 f = true → (((tls al N c d f).length : Nat) : Rat) = tcn (fun f => ftr N 0 f) al N c d f
  | 0, d, f, h, e => by
    rw [show d - 1 = N by omega] at e
    simp [tls, tcn, e]
  | c + 1, d, f, h, e => by
    rw [tls, tcn]
    refine len_fm _ (fun i hi => ?_)
    by_cases q : al d i = true
    · by_cases q2 : ftr d 0 (fun x => if x = d then i else f x) = true
      · rw [if_pos ⟨q, q2⟩, if_pos q]
        exact tls_len c (d + 1) _ (by omega) q2
      · rw [if_neg (fun z => q2 z.2), if_pos q, tcn_zero]
        · simp
        · intro g hg
          cases q3 : ftr N 0 g
          · rfl
          · have := ftr_pre d N 0 g (by omega) q3
            rw [ftr_congr d 0 g _ (fun x a b => hg x (by omega))] at this
            exact absurd this q2
    · rw [if_neg (fun z => q z.1), if_neg q]
      simp
