/-! elimination among whole numbers -/
def rsc (A : Nat → Nat → Rat) : Nat → Nat → Rat := fun r c => A (r + 1) (c + 1) - A (r + 1) 0 * A 0 (c + 1) / A 0 0
def rit : Nat → (Nat → Nat → Rat) → (Nat → Nat → Rat)
  | 0, A => A
  | k + 1, A => rit k (rsc A)
def rpv : Nat → (Nat → Nat → Rat) → Rat
  | 0, _ => 1
  | k + 1, A => A 0 0 * rpv k (rsc A)
def rsb (k r c : Nat) (A : Nat → Nat → Rat) : Nat → Nat → Rat := fun i j => A (if i < k then i else k + r) (if j < k then j else k + c)
theorem rit_s : ∀ (k : Nat) (A : Nat → Nat → Rat), rit (k + 1) A = rsc (rit k A)
  | 0, _ => rfl
  | k + 1, A => by rw [rit, rit_s k (rsc A), rit]
theorem rpv_s : ∀ (k : Nat) (A : Nat → Nat → Rat), rpv (k + 1) A = rpv k A * rit k A 0 0
  | 0, A => by simp only [rpv, rit]; grind
  | k + 1, A => by rw [rpv, rpv_s k (rsc A), rpv, rit]; grind
theorem rdt_sub : ∀ (k : Nat) (A : Nat → Nat → Rat) (r c : Nat), rpv k A ≠ 0 → rdt (k + 1) (rsb k r c A) = rpv k A * rit k A r c
  | 0, A, r, c, _ => by
    simp only [rdt, rsum, rpv, rit, rsb, rsg]
    simp
    grind
  | k + 1, A, r, c, h => by
    rw [rpv] at h
    have h0 : A 0 0 ≠ 0 := fun z => by rw [z] at h; grind
    have h1 : rpv k (rsc A) ≠ 0 := fun z => by rw [z] at h; grind
    have e0 : rsb (k + 1) r c A 0 0 = A 0 0 := by
      unfold rsb
      rw [if_pos (by omega), if_pos (by omega)]
    rw [rdt_schur (by rw [e0]; exact h0), e0, rpv, rit]
    have := rdt_sub k (rsc A) r c h1
    rw [Rat.mul_assoc (A 0 0), ← this]
    congr 1
    refine rdt_congr _ (fun i j hi hj => ?_)
    unfold rsb rsc
    have z1 : (if i + 1 < k + 1 then i + 1 else k + 1 + r) = (if i < k then i else k + r) + 1 := by split <;> split <;> omega
    have z2 : (if j + 1 < k + 1 then j + 1 else k + 1 + c) = (if j < k then j else k + c) + 1 := by split <;> split <;> omega
    rw [z1, z2, if_pos (show 0 < k + 1 by omega), if_pos (show 0 < k + 1 by omega)]
theorem rdt_lead {k : Nat} {A : Nat → Nat → Rat} (h : rpv k A ≠ 0) : rdt (k + 1) A = rpv k A * rit k A 0 0 := by
  rw [← rdt_sub k A 0 0 h]
  refine rdt_congr _ (fun i j hi hj => ?_)
  unfold rsb
  rw [show (if i < k then i else k + 0) = i by split <;> omega, show (if j < k then j else k + 0) = j by split <;> omega]
def risi (b : Nat) (x : Rat) : Prop := ∃ z : Int, x = (z : Rat) ∧ -(b : Int) ≤ z ∧ z ≤ (b : Int)
def bdn : Nat → Nat
  | 0 => 1
  | n + 1 => (n + 1) * (8 * bdn n)
theorem zmulb {a b x y : Int} (h1 : -a ≤ x) (h2 : x ≤ a) (h3 : -b ≤ y) (h4 : y ≤ b) : -(a * b) ≤ x * y ∧ x * y ≤ a * b := by
  have ha : 0 ≤ a := by omega
  have hb : 0 ≤ b := by omega
  have e1 : 0 ≤ (a - x) * (b - y) := Int.mul_nonneg (by omega) (by omega)
  have e2 : 0 ≤ (a + x) * (b + y) := Int.mul_nonneg (by omega) (by omega)
  have e3 : 0 ≤ (a - x) * (b + y) := Int.mul_nonneg (by omega) (by omega)
  have e4 : 0 ≤ (a + x) * (b - y) := Int.mul_nonneg (by omega) (by omega)
  constructor <;> grind
theorem risi_mul {a b : Nat} {x y : Rat} (h1 : risi a x) (h2 : risi b y) : risi (a * b) (x * y) := by
  obtain ⟨z, rfl, z1, z2⟩ := h1
  obtain ⟨w, rfl, w1, w2⟩ := h2
  refine ⟨z * w, (Rat.intCast_mul z w).symm, ?_⟩
  rw [Int.natCast_mul]
  exact zmulb z1 z2 w1 w2
theorem risi_sum {b : Nat} {f : Nat → Rat} : ∀ (n : Nat), (∀ i, i < n → risi b (f i)) → risi (n * b) (rsum f n)
  | 0, _ => ⟨0, by simp [rsum], by omega, by omega⟩
  | n + 1, h => by
    obtain ⟨z, e, z1, z2⟩ := risi_sum n (fun i hi => h i (by omega))
    obtain ⟨w, e', w1, w2⟩ := h n (by omega)
    refine ⟨z + w, ?_, ?_⟩
    · rw [rsum, e, e', Rat.intCast_add]
    · rw [Nat.succ_mul, Int.natCast_add]
      constructor <;> omega
theorem rdt_int : ∀ (n : Nat) (A : Nat → Nat → Rat), (∀ r c, r < n → c < n → risi 8 (A r c)) → risi (bdn n) (rdt n A)
  | 0, _, _ => ⟨1, by simp [rdt], by simp [bdn], by simp [bdn]⟩
  | n + 1, A, h => by
    rw [rdt, bdn]
    refine risi_sum _ (fun i hi => ?_)
    refine risi_mul ?_ (rdt_int n _ (fun r c hr hc => ?_))
    · rw [show (8 : Nat) = 1 * 8 from rfl]
      refine risi_mul ?_ (h i 0 hi (by omega))
      unfold rsg
      split
      · exact ⟨1, by simp, by omega, by omega⟩
      · exact ⟨-1, by simp, by omega, by omega⟩
    · unfold rmn
      exact h _ _ (by split <;> omega) (by omega)
theorem rit_int {k r c : Nat} {A : Nat → Nat → Rat} (h : rpv k A ≠ 0) (hA : ∀ i j, i ≤ k + r → j ≤ k + c → risi 8 (A i j)) : risi (bdn (k + 1)) (rpv k A * rit k A r c) := by
  rw [← rdt_sub k A r c h]
  refine rdt_int _ _ (fun i j hi hj => ?_)
  unfold rsb
  exact hA _ _ (by split <;> omega) (by split <;> omega)
/-- a step: the values g of step k give those of step k + 1 -/
theorem rit_step {k : Nat} {A : Nat → Nat → Rat} {r c : Nat} (h : rpv k A ≠ 0) (h0 : rit k A 0 0 ≠ 0) :
    (rpv k A * rit k A (r + 1) (c + 1)) * (rpv k A * rit k A 0 0) - (rpv k A * rit k A (r + 1) 0) * (rpv k A * rit k A 0 (c + 1)) = rpv k A * (rpv (k + 1) A * rit (k + 1) A r c) := by
  rw [rit_s, rpv_s]
  unfold rsc
  grind
theorem rlp_int {al : Nat → Nat → Bool} {N r c : Nat} (hN : N ≤ 7) : risi 8 (rlp al N r c) := by
  have e : ∀ M, ∃ z : Int, rsum (fun h => if al (r + 1) h = true then ((if c = r then (1 : Rat) else 0) - (if c + 1 = h then 1 else 0)) else 0) M = (z : Rat) ∧ (c = r → 0 ≤ z ∧ z ≤ M) ∧ (c ≠ r → (M ≤ c + 1 → z = 0) ∧ -1 ≤ z ∧ z ≤ 0) := by
    intro M
    induction M with
    | zero => exact ⟨0, by simp [rsum], fun _ => by omega, fun _ => by omega⟩
    | succ M ih =>
      obtain ⟨z, e, z1, z2⟩ := ih
      rw [rsum, e]
      by_cases q : al (r + 1) M = true
      · by_cases q2 : c = r
        · by_cases q3 : c + 1 = M
          · exact ⟨z, by simp [q, q2, ← q3]; grind, fun h => by have := z1 h; omega, fun h => absurd q2 h⟩
          · refine ⟨z + 1, ?_, fun h => by have := z1 h; omega, fun h => absurd q2 h⟩
            rw [q, if_pos rfl, if_pos q2, if_neg q3, Rat.intCast_add]
            simp
            grind
        · by_cases q3 : c + 1 = M
          · refine ⟨z - 1, ?_, fun h => absurd h q2, fun h => by have := (z2 h).1 (by omega); omega⟩
            rw [q, if_pos rfl, if_neg q2, if_pos q3, Rat.intCast_sub]
            simp
            grind
          · refine ⟨z, ?_, fun h => absurd h q2, fun h => ⟨fun h2 => (z2 h).1 (by omega), (z2 h).2⟩⟩
            rw [q, if_pos rfl, if_neg q2, if_neg q3]
            grind
      · refine ⟨z, ?_, fun h => by have := z1 h; omega, fun h => ⟨fun h2 => (z2 h).1 (by omega), (z2 h).2⟩⟩
        rw [if_neg q]
        grind
  obtain ⟨z, e, z1, z2⟩ := e (N + 1)
  refine ⟨z, e, ?_⟩
  by_cases q : c = r
  · have := z1 q; omega
  · have := z2 q; omega
/-- the words' matrix as it is laid: on its line how many are allowed, elsewhere -1 or 0 -/
theorem rlp_off {al : Nat → Nat → Bool} {N r c : Nat} (h : c ≠ r) (hc : c + 1 ≤ N) : rlp al N r c = if al (r + 1) (c + 1) = true then -1 else 0 := by
  unfold rlp
  rw [rsum_one (r := c + 1) _ (by omega)]
  · rw [if_neg h, if_pos rfl]
    split <;> grind
  · intro i hi h2
    have h3 : ¬ c + 1 = i := fun z => h2 z.symm
    simp [h, h3]
    grind
theorem rlp_diag {al : Nat → Nat → Bool} {N r : Nat} (h : al (r + 1) (r + 1) = false) : rlp al N r r = rsum (fun h => if al (r + 1) h = true then 1 else 0) (N + 1) := by
  unfold rlp
  refine rsum_congr _ (fun i hi => ?_)
  by_cases q : r + 1 = i
  · subst q; simp [h]
  · rw [if_pos rfl, if_neg q]
    split <;> grind
