/-! determinants over the rationals -/
def rsum (f : Nat → Rat) : Nat → Rat
  | 0 => 0
  | n + 1 => rsum f n + f n
def rsg (i : Nat) : Rat := if i % 2 = 0 then 1 else -1
def rmn (A : Nat → Nat → Rat) (i : Nat) : Nat → Nat → Rat := fun r c => A (if r < i then r else r + 1) (c + 1)
def rdt : Nat → (Nat → Nat → Rat) → Rat
  | 0, _ => 1
  | n + 1, A => rsum (fun i => rsg i * A i 0 * rdt n (rmn A i)) (n + 1)
def rup (A : Nat → Nat → Rat) (r : Nat) (v : Nat → Rat) : Nat → Nat → Rat := fun i => if i = r then v else A i
theorem rsum_congr {f g : Nat → Rat} : ∀ (n : Nat), (∀ i, i < n → f i = g i) → rsum f n = rsum g n
  | 0, _ => rfl
  | n + 1, h => by rw [rsum, rsum, rsum_congr n (fun i hi => h i (by omega)), h n (by omega)]
theorem rsum_zero {f : Nat → Rat} : ∀ (n : Nat), (∀ i, i < n → f i = 0) → rsum f n = 0
  | 0, _ => rfl
  | n + 1, h => by rw [rsum, rsum_zero n (fun i hi => h i (by omega)), h n (by omega)]; grind
theorem rsum_lin {f g k : Nat → Rat} {x : Rat} : ∀ (n : Nat), (∀ i, i < n → k i = x * f i + g i) → rsum k n = x * rsum f n + rsum g n
  | 0, _ => by simp only [rsum]; grind
  | n + 1, h => by rw [rsum, rsum, rsum, rsum_lin n (fun i hi => h i (by omega)), h n (by omega)]; grind
theorem rsum_one {f : Nat → Rat} {r : Nat} : ∀ (n : Nat), r < n → (∀ i, i < n → i ≠ r → f i = 0) → rsum f n = f r
  | 0, h, _ => absurd h (Nat.not_lt_zero _)
  | n + 1, h, k => by
    rw [rsum]
    by_cases e : n = r
    · subst e
      rw [rsum_zero n (fun i hi => k i (by omega) (by omega))]; grind
    · rw [rsum_one n (by omega) (fun i hi => k i (by omega)), k n (by omega) e]; grind
theorem rsum_two {f : Nat → Rat} {r : Nat} : ∀ (n : Nat), r + 1 < n → (∀ i, i < n → i ≠ r → i ≠ r + 1 → f i = 0) → rsum f n = f r + f (r + 1)
  | 0, h, _ => absurd h (Nat.not_lt_zero _)
  | n + 1, h, k => by
    rw [rsum]
    by_cases e : n = r + 1
    · subst e
      rw [rsum_one (r := r) (r + 1) (by omega) (fun i hi h2 => k i (by omega) h2 (by omega))]
    · rw [rsum_two n (by omega) (fun i hi => k i (by omega)), k n (by omega) (by omega) e]; grind
theorem rdt_congr : ∀ (n : Nat) {A B : Nat → Nat → Rat}, (∀ r c, r < n → c < n → A r c = B r c) → rdt n A = rdt n B
  | 0, _, _, _ => rfl
  | n + 1, A, B, h => by
    rw [rdt, rdt]
    refine rsum_congr _ (fun i hi => ?_)
    rw [h i 0 hi (by omega), rdt_congr n (A := rmn A i) (B := rmn B i) (fun r c hr hc => ?_)]
    unfold rmn
    exact h _ _ (by split <;> omega) (by omega)
theorem rmn_up_self {A : Nat → Nat → Rat} {r : Nat} {v : Nat → Rat} : rmn (rup A r v) r = rmn A r := by
  funext i c
  unfold rmn rup
  split
  · rw [if_neg (by omega)]
  · rw [if_neg (by omega)]
theorem rmn_up_lt {A : Nat → Nat → Rat} {r i : Nat} {v : Nat → Rat} (h : r < i) : rmn (rup A r v) i = rup (rmn A i) r (fun c => v (c + 1)) := by
  funext j c
  unfold rmn rup
  by_cases e : j = r
  · subst e; rw [if_pos h, if_pos rfl, if_pos rfl]
  · rw [if_neg e, if_neg (by split <;> omega)]
theorem rmn_up_gt {A : Nat → Nat → Rat} {r i : Nat} {v : Nat → Rat} (h : i ≤ r) : rmn (rup A (r + 1) v) i = rup (rmn A i) r (fun c => v (c + 1)) := by
  funext j c
  unfold rmn rup
  by_cases e : j = r
  · subst e; rw [if_neg (show ¬ j < i by omega), if_pos rfl, if_pos rfl]
  · rw [if_neg e, if_neg (by split <;> omega)]
theorem rdt_lin : ∀ (n : Nat) (A : Nat → Nat → Rat) (r : Nat) (x : Rat) (u v : Nat → Rat), r < n → rdt n (rup A r (fun c => x * u c + v c)) = x * rdt n (rup A r u) + rdt n (rup A r v)
  | 0, _, _, _, _, _, h => absurd h (Nat.not_lt_zero _)
  | n + 1, A, r, x, u, v, h => by
    rw [rdt, rdt, rdt]
    refine rsum_lin _ (fun i hi => ?_)
    by_cases e : i = r
    · subst e
      rw [rmn_up_self, rmn_up_self, rmn_up_self]
      simp only [rup, if_true]
      grind
    · have a : ∀ w : Nat → Rat, rup A r w i 0 = A i 0 := fun w => by unfold rup; rw [if_neg e]
      rw [a, a, a]
      rcases Nat.lt_or_gt_of_ne e with q | q
      · obtain ⟨s, rfl⟩ : ∃ s, r = s + 1 := ⟨r - 1, by omega⟩
        rw [rmn_up_gt (by omega), rmn_up_gt (by omega), rmn_up_gt (by omega), rdt_lin n (rmn A i) s x (fun c => u (c + 1)) (fun c => v (c + 1)) (by omega)]
        grind
      · rw [rmn_up_lt q, rmn_up_lt q, rmn_up_lt q, rdt_lin n (rmn A i) r x (fun c => u (c + 1)) (fun c => v (c + 1)) (by omega)]
        grind
theorem rup_self {A : Nat → Nat → Rat} {r : Nat} : rup A r (A r) = A := by
  funext i
  unfold rup
  split
  · next e => rw [e]
  · rfl
theorem rdt_adj : ∀ (n : Nat) (A : Nat → Nat → Rat) (r : Nat), r + 1 < n → A r = A (r + 1) → rdt n A = 0
  | 0, _, _, h, _ => absurd h (Nat.not_lt_zero _)
  | n + 1, A, r, h, e => by
    rw [rdt, rsum_two (r := r) _ h (fun i hi h1 h2 => ?_)]
    · have : rmn A r = rmn A (r + 1) := by
        funext j c
        unfold rmn
        by_cases q : j = r
        · subst q
          rw [if_neg (by omega), if_pos (by omega), e]
        · by_cases q2 : j < r
          · rw [if_pos q2, if_pos (by omega)]
          · rw [if_neg q2, if_neg (by omega)]
      rw [this, e]
      have s : rsg (r + 1) = - rsg r := by
        unfold rsg
        by_cases q : r % 2 = 0
        · rw [if_pos q, if_neg (by omega)]
        · rw [if_neg q, if_pos (by omega)]; grind
      rw [s]
      grind
    · have z : rdt n (rmn A i) = 0 := by
        by_cases q : r + 1 < i
        · refine rdt_adj n _ r (by omega) ?_
          funext c
          unfold rmn
          rw [if_pos (by omega), if_pos q, e]
        · obtain ⟨s, rfl⟩ : ∃ s, r = s + 1 := ⟨r - 1, by omega⟩
          refine rdt_adj n _ s (by omega) ?_
          funext c
          unfold rmn
          rw [if_neg (by omega), if_neg (by omega), e]
      rw [z]; grind
theorem rdt_add {n : Nat} {A : Nat → Nat → Rat} {r : Nat} {u v : Nat → Rat} (h : r < n) : rdt n (rup A r (fun c => u c + v c)) = rdt n (rup A r u) + rdt n (rup A r v) := by
  have := rdt_lin n A r 1 u v h
  rw [show (fun c => u c + v c) = (fun c => 1 * u c + v c) from by funext c; grind, this]
  grind
theorem rup_comm {A : Nat → Nat → Rat} {r s : Nat} {u v : Nat → Rat} (h : r ≠ s) : rup (rup A r u) s v = rup (rup A s v) r u := by
  funext i
  unfold rup
  by_cases e : i = s
  · subst e; rw [if_pos rfl, if_neg (fun z => h z.symm), if_pos rfl]
  · rw [if_neg e, if_neg e]
theorem rdt_swap {n : Nat} {A : Nat → Nat → Rat} {r : Nat} {u v : Nat → Rat} (h : r + 1 < n) : rdt n (rup (rup A r u) (r + 1) v) = - rdt n (rup (rup A r v) (r + 1) u) := by
  have z : ∀ w : Nat → Rat, rdt n (rup (rup A r w) (r + 1) w) = 0 := fun w => by
    refine rdt_adj n _ r h ?_
    unfold rup
    rw [if_neg (by omega), if_pos rfl, if_pos rfl]
  have e1 := z (fun c => u c + v c)
  have e2 : ∀ w : Nat → Rat, rdt n (rup (rup A r (fun c => u c + v c)) (r + 1) w) = rdt n (rup (rup A r u) (r + 1) w) + rdt n (rup (rup A r v) (r + 1) w) := fun w => by
    rw [rup_comm (by omega), rdt_add (by omega), rup_comm (r := r) (s := r + 1) (by omega), rup_comm (r := r) (s := r + 1) (by omega)]
  rw [rdt_add h, e2, e2, z u, z v] at e1
  grind
theorem rdt_alt {n : Nat} : ∀ (k r : Nat) (A : Nat → Nat → Rat), r + k + 1 < n → A r = A (r + k + 1) → rdt n A = 0
  | 0, r, A, h, e => rdt_adj n A r h e
  | k + 1, r, A, h, e => by
    have e1 : A = rup (rup A (r + k + 1) (A (r + k + 1))) (r + k + 1 + 1) (A (r + k + 1 + 1)) := by
      rw [rup_self, rup_self]
    rw [e1, rdt_swap (by omega), rdt_alt k r _ (by omega) ?_]
    · grind
    · unfold rup
      rw [if_neg (by omega), if_neg (by omega), if_neg (by omega), if_pos rfl, e]
      rfl
theorem rdt_alt2 {n : Nat} {A : Nat → Nat → Rat} {r s : Nat} (hr : r < n) (hs : s < n) (hrs : r ≠ s) (e : A r = A s) : rdt n A = 0 := by
  rcases Nat.lt_or_gt_of_ne hrs with q | q
  · obtain ⟨k, rfl⟩ : ∃ k, s = r + k + 1 := ⟨s - r - 1, by omega⟩
    exact rdt_alt k r A hs e
  · obtain ⟨k, rfl⟩ : ∃ k, r = s + k + 1 := ⟨r - s - 1, by omega⟩
    exact rdt_alt k s A hr e.symm
theorem rdt_addrow {n : Nat} {A : Nat → Nat → Rat} {r s : Nat} {x : Rat} (hr : r < n) (hs : s < n) (hrs : r ≠ s) : rdt n (rup A r (fun c => x * A s c + A r c)) = rdt n A := by
  rw [rdt_lin n A r x (A s) (A r) hr, rup_self, rdt_alt2 (A := rup A r (A s)) hr hs hrs ?_]
  · grind
  · unfold rup
    rw [if_pos rfl, if_neg (fun z => hrs z.symm)]
theorem rdt_zrow {n : Nat} {A : Nat → Nat → Rat} {r : Nat} (hr : r < n) (e : ∀ c, A r c = 0) : rdt n A = 0 := by
  have h := rdt_add (A := A) (u := fun _ => 0) (v := fun _ => 0) hr
  have h2 : rup A r (fun _ => 0) = A := by
    have : (fun _ => 0 : Nat → Rat) = A r := by funext c; rw [e]
    rw [this, rup_self]
  rw [show (fun c => (fun _ => 0 : Nat → Rat) c + (fun _ => 0 : Nat → Rat) c) = (fun _ => 0) from by funext c; grind, h2] at h
  grind
theorem rdt_col {n : Nat} {A : Nat → Nat → Rat} (h : ∀ r, 1 ≤ r → r ≤ n → A r 0 = 0) : rdt (n + 1) A = A 0 0 * rdt n (fun r c => A (r + 1) (c + 1)) := by
  rw [rdt, rsum_one (r := 0) _ (by omega) (fun i hi h0 => ?_)]
  · have : rmn A 0 = fun r c => A (r + 1) (c + 1) := by
      funext r c
      unfold rmn
      rw [if_neg (by omega)]
    rw [this]
    unfold rsg
    grind
  · rw [h i (by omega) (by omega)]; grind
/-- the first k rows below the first one, with the multiples x r of the first one taken to them -/
def rel (A : Nat → Nat → Rat) (x : Nat → Rat) (k : Nat) : Nat → Nat → Rat := fun r => if 1 ≤ r ∧ r ≤ k then (fun c => x r * A 0 c + A r c) else A r
theorem rdt_rel {n : Nat} {A : Nat → Nat → Rat} {x : Nat → Rat} : ∀ (k : Nat), k ≤ n → rdt (n + 1) (rel A x k) = rdt (n + 1) A
  | 0, _ => by
    have : rel A x 0 = A := by
      funext r
      unfold rel
      rw [if_neg (by omega)]
    rw [this]
  | k + 1, h => by
    rw [← rdt_rel (A := A) (x := x) k (by omega), ← rdt_addrow (A := rel A x k) (r := k + 1) (s := 0) (x := x (k + 1)) (by omega) (by omega) (by omega)]
    congr 1
    funext r
    unfold rup rel
    by_cases e : r = k + 1
    · subst e
      rw [if_pos (by omega), if_pos rfl, if_neg (by omega), if_neg (by omega)]
    · rw [if_neg e]
      by_cases q : 1 ≤ r ∧ r ≤ k
      · rw [if_pos q, if_pos (by omega)]
      · rw [if_neg q, if_neg (by omega)]
theorem rdt_schur {n : Nat} {A : Nat → Nat → Rat} (h : A 0 0 ≠ 0) : rdt (n + 1) A = A 0 0 * rdt n (fun r c => A (r + 1) (c + 1) - A (r + 1) 0 * A 0 (c + 1) / A 0 0) := by
  rw [← rdt_rel (x := fun r => - A r 0 / A 0 0) n (Nat.le_refl n), rdt_col]
  · congr 1
    refine rdt_congr n (fun r c hr hc => ?_)
    unfold rel
    rw [if_pos (by omega)]
    grind
  · intro r h1 h2
    unfold rel
    rw [if_pos (by omega)]
    grind
theorem rdt_sum {n : Nat} {A : Nat → Nat → Rat} {r : Nat} (hr : r < n) {u : Nat → Nat → Rat} : ∀ (m : Nat), rdt n (rup A r (fun c => rsum (fun h => u h c) m)) = rsum (fun h => rdt n (rup A r (u h))) m
  | 0 => by
    simp only [rsum]
    refine rdt_zrow hr (fun c => ?_)
    unfold rup
    rw [if_pos rfl]
  | m + 1 => by
    simp only [rsum]
    rw [rdt_add (u := fun c => rsum (fun h => u h c) m) (v := u m) hr, rdt_sum hr m]
