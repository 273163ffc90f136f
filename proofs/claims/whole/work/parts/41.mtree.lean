/-! the matrix-tree theorem: a sum over head rows -/
def rfk (k : Nat) (f : Nat → Nat) : Nat → Nat → Rat := fun r c => (if c = r then 1 else 0) - (if k + c + 1 = f (k + r + 1) then 1 else 0)
/-- no word of k + 1 .. k + m comes back to itself through these -/
def ftr : Nat → Nat → (Nat → Nat) → Bool
  | 0, _, _ => true
  | m + 1, k, f => decide (f (k + 1) ≠ k + 1) && ftr m (k + 1) (fun d => if f d = k + 1 then f (k + 1) else f d)
theorem rdt_ftr : ∀ (m k : Nat) (f : Nat → Nat), rdt m (rfk k f) = if ftr m k f = true then 1 else 0
  | 0, _, _ => rfl
  | m + 1, k, f => by
    by_cases e : f (k + 1) = k + 1
    · have h1 : ftr (m + 1) k f = false := by simp [ftr, e]
      rw [h1, rdt_zrow (r := 0) (by omega)]
      · rfl
      · intro c
        unfold rfk
        rw [Nat.add_zero, e]
        by_cases q : c = 0
        · rw [if_pos q, if_pos (by omega)]; grind
        · rw [if_neg q, if_neg (by omega)]; grind
    · have h1 : ftr (m + 1) k f = ftr m (k + 1) (fun d => if f d = k + 1 then f (k + 1) else f d) := by simp [ftr, e]
      rw [h1, ← rdt_ftr m (k + 1), ← rdt_rel (x := fun r => if f (k + r + 1) = k + 1 then 1 else 0) m (Nat.le_refl m), rdt_col]
      · have a : rel (rfk k f) (fun r => if f (k + r + 1) = k + 1 then 1 else 0) m 0 0 = 1 := by
          unfold rel rfk
          rw [if_neg (by omega), if_pos rfl, if_neg (fun z => e z.symm)]
          grind
        rw [a, show ∀ x : Rat, 1 * x = x from fun x => by grind]
        refine rdt_congr m (fun r c hr hc => ?_)
        unfold rel rfk
        rw [if_pos (by omega)]
        dsimp only
        rw [show k + (r + 1) + 1 = k + 1 + r + 1 by omega, show k + (c + 1) + 1 = k + 1 + c + 1 by omega, show k + 0 + 1 = k + 1 by omega]
        by_cases q : f (k + 1 + r + 1) = k + 1
        · by_cases q2 : c = r
          · simp [q, q2]; grind
          · simp [q, q2]; grind
        · by_cases q2 : c = r
          · simp [q, q2]; grind
          · simp [q, q2]; grind
      · intro r h1 h2
        unfold rel rfk
        rw [if_pos (by omega)]
        dsimp only
        have e' : ¬ k + 1 = f (k + 1) := fun z => e z.symm
        have h0 : ¬ 0 = r := by omega
        by_cases q : f (k + r + 1) = k + 1
        · simp [q, h0, e']; grind
        · have q' : ¬ k + 1 = f (k + r + 1) := fun z => q z.symm
          simp [q, q', h0, e']; grind
/-- the words' matrix, of what is allowed -/
def rlp (al : Nat → Nat → Bool) (N : Nat) : Nat → Nat → Rat := fun r c => rsum (fun h => if al (r + 1) h = true then ((if c = r then 1 else 0) - (if c + 1 = h then 1 else 0)) else 0) (N + 1)
/-- over the heads of words d .. d + c - 1 -/
def tcn (P : (Nat → Nat) → Bool) (al : Nat → Nat → Bool) (N : Nat) : Nat → Nat → (Nat → Nat) → Rat
  | 0, _, f => if P f = true then 1 else 0
  | c + 1, d, f => rsum (fun h => if al d h = true then tcn P al N c (d + 1) (fun x => if x = d then h else f x) else 0) (N + 1)
def rmx (al : Nat → Nat → Bool) (N : Nat) (f : Nat → Nat) (k : Nat) : Nat → Nat → Rat := fun r => if r < k then rfk 0 f r else rlp al N r
theorem rdt_tcn {al : Nat → Nat → Bool} {N n : Nat} : ∀ (c k : Nat) (f : Nat → Nat), c + k = n → rdt n (rmx al N f k) = tcn (fun f => ftr n 0 f) al N c (k + 1) f
  | 0, k, f, h => by
    have e : rdt n (rmx al N f k) = rdt n (rfk 0 f) := rdt_congr n (fun r c hr hc => by unfold rmx; rw [if_pos (by omega)])
    rw [e, rdt_ftr]
    rfl
  | c + 1, k, f, h => by
    rw [tcn]
    have e : rmx al N f k = rup (rmx al N f k) k (fun c => rsum (fun h => (fun c => if al (k + 1) h = true then ((if c = k then 1 else 0) - (if c + 1 = h then 1 else 0)) else 0) c) (N + 1)) := by
      have : (fun c => rsum (fun h => (fun c => if al (k + 1) h = true then ((if c = k then (1 : Rat) else 0) - (if c + 1 = h then 1 else 0)) else 0) c) (N + 1)) = rmx al N f k k := by
        funext c
        unfold rmx rlp
        rw [if_neg (by omega)]
      rw [this, rup_self]
    rw [e, rdt_sum (u := fun h c => if al (k + 1) h = true then ((if c = k then 1 else 0) - (if c + 1 = h then 1 else 0)) else 0) (by omega)]
    refine rsum_congr _ (fun h hh => ?_)
    by_cases q : al (k + 1) h = true
    · rw [if_pos q, ← rdt_tcn c (k + 1) _ (by omega)]
      congr 1
      funext r
      unfold rup rmx
      by_cases q1 : r = k
      · subst q1
        rw [if_pos rfl, if_pos (by omega)]
        funext c
        unfold rfk
        simp only [q, if_true, Nat.zero_add]
      · rw [if_neg q1]
        by_cases q2 : r < k
        · rw [if_pos q2, if_pos (by omega)]
          funext c
          unfold rfk
          simp only [Nat.zero_add]
          rw [if_neg (show ¬ r + 1 = k + 1 by omega)]
        · rw [if_neg q2, if_neg (by omega)]
    · rw [if_neg q]
      refine rdt_zrow (r := k) (by omega) (fun c => ?_)
      unfold rup
      rw [if_pos rfl]
      simp only [q]
      rfl
theorem rdt_lap {al : Nat → Nat → Bool} {N n : Nat} (f : Nat → Nat) : rdt n (rlp al N) = tcn (fun f => ftr n 0 f) al N n 1 f := by
  rw [← rdt_tcn n 0 f (by omega)]
  congr 1
/-- no way for the first words: none for all -/
theorem ftr_pre : ∀ (p m k : Nat) (f : Nat → Nat), p ≤ m → ftr m k f = true → ftr p k f = true
  | 0, _, _, _, _, _ => rfl
  | p + 1, m, k, f, h, e => by
    obtain ⟨m', rfl⟩ : ∃ m', m = m' + 1 := ⟨m - 1, by omega⟩
    simp only [ftr, Bool.and_eq_true] at e ⊢
    exact ⟨e.1, ftr_pre p m' (k + 1) _ (by omega) e.2⟩
theorem ftr_congr : ∀ (m k : Nat) (f g : Nat → Nat), (∀ d, k < d → d ≤ k + m → f d = g d) → ftr m k f = ftr m k g
  | 0, _, _, _, _ => rfl
  | m + 1, k, f, g, h => by
    have h1 := h (k + 1) (by omega) (by omega)
    rw [ftr, ftr, h1, ftr_congr m (k + 1) _ (fun d => if g d = k + 1 then g (k + 1) else g d)]
    intro d hd hd2
    rw [h d (by omega) (by omega)]
theorem rsum_pos {f : Nat → Rat} : ∀ (n : Nat), (∀ i, i < n → 0 ≤ f i) → 0 ≤ rsum f n
  | 0, _ => by simp only [rsum]; grind
  | n + 1, h => by
    rw [rsum]
    have := rsum_pos n (fun i hi => h i (by omega))
    have := h n (by omega)
    grind
theorem rsum_pos0 {f : Nat → Rat} : ∀ (n : Nat), (∀ i, i < n → 0 ≤ f i) → rsum f n = 0 → ∀ i, i < n → f i = 0
  | 0, _, _, i, hi => absurd hi (Nat.not_lt_zero _)
  | n + 1, h, e, i, hi => by
    rw [rsum] at e
    have h1 := rsum_pos n (fun i hi => h i (by omega))
    have h2 := h n (by omega)
    by_cases q : i = n
    · subst q; grind
    · exact rsum_pos0 n (fun i hi => h i (by omega)) (by grind) i (by omega)
theorem tcn_pos {P : (Nat → Nat) → Bool} {al : Nat → Nat → Bool} {N : Nat} : ∀ (c d : Nat) (f : Nat → Nat), 0 ≤ tcn P al N c d f
  | 0, d, f => by
    unfold tcn
    split <;> grind
  | c + 1, d, f => by
    unfold tcn
    refine rsum_pos _ (fun i hi => ?_)
    split
    · exact tcn_pos c _ _
    · grind
theorem tcn_zero {P : (Nat → Nat) → Bool} {al : Nat → Nat → Bool} {N : Nat} : ∀ (c d : Nat) (f : Nat → Nat), (∀ g, (∀ x, x < d → g x = f x) → P g = false) → tcn P al N c d f = 0
  | 0, d, f, h => by
    unfold tcn
    rw [h f (fun _ _ => rfl)]
    rfl
  | c + 1, d, f, h => by
    unfold tcn
    refine rsum_zero _ (fun i hi => ?_)
    split
    · refine tcn_zero c _ _ (fun g hg => h g (fun x hx => ?_))
      rw [hg x (by omega), if_neg (by omega)]
    · rfl
theorem tcn_none {al : Nat → Nat → Bool} {N p n : Nat} (hp : p ≤ n) : ∀ (c d : Nat) (f : Nat → Nat), c + d = p + 1 → tcn (fun f => ftr p 0 f) al N c d f = 0 → tcn (fun f => ftr n 0 f) al N (c + (n - p)) d f = 0
  | 0, d, f, h, e => by
    unfold tcn at e
    have e1 : ftr p 0 f = false := by
      cases q : ftr p 0 f
      · rfl
      · rw [q] at e; simp at e
    refine tcn_zero _ _ _ (fun g hg => ?_)
    cases q : ftr n 0 g
    · rfl
    · have := ftr_pre p n 0 g hp q
      rw [ftr_congr p 0 g f (fun x h1 h2 => hg x (by omega)), e1] at this
      exact this.symm
  | c + 1, d, f, h, e => by
    rw [show c + 1 + (n - p) = c + (n - p) + 1 by omega]
    unfold tcn at e ⊢
    refine rsum_zero _ (fun i hi => ?_)
    have := rsum_pos0 _ (fun i hi => ?_) e i hi
    · split
      · next q =>
        rw [if_pos q] at this
        exact tcn_none hp c _ _ (by omega) this
      · rfl
    · split
      · exact tcn_pos c _ _
      · grind
