/-! first facts for running my machine by simp -/
theorem zw_1 (h : zH) (a : Nat) (x : zA) : (zw h a x).1 = h.1 := rfl
theorem zw_21 (h : zH) (a : Nat) (x : zA) : (zw h a x).2.1 = h.2.1 := rfl
theorem zw_at (h : zH) (a : Nat) (x : zA) (b : Nat) : (zw h a x).2.2 b = if b = a then x else h.2.2 b := rfl
theorem zin_nI {k n : Nat} (hk : k < 2 ^ 31) : zin (nI k) n = decide (k < n) := by
  unfold zin
  rw [nI_clamp hk]
  simp [nI_pos hk]
theorem zin8 {k n : Nat} (hk : k < n) (hn : n < 2 ^ 31) : zin (nI k) n = true := by
  rw [zin_nI (by omega)]
  exact decide_eq_true hk
theorem zcl7 {k : Nat} (hk : k < 1000000) : (nI k).toNatClampNeg = k := nI_clamp (by omega)
theorem zeq {a b : Nat} (ha : a < 1000000) (hb : b < 1000000) : (nI a = nI b) ↔ a = b := nI_eq (by omega) (by omega)
theorem zle {a b : Nat} (ha : a < 1000000) (hb : b < 1000000) : (nI a ≤ nI b) ↔ a ≤ b := nI_leI (by omega) (by omega)
theorem zlt {a b : Nat} (ha : a < 1000000) (hb : b < 1000000) : (nI a < nI b) ↔ a < b := nI_ltI (by omega) (by omega)
theorem znI (n : Nat) : (OfNat.ofNat n : Int32) = nI n := rfl
theorem nI_lit1 : (1 : Int32) = nI 1 := rfl
/-- a number that came in: below, above, or one of these -/
theorem zrange (d : Int32) (lo hi : Nat) (hl : lo < 1000000) (hh : hi < 1000000) : d < nI lo ∨ nI hi < d ∨ ∃ k, lo ≤ k ∧ k ≤ hi ∧ d = nI k := by
  rcases Int32.lt_or_le d (nI lo) with q | q
  · exact Or.inl q
  · rcases Int32.lt_or_le (nI hi) d with r | r
    · exact Or.inr (Or.inl r)
    · right; right
      have h0 : ¬ d < 0 := by
        intro z
        have h1 : (0 : Int32) ≤ nI lo := nI_pos' (by omega)
        have := Int32.le_trans h1 q
        exact absurd z (Int32.not_lt.mpr this)
      obtain ⟨j, hj, rfl⟩ := nI_of h0
      have h2 := (nI_leI (by omega) hj).mp q
      have h3 := (nI_leI hj (by omega)).mp r
      exact ⟨j, h2, h3, rfl⟩
def zit (f : Nat → Nat) : Nat → Nat → Nat
  | 0, x => x
  | k + 1, x => zit f k (f x)
/-- the places above, as bits: steps left, where one stands, what was found -/
def zpm (f : Nat → Nat) : Nat → Nat → Nat → Nat
  | 0, _, m => m
  | s + 1, x, m => if f x = 0 then m ||| 1 else zpm f s (f x) (m ||| 2 ^ (f x))
theorem zor8 : ∀ m, m < 256 → ∀ x, x < 8 → (nI m ||| ((1 : Int32) <<< (nI x &&& 31))) = nI (m ||| 2 ^ x) ∧ m ||| 2 ^ x < 256 := by decide +kernel
theorem zshr8 : ∀ m, m < 256 → ∀ x, x < 8 → (((nI m >>> (nI x &&& 31)) &&& 1) = 0 ↔ m.testBit x = false) := by decide +kernel
theorem zclr_int (x : Int32) : zclr (some (.int x)) = some (.int x) := rfl
theorem zclr_ref (x : Nat) : zclr (some (.ref x)) = some (.ref x) := rfl
theorem zclr_null : zclr (some .null) = some .null := rfl
theorem zclr_none : zclr none = none := rfl
theorem zclr_long (x : Int64) : zclr (some (.long x)) = none := rfl
theorem zclr_clr (o : Option Value) : zclr (zclr o) = zclr o := by
  cases o with
  | none => rfl
  | some v => cases v <;> rfl
theorem zpm_lt (f : Nat → Nat) (hf : ∀ d, f d ≤ 7) : ∀ (s x m : Nat), m < 256 → zpm f s x m < 256
  | 0, _, m, hm => hm
  | s + 1, x, m, hm => by
    unfold zpm
    split
    · exact (zor8 m hm 0 (by omega)).2
    · exact zpm_lt f hf s (f x) _ (zor8 m hm (f x) (by have := hf x; omega)).2
/-- is a above b? -/
def zab (f : Nat → Nat) (N a b : Nat) : Bool := (zpm f N b 0).testBit a
/-- for c numbers from d on -/
def zall (P : Nat → Bool) : Nat → Nat → Bool
  | 0, _ => true
  | c + 1, d => P d && zall P c (d + 1)
def zcnt (P : Nat → Bool) : Nat → Nat → Nat
  | 0, _ => 0
  | c + 1, d => (if P d = true then 1 else 0) + zcnt P c (d + 1)
def zfst (P : Nat → Bool) (e : Nat) : Nat → Nat → Nat
  | 0, _ => e
  | c + 1, d => if P d = true then d else zfst P e c (d + 1)
/-- the last one of c numbers up to d -/
def zlst (P : Nat → Bool) (e : Nat) : Nat → Nat → Nat
  | 0, _ => e
  | c + 1, d => if P d = true then d else zlst P e c (d - 1)
theorem zall_iff {P : Nat → Bool} : ∀ {c d : Nat}, zall P c d = true ↔ ∀ k, d ≤ k → k < d + c → P k = true
  | 0, d => by simp [zall]; omega
  | c + 1, d => by
    simp only [zall, Bool.and_eq_true, zall_iff (c := c)]
    constructor
    · rintro ⟨h1, h2⟩ k h3 h4
      by_cases e : k = d
      · subst e; exact h1
      · exact h2 k (by omega) (by omega)
    · intro h
      exact ⟨h d (by omega) (by omega), fun k h3 h4 => h k (by omega) (by omega)⟩
theorem zcnt_le {P : Nat → Bool} : ∀ {c d : Nat}, zcnt P c d ≤ c
  | 0, _ => Nat.le_refl 0
  | c + 1, d => by
    have := zcnt_le (P := P) (c := c) (d := d + 1)
    unfold zcnt
    split <;> omega
def zpop (m : Nat) : Nat := zcnt (fun i => m.testBit i) 8 0
def zupd (f : Nat → Nat) (k v : Nat) : Nat → Nat := fun j => if j = k then v else f j
theorem z_updN (f : Nat → Nat) (k v : Nat) : upd (fun d => nI (f d)) k (nI v) = fun d => nI (zupd f k v d) := by
  funext j
  unfold upd zupd
  split <;> rfl
theorem zb01 {P : Prop} [Decidable P] : ((if P then (1 : Int32) else 0) = 0) ↔ ¬ P := by
  by_cases h : P <;> simp [h]
theorem zw_w (h : zH) (a : Nat) (x y : zA) : zw (zw h a x) a y = zw h a y := by
  unfold zw zup
  congr 2
  funext j
  by_cases e : j = a <;> simp [e]
theorem zw_sw (h : zH) {a b : Nat} (x y z : zA) (hab : a ≠ b) : zw (zw (zw h a x) b y) a z = zw (zw h a z) b y := by
  unfold zw zup
  congr 2
  funext j
  by_cases e : j = a
  · subst e; simp [hab]
  · simp [e]
theorem zw_com (h : zH) {a b : Nat} (x y : zA) (hab : a ≠ b) : zw (zw h a x) b y = zw (zw h b y) a x := by
  unfold zw zup
  congr 2
  funext j
  by_cases e : j = a
  · subst e; simp [hab]
  · simp [e]
theorem zw_id (h : zH) {a : Nat} {x : zA} (e : h.2.2 a = x) : zw h a x = h := by
  obtain ⟨h1, h2, h3⟩ := h
  unfold zw zup
  congr 2
  funext j
  by_cases hj : j = a
  · subst hj; simp; exact e.symm
  · simp [hj]
