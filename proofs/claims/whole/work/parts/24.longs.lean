/-! rows pasted from the kit's laws (COUNTS, BITS) -/
theorem fb_rng (x : Int32) : -2147483648 ≤ x.toInt ∧ x.toInt < 2147483648 := by
  have h1 := Int32.le_toInt x
  have h2 := Int32.toInt_lt x
  omega
theorem fb_bmod {z : Int} (h1 : -2147483648 ≤ z) (h2 : z < 2147483648) : z.bmod (2 ^ 32) = z := by
  rw [Int.bmod_eq_of_le (by omega) (by omega)]
theorem fb_addI {x y : Int32} (h1 : -2147483648 ≤ x.toInt + y.toInt) (h2 : x.toInt + y.toInt < 2147483648) : (x + y).toInt = x.toInt + y.toInt := by
  rw [Int32.toInt_add, fb_bmod h1 h2]
theorem fb_subI {x y : Int32} (h1 : -2147483648 ≤ x.toInt - y.toInt) (h2 : x.toInt - y.toInt < 2147483648) : (x - y).toInt = x.toInt - y.toInt := by
  rw [Int32.toInt_sub, fb_bmod h1 h2]
theorem fb_mulI {x y : Int32} (h1 : -2147483648 ≤ x.toInt * y.toInt) (h2 : x.toInt * y.toInt < 2147483648) : (x * y).toInt = x.toInt * y.toInt := by
  rw [Int32.toInt_mul, fb_bmod h1 h2]
theorem fb_negI {x : Int32} (h : x.toInt ≠ -2147483648) : (-x).toInt = -x.toInt := by
  have := fb_rng x
  rw [Int32.toInt_neg, fb_bmod (by omega) (by omega)]
theorem fb_ofI {z : Int} (h1 : -2147483648 ≤ z) (h2 : z < 2147483648) : (Int32.ofInt z).toInt = z := by
  rw [Int32.toInt_ofInt, fb_bmod h1 h2]
theorem fb_asI (x : Int32) : Int32.ofInt x.toInt = x := Int32.ofInt_toInt x
theorem fb_rngL (x : Int64) : -9223372036854775808 ≤ x.toInt ∧ x.toInt < 9223372036854775808 := by
  have h1 := Int64.le_toInt x
  have h2 := Int64.toInt_lt x
  omega
theorem fb_bmodL {z : Int} (h1 : -9223372036854775808 ≤ z) (h2 : z < 9223372036854775808) : z.bmod (2 ^ 64) = z := by
  rw [Int.bmod_eq_of_le (by omega) (by omega)]
theorem fb_addL {x y : Int64} (h1 : -9223372036854775808 ≤ x.toInt + y.toInt) (h2 : x.toInt + y.toInt < 9223372036854775808) : (x + y).toInt = x.toInt + y.toInt := by
  rw [Int64.toInt_add, fb_bmodL h1 h2]
theorem fb_subL {x y : Int64} (h1 : -9223372036854775808 ≤ x.toInt - y.toInt) (h2 : x.toInt - y.toInt < 9223372036854775808) : (x - y).toInt = x.toInt - y.toInt := by
  rw [Int64.toInt_sub, fb_bmodL h1 h2]
theorem fb_mulL {x y : Int64} (h1 : -9223372036854775808 ≤ x.toInt * y.toInt) (h2 : x.toInt * y.toInt < 9223372036854775808) : (x * y).toInt = x.toInt * y.toInt := by
  rw [Int64.toInt_mul, fb_bmodL h1 h2]
theorem wb_tb (n : Nat) : (lN n).toBitVec = BitVec.ofNat 64 n := rfl
theorem wb_c : ∀ k, k < 64 → ((nI k).toInt64 &&& 63) = lN k := by decide +kernel
theorem wb_sm : ∀ k, k < 64 → (BitVec.ofNat 64 k).smod 64 = BitVec.ofNat 64 k := by decide +kernel
/-! longs as whole numbers -/
def lZ (z : Int) : Int64 := Int64.ofInt z
theorem lZ_bv (z : Int) : (lZ z).toBitVec = BitVec.ofInt 64 z := rfl
theorem lZ_inj {a b : Int64} (h : a.toBitVec = b.toBitVec) : a = b := Int64.toBitVec_inj.mp h
theorem lZ_add (a b : Int) : lZ a + lZ b = lZ (a + b) := (Int64.ofInt_add a b).symm
theorem lZ_sub (a b : Int) : lZ a - lZ b = lZ (a - b) := (Int64.ofInt_sub a b).symm
theorem lZ_neg (a : Int) : -lZ a = lZ (-a) := (Int64.ofInt_neg a).symm
theorem lZ_mul (a b : Int) : lZ a * lZ b = lZ (a * b) := (Int64.ofInt_mul a b).symm
theorem lZ_toInt {a : Int} (h1 : -9223372036854775808 ≤ a) (h2 : a < 9223372036854775808) : (lZ a).toInt = a := by
  unfold lZ
  rw [Int64.toInt_ofInt, fb_bmodL h1 h2]
theorem lZ_lt {a b : Int} (h1 : -9223372036854775808 ≤ a) (h2 : a < 9223372036854775808) (h3 : -9223372036854775808 ≤ b) (h4 : b < 9223372036854775808) : lZ a < lZ b ↔ a < b := by
  rw [Int64.lt_iff_toInt_lt, lZ_toInt h1 h2, lZ_toInt h3 h4]
theorem lZ_eq {a b : Int} (h1 : -9223372036854775808 ≤ a) (h2 : a < 9223372036854775808) (h3 : -9223372036854775808 ≤ b) (h4 : b < 9223372036854775808) : lZ a = lZ b ↔ a = b := by
  rw [← Int64.toInt_inj, lZ_toInt h1 h2, lZ_toInt h3 h4]
theorem lZ_of32 (x : Int32) : x.toInt64 = lZ x.toInt := by
  apply Int64.toInt_inj.mp
  have := fb_rng x
  rw [Int32.toInt_toInt64, lZ_toInt (by omega) (by omega)]
theorem lZ_nI {n : Nat} (h : n < 2 ^ 31) : (nI n).toInt64 = lZ n := by rw [lZ_of32, nI_toInt h]
theorem lZ_shl (z : Int) {k : Nat} (hk : k < 64) : lZ z <<< ((nI k).toInt64 &&& 63) = lZ (z * 2 ^ k) := by
  rw [wb_c k hk]
  apply lZ_inj
  rw [Int64.toBitVec_shiftLeft, lZ_bv, lZ_bv, wb_tb, wb_sm k hk, BitVec.shiftLeft_eq', BitVec.toNat_ofNat, Nat.mod_eq_of_lt (show k < 2 ^ 64 by omega), BitVec.shiftLeft_eq_mul_twoPow, BitVec.ofInt_mul]
  congr 1
  apply BitVec.eq_of_toNat_eq
  rw [BitVec.toNat_twoPow, BitVec.toNat_ofInt]
  have : ((2 : Int) ^ k) = ((2 ^ k : Nat) : Int) := by simp
  rw [this]
  norm_cast
theorem lZ_shr {z : Int} {k : Nat} (hk : k < 64) (h1 : -4611686018427387904 ≤ z) (h2 : z < 4611686018427387904) : lZ z >>> ((nI k).toInt64 &&& 63) = lZ (z / 2 ^ k) := by
  rw [wb_c k hk]
  apply Int64.toInt_inj.mp
  have e : (lZ z >>> lN k).toInt = (lZ z).toInt >>> k := by
    have hD : ((lN k).toBitVec.smod 64).toNat = k := by rw [wb_tb, wb_sm k hk, BitVec.toNat_ofNat, Nat.mod_eq_of_lt (show k < 2 ^ 64 by omega)]
    conv => rhs; rw [← hD]
    exact BitVec.toInt_sshiftRight ..
  have hp : (0 : Int) < 2 ^ k := Int.pow_pos (by decide)
  have b1 : z / 2 ^ k < 9223372036854775808 := by
    apply Int.ediv_lt_of_lt_mul hp
    have h3 : (1 : Int) ≤ 2 ^ k := hp
    have h4 : (9223372036854775808 : Int) * 1 ≤ 9223372036854775808 * 2 ^ k := Int.mul_le_mul_of_nonneg_left h3 (by decide)
    omega
  have b2 : -9223372036854775808 ≤ z / 2 ^ k := by
    apply Int.le_ediv_of_mul_le hp
    have h3 : (1 : Int) ≤ 2 ^ k := hp
    have h4 : (9223372036854775808 : Int) * 1 ≤ 9223372036854775808 * 2 ^ k := Int.mul_le_mul_of_nonneg_left h3 (by decide)
    have h5 : (-9223372036854775808 : Int) * 2 ^ k = -(9223372036854775808 * 2 ^ k) := Int.neg_mul _ _
    omega
  have e9 : ((2 ^ k : Nat) : Int) = 2 ^ k := by simp
  rw [e, Int.shiftRight_eq_div_pow, lZ_toInt (by omega) (by omega), lZ_toInt b2 b1, e9]
/-! Keys -/
section KEYS
variable {h : zH}
/-- an arc's key, as a number -/
def zka (w : Int) (p d : Nat) : Int := w * 2097152 - (p : Int) * 2 ^ (3 * (7 - d))
theorem s_ofArc {w : Int32} {p d : Nat} (hp : p ≤ 7) (hd7 : d ≤ 7) : zC 54 [.int w, .int (nI p), .int (nI d)] h = some (some (.long (lZ (zka w.toInt p d))), h) := by
  have e1 := s_shiftOf (h := h) hd7
  have e2 : w.toInt64 <<< ((21 : Int32).toInt64 &&& 63) = lZ (w.toInt * 2 ^ 21) := by
    rw [lZ_of32]; exact lZ_shl _ (k := 21) (by omega)
  have e3 : (nI p).toInt64 <<< ((nI (3 * (7 - d))).toInt64 &&& 63) = lZ ((p : Int) * 2 ^ (3 * (7 - d))) := by
    rw [lZ_nI (by omega)]; exact lZ_shl _ (by omega)
  simp only [I_X4_ofArc, E_X4_ofArc, e2]
  simp [E_X4_ofArc, e1, zfok, zfv, zfs', ziok, ziv, zpok, zis', zlok, zlv', zls', zbok, zrok, zrv', zrs', zaok, zan, zcok, zcs', zis, zgv, zgh, zcat, zw_1, zw_21, zw_at, zclr_int, zclr_ref, zclr_null, zclr_none, zclr_long, zclr_clr, zbv_0, zbv_1, zbv_ite, zbv_ite', Value.category, e3]
  rw [lZ_sub]
  rfl
theorem s_sumIn {z : Int} (h1 : -2305843009213693952 ≤ z) (h2 : z < 2305843009213693952) : zC 10 [.long (lZ z)] h = some (some (.int (Int32.ofInt (-(-z / 2097152)))), h) := by
  have e1 : lZ (-z) >>> ((21 : Int32).toInt64 &&& 63) = lZ (-z / 2 ^ 21) := lZ_shr (k := 21) (by omega) (by omega) (by omega)
  have b1 : -z / 2097152 < 9223372036854775808 := by omega
  have b2 : -9223372036854775808 ≤ -z / 2097152 := by omega
  have e2 : (lZ (-(-z / 2097152))).toInt32 = Int32.ofInt (-(-z / 2097152)) := by
    apply Int32.toInt_inj.mp
    rw [Int64.toInt_toInt32, lZ_toInt (by omega) (by omega), Int32.toInt_ofInt]
  simp only [I_X4_sumIn, E_X4_sumIn, lZ_neg, e1]
  have e3 : (2 : Int) ^ 21 = 2097152 := by decide
  rw [e3, e2]
theorem s_headIn {z : Int} {d : Nat} (hd7 : d ≤ 7) (h1 : -2305843009213693952 ≤ z) (h2 : z < 2305843009213693952) : zC 55 [.long (lZ z), .int (nI d)] h = some (some (.int (nI ((-z / 2 ^ (3 * (7 - d))) % 8).toNat)), h) := by
  have e1 := s_shiftOf (h := h) hd7
  have e2 : lZ (-z) >>> ((nI (3 * (7 - d))).toInt64 &&& 63) = lZ (-z / 2 ^ (3 * (7 - d))) := lZ_shr (by omega) (by omega) (by omega)
  have e3 : ∀ y : Int, (lZ y).toInt32 &&& 7 = nI (y % 8).toNat := by
    intro y
    have h7 : (7 : Int32).toBitVec.toNat = 2 ^ 3 - 1 := by decide
    rw [pk_and _ 3 h7]
    congr 1
    have h8 : (lZ y).toInt32.toInt = ((y.bmod (2 ^ 64)).bmod (2 ^ 32)) := by
      unfold lZ
      rw [Int64.toInt_toInt32, Int64.toInt_ofInt]
    have h9 : (lZ y).toInt32.toInt = if 2 * (lZ y).toInt32.toBitVec.toNat < 2 ^ 32 then ((lZ y).toInt32.toBitVec.toNat : Int) else ((lZ y).toInt32.toBitVec.toNat : Int) - ((2 ^ 32 : Nat) : Int) := BitVec.toInt_eq_toNat_cond _
    have h10 : (lZ y).toInt32.toBitVec.toNat < 2 ^ 32 := (lZ y).toInt32.toBitVec.isLt
    generalize (lZ y).toInt32.toBitVec.toNat = a at h9 h10 ⊢
    rw [h8] at h9
    simp only [Int.bmod_def] at h9
    split at h9 <;> split at h9 <;> split at h9 <;> omega
  simp [I_X4_headIn, E_X4_headIn, lZ_neg, e1, zfok, zfv, zfs', ziok, ziv, zpok, zis', zlok, zlv', zls', zbok, zrok, zrv', zrs', zaok, zan, zcok, zcs', zis, zgv, zgh, zcat, zw_1, zw_21, zw_at, zclr_int, zclr_ref, zclr_null, zclr_none, zclr_long, zclr_clr, zbv_0, zbv_1, zbv_ite, zbv_ite', Value.category, e2, e3]
end KEYS
