/-! the two objects: the first world -/
section START
variable (L : Nat) (xs : Nat → Int32)
def yg1 : zH := znew (zh0 L xs) 7 (.inr (8, [.null, .null, .null, .null, .null, .null, .null]))
def yg2 : zH := zw (xH (yg1 L xs) 1 (fun d => nI (ztg0 d)) Z0) 1 (.inr (8, [.ref 2, .null, .null, .null, .null, .null, .null]))
def yg3 : zH := zw (xI2 (yg2 L xs)) 1 (.inr (8, [.ref 2, .ref 5, .null, .null, .null, .null, .null]))
def yg4 : zH := xrw (yg3 L xs) 128
def yg5 : zH := zw (xI0 (yg4 L xs) 8) 1 (.inr (8, [.ref 2, .ref 5, .ref 265, .null, .null, .null, .null]))
def yg6 : zH := zw (xI6 (yg5 L xs) 8) 1 (.inr (8, [.ref 2, .ref 5, .ref 265, .ref 267, .null, .null, .null]))
def yg7 : zH := zw (xI1 (yg6 L xs)) 1 (.inr (8, [.ref 2, .ref 5, .ref 265, .ref 267, .ref 270, .null, .null]))
def yg8 : zH := zw (xI7 (yg7 L xs)) 1 (.inr (8, [.ref 2, .ref 5, .ref 265, .ref 267, .ref 270, .ref 272, .null]))
def yg9 : zH := zw (xI5 (yg8 L xs)) 1 (.inr (8, [.ref 2, .ref 5, .ref 265, .ref 267, .ref 270, .ref 272, .ref 275]))
def yg10 : zH := xIM (yg9 L xs)
theorem yg1_1 : (yg1 L xs).1 = 2 := rfl
theorem yg2_1 : (yg2 L xs).1 = 5 := rfl
theorem yg3_1 : (yg3 L xs).1 = 8 := rfl
theorem yg4_1 : (yg4 L xs).1 = 265 := rfl
theorem yg5_1 : (yg5 L xs).1 = 267 := rfl
theorem yg6_1 : (yg6 L xs).1 = 270 := rfl
theorem yg7_1 : (yg7 L xs).1 = 272 := rfl
theorem yg8_1 : (yg8 L xs).1 = 275 := rfl
theorem yg9_1 : (yg9 L xs).1 = 283 := rfl
theorem y_init9 : zC 153 [.ref 1] (yg1 L xs) = some (none, yg9 L xs) := by
  have a1 := s_dinit (h := yg1 L xs)
  have a2 := s_xI2 (h := yg2 L xs)
  have a3 := s_rows (yg3_1 L xs)
  have a4 := s_xI0 (h := yg4 L xs) (r := 8)
  have a5 := s_xI6 (h := yg5 L xs) (r := 8)
  have a6 := s_xI1 (h := yg6 L xs)
  have a7 := s_xI7 (h := yg7 L xs)
  have a8 := s_xI5 (h := yg8 L xs)
  rw [yg1_1] at a1
  rw [yg2_1] at a2
  rw [yg4_1] at a4
  rw [yg5_1] at a5
  rw [yg6_1] at a6
  rw [yg7_1] at a7
  rw [yg8_1] at a8
  have c1 : (xH (yg1 L xs) 1 (fun d => nI (ztg0 d)) Z0).2.2 1 = .inr (8, [.null, .null, .null, .null, .null, .null, .null]) := rfl
  have c2 : (xI2 (yg2 L xs)).2.2 1 = .inr (8, [.ref 2, .null, .null, .null, .null, .null, .null]) := rfl
  have c4 : (xI0 (yg4 L xs) 8).2.2 1 = .inr (8, [.ref 2, .ref 5, .null, .null, .null, .null, .null]) := rfl
  have c5 : (xI6 (yg5 L xs) 8).2.2 1 = .inr (8, [.ref 2, .ref 5, .ref 265, .null, .null, .null, .null]) := rfl
  have c6 : (xI1 (yg6 L xs)).2.2 1 = .inr (8, [.ref 2, .ref 5, .ref 265, .ref 267, .null, .null, .null]) := rfl
  have c7 : (xI7 (yg7 L xs)).2.2 1 = .inr (8, [.ref 2, .ref 5, .ref 265, .ref 267, .ref 270, .null, .null]) := rfl
  have c8 : (xI5 (yg8 L xs)).2.2 1 = .inr (8, [.ref 2, .ref 5, .ref 265, .ref 267, .ref 270, .ref 272, .null]) := rfl
  have d2 : zw (xH (yg1 L xs) 1 (fun d => nI (ztg0 d)) Z0) 1 (.inr (8, [.ref 2, .null, .null, .null, .null, .null, .null])) = yg2 L xs := rfl
  have d3 : zw (xI2 (yg2 L xs)) 1 (.inr (8, [.ref 2, .ref 5, .null, .null, .null, .null, .null])) = yg3 L xs := rfl
  have d4 : xrw (yg3 L xs) 128 = yg4 L xs := rfl
  have d5 : zw (xI0 (yg4 L xs) 8) 1 (.inr (8, [.ref 2, .ref 5, .ref 265, .null, .null, .null, .null])) = yg5 L xs := rfl
  have d6 : zw (xI6 (yg5 L xs) 8) 1 (.inr (8, [.ref 2, .ref 5, .ref 265, .ref 267, .null, .null, .null])) = yg6 L xs := rfl
  have d7 : zw (xI1 (yg6 L xs)) 1 (.inr (8, [.ref 2, .ref 5, .ref 265, .ref 267, .ref 270, .null, .null])) = yg7 L xs := rfl
  have d8 : zw (xI7 (yg7 L xs)) 1 (.inr (8, [.ref 2, .ref 5, .ref 265, .ref 267, .ref 270, .ref 272, .null])) = yg8 L xs := rfl
  have d9 : zw (xI5 (yg8 L xs)) 1 (.inr (8, [.ref 2, .ref 5, .ref 265, .ref 267, .ref 270, .ref 272, .ref 275])) = yg9 L xs := rfl
  rw [d4] at a3
  simp [I_X9_init, E_X9_init, zfok, zfv, zfs', ziok, ziv, zpok, zis', zlok, zlv', zls', zbok, zrok, zrv', zrs', zaok, zan, zcok, zcs', zis, zgv, zgh, zcat, zw_1, zw_21, zw_at, zclr_int, zclr_ref, zclr_null, zclr_none, zclr_long, zclr_clr, zbv_0, zbv_1, zbv_ite, zbv_ite', Value.category, yg1_1, yg2_1, yg3_1, yg4_1, yg5_1, yg6_1, yg7_1, yg8_1, a1, a2, a3, a4, a5, a6, a7, a8, c1, c2, c4, c5, c6, c7, c8, d2, d3, d5, d6, d7, d8, d9]
def yC : xC := xC.mk 1 (fun d => nI (ztg0 d)) Z0 (fun _ => 0) (fun _ => 0) xR0 (fun _ => 0) (fun _ => 0) (fun _ => 0) 0 (fun _ => none) (fun _ => 0) (fun _ => 0) 0 (fun _ => 0) (fun _ => 0) (fun _ => 0) (fun _ => 0) (fun _ => 0) (fun _ => 0) (fun _ => 0) 0 0 0 (fun _ => (0, (fun _ => 0), (fun _ => 0)))
def yM : xM := xM.mk 1 (fun _ => 0) (fun _ => 0) (fun _ => 0) (fun _ => 0) 0 (fun _ => 0) (fun _ => 0) (fun _ => 0) (fun _ => 0) 0 (fun _ => 0) (fun _ => 0) (fun _ => 0) (fun _ => 0) 0 (fun _ => 0) (fun _ => 0) (fun _ => 0) (fun _ => 0) (fun _ => 0) (fun _ => 0) 0 (fun _ => 0) 0
theorem y_world : yg10 L xs = xW L xs 6324 yC yM := by
  refine Prod.ext rfl (Prod.ext rfl (funext fun a => ?_))
  have out : ∀ a, 9 ≤ a → (a < 265 ∨ 303 ≤ a) → (yg10 L xs).2.2 a = (yg4 L xs).2.2 a := by
    intro a h1 h2
    have n1 : ¬ a = 1 := by omega
    rw [show yg10 L xs = xIM (yg9 L xs) from rfl, xIM_o (by rw [yg9_1]; omega)]
    rw [show yg9 L xs = zw (xI5 (yg8 L xs)) 1 _ from rfl, zw_at, if_neg n1, xI5_o (by rw [yg8_1]; omega)]
    rw [show yg8 L xs = zw (xI7 (yg7 L xs)) 1 _ from rfl, zw_at, if_neg n1, xI7_o (by rw [yg7_1]; omega)]
    rw [show yg7 L xs = zw (xI1 (yg6 L xs)) 1 _ from rfl, zw_at, if_neg n1, xI1_o (by rw [yg6_1]; omega)]
    rw [show yg6 L xs = zw (xI6 (yg5 L xs) 8) 1 _ from rfl, zw_at, if_neg n1, xI6_o (by rw [yg5_1]; omega)]
    rw [show yg5 L xs = zw (xI0 (yg4 L xs) 8) 1 _ from rfl, zw_at, if_neg n1, xI0_o (by rw [yg4_1]; omega)]
  by_cases q1 : a < 9
  · have : a = 0 ∨ a = 1 ∨ a = 2 ∨ a = 3 ∨ a = 4 ∨ a = 5 ∨ a = 6 ∨ a = 7 ∨ a = 8 := by omega
    rcases this with rfl | rfl | rfl | rfl | rfl | rfl | rfl | rfl | rfl <;> rfl
  · by_cases q2 : a < 265
    · rw [out a (by omega) (Or.inl q2)]
      show (if a = 8 then _ else if 9 ≤ a ∧ a < 9 + 2 * 128 then zrc xR0 a else _) = xcl L xs yC yM a
      rw [if_neg (by omega), if_pos (by omega)]
      unfold xcl
      rw [if_neg q1, if_pos q2]
      rfl
    · by_cases q3 : a < 303
      · have : a = 265 ∨ a = 266 ∨ a = 267 ∨ a = 268 ∨ a = 269 ∨ a = 270 ∨ a = 271 ∨ a = 272 ∨ a = 273 ∨ a = 274 ∨ a = 275 ∨ a = 276 ∨ a = 277 ∨ a = 278 ∨ a = 279 ∨ a = 280 ∨ a = 281 ∨ a = 282 ∨ a = 283 ∨ a = 284 ∨ a = 285 ∨ a = 286 ∨ a = 287 ∨ a = 288 ∨ a = 289 ∨ a = 290 ∨ a = 291 ∨ a = 292 ∨ a = 293 ∨ a = 294 ∨ a = 295 ∨ a = 296 ∨ a = 297 ∨ a = 298 ∨ a = 299 ∨ a = 300 ∨ a = 301 ∨ a = 302 := by omega
        rcases this with rfl | rfl | rfl | rfl | rfl | rfl | rfl | rfl | rfl | rfl | rfl | rfl | rfl | rfl | rfl | rfl | rfl | rfl | rfl | rfl | rfl | rfl | rfl | rfl | rfl | rfl | rfl | rfl | rfl | rfl | rfl | rfl | rfl | rfl | rfl | rfl | rfl | rfl <;> rfl
      · rw [out a (by omega) (Or.inr (by omega))]
        have n1 : ¬ a = 1 := by omega
        show (if a = 8 then _ else if 9 ≤ a ∧ a < 9 + 2 * 128 then zrc xR0 a else (yg3 L xs).2.2 a) = xcl L xs yC yM a
        rw [if_neg (by omega), if_neg (by omega)]
        rw [show yg3 L xs = zw (xI2 (yg2 L xs)) 1 _ from rfl, zw_at, if_neg n1, xI2_o (by rw [yg2_1]; omega)]
        rw [show yg2 L xs = zw (xH (yg1 L xs) 1 (fun d => nI (ztg0 d)) Z0) 1 _ from rfl, zw_at, if_neg n1, xH_o' (by rw [yg1_1]; omega)]
        show (if a = 1 then _ else if a = 0 then _ else zdead) = _
        rw [if_neg n1, if_neg (by omega)]
        unfold xcl
        rw [if_neg q1, if_neg q2, if_neg (by omega), if_neg q3]
        unfold xkc
        have k0 : ¬ (a - 303) / 3 < yC.K := Nat.not_lt_zero _
        rw [if_neg k0]
def yσ : xS := xS.mk 1 ztg0 (fun _ => 0) (fun _ => 0) (fun _ => 0) 0 (fun _ => 0) (fun _ => 0) (fun _ _ => 0) (fun _ _ => 0) 0 (fun _ => 0) (fun _ => 0) (fun _ => 0)
theorem y_ok : xOk yσ := by
  refine xOk.mk ?_ ?_ ?_ ?_ ?_ ?_ ?_ ?_ ?_ ?_ ?_
  · refine dOk.mk (by show 1 ≤ 1; omega) (by show 1 ≤ 7; omega) rfl (fun d hd => ?_) (fun d hd => ?_) (fun d => Nat.zero_le _) rfl (fun d _ => rfl)
    · show ztg0 d ≤ 9; unfold ztg0; rw [if_neg (by omega)]; omega
    · have hd : 1 < d := hd
      show ztg0 d = 0; unfold ztg0; rw [if_neg (by omega)]
  · exact fun k => (by decide : -1000000 ≤ (0 : Int32).toInt ∧ (0 : Int32).toInt ≤ 1000000)
  · exact fun k _ => rfl
  · exact fun k => Nat.zero_le _
  · exact fun k _ => rfl
  · exact Nat.zero_le _
  · exact fun k => Nat.zero_le _
  · exact fun j hj => absurd hj (Nat.not_lt_zero _)
  · exact fun j hj => absurd hj (Nat.not_lt_zero _)
  · exact Nat.zero_le _
  · exact fun j hj => absurd hj (Nat.not_lt_zero _)
theorem y_rc : xRC yσ yC := by
  refine xRC.mk rfl rfl ?_ rfl ?_ ?_ rfl rfl ?_ ?_ ?_ ?_ rfl ?_
  · exact Z0_n
  · exact Z0_n
  · exact fun i => ⟨Nat.zero_le _, by show 1 ≤ 31; omega, Nat.le_refl _⟩
  · exact fun j hj => absurd hj (Nat.not_lt_zero _)
  · exact fun j hj => absurd hj (Nat.not_lt_zero _)
  · exact fun a b sd _ _ _ => rfl
  · exact fun b _ => rfl
  · exact fun j hj => absurd hj (Nat.not_lt_zero _)
theorem y_rm : xRM xcL yσ yM := by
  refine xRM.mk rfl ?_ ?_ rfl ?_ (Or.inl rfl) rfl ?_ ?_ rfl ?_ ?_
  · exact xtg0
  · exact Z0_n
  · exact Z0_n
  · exact fun j hj => absurd hj (Nat.not_lt_zero _)
  · exact fun j _ _ => ⟨rfl, fun d _ _ => ⟨rfl, rfl⟩⟩
  · exact fun j hj => absurd hj (Nat.not_lt_zero _)
  · exact fun d _ => rfl
end START
