/-! Drawing, further reads -/
section DRAW2
variable {h : zH} {o t q N : Nat} {hd tg : Nat → Nat}
theorem zmaxI {a b : Nat} (ha : a < 1000000) (hb : b < 1000000) : (if nI a < nI b then nI b else nI a) = nI (max a b) := by
  by_cases e : a < b
  · rw [if_pos ((zlt ha hb).mpr e), Nat.max_eq_right (by omega)]
  · rw [if_neg (fun z => e ((zlt ha hb).mp z)), Nat.max_eq_left (by omega)]
theorem zminI {a b : Nat} (ha : a < 1000000) (hb : b < 1000000) : (if nI b < nI a then nI b else nI a) = nI (min a b) := by
  by_cases e : b < a
  · rw [if_pos ((zlt hb ha).mpr e), Nat.min_eq_right (by omega)]
  · rw [if_neg (fun z => e ((zlt hb ha).mp z)), Nat.min_eq_left (by omega)]
theorem l_isSmooth2 (hD : h.2.2 o = .inr (3, [.ref t, .ref q, .int (nI N)])) (hq : h.2.2 q = .inl (0, 8, .inl (fun d => nI (hd d)))) (hN : N ≤ 7) (hh : ∀ d, hd d ≤ 7) {p d : Nat} (hp : p ≤ 7) (hd7 : d ≤ 7) :
    ∀ (c b : Nat), max p d - b = c → b ≤ 10 → zD 93 25 [some (.ref o), some (.int (nI d)), some (.int (nI p)), some (.int (nI b))] [] h = if zall (fun x => zab hd N p x) c b = true then zD 93 2 [some (.ref o), some (.int (nI (d + 1))), some (.int (nI p)), some (.int (nI (b + c)))] [] h else some (some (.int 0), h)
  | 0, b, hs, hb => by
    rw [E_X3_isSmooth_h25]
    have e0 := zmaxI (a := p) (b := d) (by omega) (by omega)
    have e1 : nI (max p d) ≤ nI b := by rw [zle (by omega) (by omega)]; omega
    have e2 : nI d + 1 = nI (d + 1) := nI_1 d
    simp [E_X3_isSmooth, hD, zfok, zfv, zfs', ziok, ziv, zpok, zis', zlok, zlv', zls', zbok, zrok, zrv', zrs', zaok, zan, zcok, zcs', zis, zgv, zgh, zcat, zw_1, zw_21, zw_at, zclr_int, zclr_ref, zclr_null, zclr_none, zclr_long, zclr_clr, zbv_0, zbv_1, zbv_ite, zbv_ite', Value.category, zall, e0, e1, e2]
  | c + 1, b, hs, hb => by
    rw [E_X3_isSmooth_h25]
    have e0 := zmaxI (a := p) (b := d) (by omega) (by omega)
    have e1 : ¬ nI (max p d) ≤ nI b := by rw [zle (by omega) (by omega)]; omega
    have e2 : nI b + 1 = nI (b + 1) := nI_1 b
    have e3 := s_isAbove hD hq hN hh (a := p) (x := b) (by omega) (by omega)
    simp [E_X3_isSmooth, hD, zfok, zfv, zfs', ziok, ziv, zpok, zis', zlok, zlv', zls', zbok, zrok, zrv', zrs', zaok, zan, zcok, zcs', zis, zgv, zgh, zcat, zw_1, zw_21, zw_at, zclr_int, zclr_ref, zclr_null, zclr_none, zclr_long, zclr_clr, zbv_0, zbv_1, zbv_ite, zbv_ite', Value.category, zall, e0, e1, e2, e3, zb01]
    by_cases e4 : zab hd N p b = true
    · simp [e4]
      rw [l_isSmooth2 hD hq hN hh hp hd7 c (b + 1) (by omega) (by omega)]
      rw [show b + 1 + c = b + (c + 1) by omega]
    · simp [e4]
/-- of a word: all words between it and its head have that above them -/
def zsmd (hd : Nat → Nat) (N d : Nat) : Bool := zall (fun x => zab hd N (hd d) x) (max (hd d) d - (min (hd d) d + 1)) (min (hd d) d + 1)
theorem l_isSmooth (hD : h.2.2 o = .inr (3, [.ref t, .ref q, .int (nI N)])) (hq : h.2.2 q = .inl (0, 8, .inl (fun d => nI (hd d)))) (hN : N ≤ 7) (hh : ∀ d, hd d ≤ 7) :
    ∀ (c d : Nat) (l2 l3 : Option Value), c + d = N + 1 → 1 ≤ d → zD 93 2 [some (.ref o), some (.int (nI d)), l2, l3] [] h = some (some (.int (if zall (fun x => zsmd hd N x) c d = true then 1 else 0)), h)
  | 0, d, l2, l3, hs, h1 => by
    rw [E_X3_isSmooth_h2]
    have e1 : nI N < nI d := by rw [zlt (by omega) (by omega)]; omega
    simp [E_X3_isSmooth, hD, zfok, zfv, zfs', ziok, ziv, zpok, zis', zlok, zlv', zls', zbok, zrok, zrv', zrs', zaok, zan, zcok, zcs', zis, zgv, zgh, zcat, zw_1, zw_21, zw_at, zclr_int, zclr_ref, zclr_null, zclr_none, zclr_long, zclr_clr, zbv_0, zbv_1, zbv_ite, zbv_ite', Value.category, zall, e1]
  | c + 1, d, l2, l3, hs, h1 => by
    rw [E_X3_isSmooth_h2]
    have e1 : ¬ nI N < nI d := by rw [zlt (by omega) (by omega)]; omega
    have e2 : zin (nI d) 8 = true := zin8 (by omega) (by omega)
    have e3 : (nI d).toNatClampNeg = d := zcl7 (by omega)
    have h7 := hh d
    have e4 := zminI (a := hd d) (b := d) (by omega) (by omega)
    have e5 : nI (min (hd d) d) + 1 = nI (min (hd d) d + 1) := nI_1 _
    have e6 := l_isSmooth2 hD hq hN hh (p := hd d) (d := d) (by omega) (by omega) _ (min (hd d) d + 1) rfl (by omega)
    have e8 : zsmd hd N d = zall (fun x => zab hd N (hd d) x) (max (hd d) d - (min (hd d) d + 1)) (min (hd d) d + 1) := rfl
    rw [← e8] at e6
    simp [E_X3_isSmooth, hD, hq, zfok, zfv, zfs', ziok, ziv, zpok, zis', zlok, zlv', zls', zbok, zrok, zrv', zrs', zaok, zan, zcok, zcs', zis, zgv, zgh, zcat, zw_1, zw_21, zw_at, zclr_int, zclr_ref, zclr_null, zclr_none, zclr_long, zclr_clr, zbv_0, zbv_1, zbv_ite, zbv_ite', Value.category, e1, e2, e3, e4, e5]
    refine Eq.trans e6 ?_
    by_cases e7 : zsmd hd N d = true
    · simp [e7, zall]
      exact l_isSmooth hD hq hN hh c (d + 1) _ _ (by omega) (by omega)
    · simp [e7, zall]
theorem s_isSmooth (hD : h.2.2 o = .inr (3, [.ref t, .ref q, .int (nI N)])) (hq : h.2.2 q = .inl (0, 8, .inl (fun d => nI (hd d)))) (hN : N ≤ 7) (hh : ∀ d, hd d ≤ 7) : zC 93 [.ref o] h = some (some (.int (if zall (fun x => zsmd hd N x) N 1 = true then 1 else 0)), h) := by
  simp [I_X3_isSmooth, E_X3_isSmooth, zfok, zfv, zfs', ziok, ziv, zpok, zis', zlok, zlv', zls', zbok, zrok, zrv', zrs', zaok, zan, zcok, zcs', zis, zgv, zgh, zcat, zw_1, zw_21, zw_at, zclr_int, zclr_ref, zclr_null, zclr_none, zclr_long, zclr_clr, zbv_0, zbv_1, zbv_ite, zbv_ite', Value.category]
  exact l_isSmooth hD hq hN hh N 1 _ _ rfl (Nat.le_refl 1)
def zur (x y : Int32) : Int32 := (x.toUInt32 >>> (y.toUInt32 &&& Int32.toUInt32 31)).toInt32
def zbc1 (x : Int32) : Int32 := x - (zur x 1 &&& 1431655765)
def zbc2 (x : Int32) : Int32 := (x &&& 858993459) + (zur x 2 &&& 858993459)
def zbc3 (x : Int32) : Int32 := (x + zur x 4) &&& 252645135
def zbc4 (x : Int32) : Int32 := x + zur x 8
def zbc5 (x : Int32) : Int32 := x + zur x 16
theorem zurf (x y : Int32) : (x.toUInt32 >>> (y.toUInt32 &&& Int32.toUInt32 31)).toInt32 = zur x y := rfl
theorem s_bitCount {x : Int32} : zC 40 [.int x] h = some (some (.int (zbc5 (zbc4 (zbc3 (zbc2 (zbc1 x)))) &&& 63)), h) := by
  simp only [I_J6_bitCount_0f7a4, E_J6_bitCount_0f7a4, zurf]
  rfl
theorem bitCount8 : ∀ m, m < 256 → zbc5 (zbc4 (zbc3 (zbc2 (zbc1 (nI m))))) &&& 63 = nI (zpop m) := by decide +kernel
theorem s_headsBeforeRoot (hD : h.2.2 o = .inr (3, [.ref t, .ref q, .int (nI N)])) (hq : h.2.2 q = .inl (0, 8, .inl (fun d => nI (hd d)))) (hN : N ≤ 7) (hh : ∀ d, hd d ≤ 7) {d : Nat} (hd7 : d ≤ 7) : zC 53 [.ref o, .int (nI d)] h = some (some (.int (nI (zpop (zpm hd N d 0)) - 1)), h) := by
  have e1 := bitCount8 (zpm hd N d 0) (zpm_lt hd hh _ _ _ (by omega))
  have e2 := s_bitCount (h := h) (x := nI (zpm hd N d 0))
  rw [e1] at e2
  simp [I_X3_headsBeforeRoot, E_X3_headsBeforeRoot, hD, s_placesAbove hD hq hN hh hd7, e2, zfok, zfv, zfs', ziok, ziv, zpok, zis', zlok, zlv', zls', zbok, zrok, zrv', zrs', zaok, zan, zcok, zcs', zis, zgv, zgh, zcat, zw_1, zw_21, zw_at, zclr_int, zclr_ref, zclr_null, zclr_none, zclr_long, zclr_clr, zbv_0, zbv_1, zbv_ite, zbv_ite', Value.category]
theorem l_wordsBelow (hD : h.2.2 o = .inr (3, [.ref t, .ref q, .int (nI N)])) (hq : h.2.2 q = .inl (0, 8, .inl (fun d => nI (hd d)))) (hN : N ≤ 7) (hh : ∀ d, hd d ≤ 7) {d : Nat} (hd7 : d ≤ 7) :
    ∀ (c x m : Nat), c + x = N + 1 → 1 ≤ x → m + c ≤ 100 → zD 94 4 [some (.ref o), some (.int (nI d)), some (.int (nI m)), some (.int (nI x))] [] h = some (some (.int (nI (m + zcnt (fun w => zab hd N d w) c x))), h)
  | 0, x, m, hs, h1, hm => by
    rw [E_X3_wordsBelow_h4]
    have e1 : nI N < nI x := by rw [zlt (by omega) (by omega)]; omega
    simp [E_X3_wordsBelow, hD, zfok, zfv, zfs', ziok, ziv, zpok, zis', zlok, zlv', zls', zbok, zrok, zrv', zrs', zaok, zan, zcok, zcs', zis, zgv, zgh, zcat, zw_1, zw_21, zw_at, zclr_int, zclr_ref, zclr_null, zclr_none, zclr_long, zclr_clr, zbv_0, zbv_1, zbv_ite, zbv_ite', Value.category, zcnt, e1]
  | c + 1, x, m, hs, h1, hm => by
    rw [E_X3_wordsBelow_h4]
    have e1 : ¬ nI N < nI x := by rw [zlt (by omega) (by omega)]; omega
    have e2 : nI x + 1 = nI (x + 1) := nI_1 x
    have e2m : nI m + 1 = nI (m + 1) := nI_1 m
    have e3 := s_isAbove hD hq hN hh (a := d) (x := x) (by omega) (by omega)
    simp [E_X3_wordsBelow, hD, zfok, zfv, zfs', ziok, ziv, zpok, zis', zlok, zlv', zls', zbok, zrok, zrv', zrs', zaok, zan, zcok, zcs', zis, zgv, zgh, zcat, zw_1, zw_21, zw_at, zclr_int, zclr_ref, zclr_null, zclr_none, zclr_long, zclr_clr, zbv_0, zbv_1, zbv_ite, zbv_ite', Value.category, zcnt, e1, e2, e2m, e3, zb01]
    by_cases e4 : zab hd N d x = true
    · simp [e4]
      rw [l_wordsBelow hD hq hN hh hd7 c (x + 1) (m + 1) (by omega) (by omega) (by omega)]
      rw [Nat.add_assoc]
    · simp [e4]
      rw [l_wordsBelow hD hq hN hh hd7 c (x + 1) m (by omega) (by omega) (by omega)]
theorem s_wordsBelow (hD : h.2.2 o = .inr (3, [.ref t, .ref q, .int (nI N)])) (hq : h.2.2 q = .inl (0, 8, .inl (fun d => nI (hd d)))) (hN : N ≤ 7) (hh : ∀ d, hd d ≤ 7) {d : Nat} (hd7 : d ≤ 7) : zC 94 [.ref o, .int (nI d)] h = some (some (.int (nI (zcnt (fun w => zab hd N d w) N 1))), h) := by
  simp [I_X3_wordsBelow, E_X3_wordsBelow, zfok, zfv, zfs', ziok, ziv, zpok, zis', zlok, zlv', zls', zbok, zrok, zrv', zrs', zaok, zan, zcok, zcs', zis, zgv, zgh, zcat, zw_1, zw_21, zw_at, zclr_int, zclr_ref, zclr_null, zclr_none, zclr_long, zclr_clr, zbv_0, zbv_1, zbv_ite, zbv_ite', Value.category]
  have := l_wordsBelow hD hq hN hh hd7 N 1 0 rfl (Nat.le_refl 1) (by omega)
  rw [Nat.zero_add] at this
  exact this
theorem l_firstWithin (hD : h.2.2 o = .inr (3, [.ref t, .ref q, .int (nI N)])) (hq : h.2.2 q = .inl (0, 8, .inl (fun d => nI (hd d)))) (hN : N ≤ 7) (hh : ∀ d, hd d ≤ 7) {d : Nat} (hd7 : d ≤ 7) :
    ∀ (c x : Nat), c + x = d → zD 95 2 [some (.ref o), some (.int (nI d)), some (.int (nI x))] [] h = some (some (.int (nI (zfst (fun w => zab hd N d w) d c x))), h)
  | 0, x, hs => by
    rw [E_X3_firstWithin_h2]
    have e1 : nI d ≤ nI x := by rw [zle (by omega) (by omega)]; omega
    simp [E_X3_firstWithin, hD, zfok, zfv, zfs', ziok, ziv, zpok, zis', zlok, zlv', zls', zbok, zrok, zrv', zrs', zaok, zan, zcok, zcs', zis, zgv, zgh, zcat, zw_1, zw_21, zw_at, zclr_int, zclr_ref, zclr_null, zclr_none, zclr_long, zclr_clr, zbv_0, zbv_1, zbv_ite, zbv_ite', Value.category, zfst, e1]
  | c + 1, x, hs => by
    rw [E_X3_firstWithin_h2]
    have e1 : ¬ nI d ≤ nI x := by rw [zle (by omega) (by omega)]; omega
    have e2 : nI x + 1 = nI (x + 1) := nI_1 x
    have e3 := s_isAbove hD hq hN hh (a := d) (x := x) (by omega) (by omega)
    simp [E_X3_firstWithin, hD, zfok, zfv, zfs', ziok, ziv, zpok, zis', zlok, zlv', zls', zbok, zrok, zrv', zrs', zaok, zan, zcok, zcs', zis, zgv, zgh, zcat, zw_1, zw_21, zw_at, zclr_int, zclr_ref, zclr_null, zclr_none, zclr_long, zclr_clr, zbv_0, zbv_1, zbv_ite, zbv_ite', Value.category, zfst, e1, e2, e3, zb01]
    by_cases e4 : zab hd N d x = true
    · simp [e4]
    · simp [e4]
      exact l_firstWithin hD hq hN hh hd7 c (x + 1) (by omega)
theorem s_firstWithin (hD : h.2.2 o = .inr (3, [.ref t, .ref q, .int (nI N)])) (hq : h.2.2 q = .inl (0, 8, .inl (fun d => nI (hd d)))) (hN : N ≤ 7) (hh : ∀ d, hd d ≤ 7) {d : Nat} (hd1 : 1 ≤ d) (hd7 : d ≤ 7) : zC 95 [.ref o, .int (nI d)] h = some (some (.int (nI (zfst (fun w => zab hd N d w) d (d - 1) 1))), h) := by
  simp [I_X3_firstWithin, E_X3_firstWithin, zfok, zfv, zfs', ziok, ziv, zpok, zis', zlok, zlv', zls', zbok, zrok, zrv', zrs', zaok, zan, zcok, zcs', zis, zgv, zgh, zcat, zw_1, zw_21, zw_at, zclr_int, zclr_ref, zclr_null, zclr_none, zclr_long, zclr_clr, zbv_0, zbv_1, zbv_ite, zbv_ite', Value.category]
  exact l_firstWithin hD hq hN hh hd7 (d - 1) 1 (by omega)
theorem l_lastWithin (hD : h.2.2 o = .inr (3, [.ref t, .ref q, .int (nI N)])) (hq : h.2.2 q = .inl (0, 8, .inl (fun d => nI (hd d)))) (hN : N ≤ 7) (hh : ∀ d, hd d ≤ 7) {d : Nat} :
    ∀ (c x : Nat), x = d + c → x ≤ 7 → zD 96 5 [some (.ref o), some (.int (nI d)), some (.int (nI x))] [] h = some (some (.int (nI (zlst (fun w => zab hd N d w) d c x))), h)
  | 0, x, hs, hx => by
    rw [E_X3_lastWithin_h5]
    have e1 : nI x ≤ nI d := by rw [zle (by omega) (by omega)]; omega
    simp [E_X3_lastWithin, hD, zfok, zfv, zfs', ziok, ziv, zpok, zis', zlok, zlv', zls', zbok, zrok, zrv', zrs', zaok, zan, zcok, zcs', zis, zgv, zgh, zcat, zw_1, zw_21, zw_at, zclr_int, zclr_ref, zclr_null, zclr_none, zclr_long, zclr_clr, zbv_0, zbv_1, zbv_ite, zbv_ite', Value.category, zlst, e1]
  | c + 1, x, hs, hx => by
    rw [E_X3_lastWithin_h5]
    have e1 : ¬ nI x ≤ nI d := by rw [zle (by omega) (by omega)]; omega
    have e2 : nI x + (-1) = nI (x - 1) := by obtain ⟨y, rfl⟩ : ∃ y, x = y + 1 := ⟨x - 1, by omega⟩; exact pk_m1 y
    have e3 := s_isAbove hD hq hN hh (a := d) (x := x) (by omega) (by omega)
    simp [E_X3_lastWithin, hD, zfok, zfv, zfs', ziok, ziv, zpok, zis', zlok, zlv', zls', zbok, zrok, zrv', zrs', zaok, zan, zcok, zcs', zis, zgv, zgh, zcat, zw_1, zw_21, zw_at, zclr_int, zclr_ref, zclr_null, zclr_none, zclr_long, zclr_clr, zbv_0, zbv_1, zbv_ite, zbv_ite', Value.category, zlst, e1, e2, e3, zb01]
    by_cases e4 : zab hd N d x = true
    · simp [e4]
    · simp [e4]
      exact l_lastWithin hD hq hN hh c (x - 1) (by omega) (by omega)
theorem s_lastWithin (hD : h.2.2 o = .inr (3, [.ref t, .ref q, .int (nI N)])) (hq : h.2.2 q = .inl (0, 8, .inl (fun d => nI (hd d)))) (hN : N ≤ 7) (hh : ∀ d, hd d ≤ 7) {d : Nat} (hd7 : d ≤ N) : zC 96 [.ref o, .int (nI d)] h = some (some (.int (nI (zlst (fun w => zab hd N d w) d (N - d) N))), h) := by
  simp [I_X3_lastWithin, E_X3_lastWithin, hD, zfok, zfv, zfs', ziok, ziv, zpok, zis', zlok, zlv', zls', zbok, zrok, zrv', zrs', zaok, zan, zcok, zcs', zis, zgv, zgh, zcat, zw_1, zw_21, zw_at, zclr_int, zclr_ref, zclr_null, zclr_none, zclr_long, zclr_clr, zbv_0, zbv_1, zbv_ite, zbv_ite', Value.category]
  exact l_lastWithin hD hq hN hh (N - d) N (by omega) hN
section TWO
variable {o2 t2 q2 : Nat} {hd2 : Nat → Nat}
theorem l_likeHeads (hD : h.2.2 o = .inr (3, [.ref t, .ref q, .int (nI N)])) (hq : h.2.2 q = .inl (0, 8, .inl (fun d => nI (hd d)))) (hD2 : h.2.2 o2 = .inr (3, [.ref t2, .ref q2, .int (nI N)])) (hq2 : h.2.2 q2 = .inl (0, 8, .inl (fun d => nI (hd2 d)))) (hN : N ≤ 7) (hh : ∀ d, hd d ≤ 7) (hh2 : ∀ d, hd2 d ≤ 7) :
    ∀ (c x m : Nat), c + x = N + 1 → 1 ≤ x → m + c ≤ 100 → zD 9 4 [some (.ref o), some (.ref o2), some (.int (nI m)), some (.int (nI x))] [] h = some (some (.int (nI (m + zcnt (fun w => decide (hd w = hd2 w)) c x))), h)
  | 0, x, m, hs, h1, hm => by
    rw [E_X3_likeHeads_h4]
    have e1 : nI N < nI x := by rw [zlt (by omega) (by omega)]; omega
    simp [E_X3_likeHeads, hD, zfok, zfv, zfs', ziok, ziv, zpok, zis', zlok, zlv', zls', zbok, zrok, zrv', zrs', zaok, zan, zcok, zcs', zis, zgv, zgh, zcat, zw_1, zw_21, zw_at, zclr_int, zclr_ref, zclr_null, zclr_none, zclr_long, zclr_clr, zbv_0, zbv_1, zbv_ite, zbv_ite', Value.category, zcnt, e1]
  | c + 1, x, m, hs, h1, hm => by
    rw [E_X3_likeHeads_h4]
    have e1 : ¬ nI N < nI x := by rw [zlt (by omega) (by omega)]; omega
    have e2 : nI x + 1 = nI (x + 1) := nI_1 x
    have e2m : nI m + 1 = nI (m + 1) := nI_1 m
    have e3 : zin (nI x) 8 = true := zin8 (by omega) (by omega)
    have e4 : (nI x).toNatClampNeg = x := zcl7 (by omega)
    have e5 : (nI (hd x) = nI (hd2 x)) ↔ hd x = hd2 x := by have := hh x; have := hh2 x; exact zeq (by omega) (by omega)
    simp [E_X3_likeHeads, hD, hq, hD2, hq2, zfok, zfv, zfs', ziok, ziv, zpok, zis', zlok, zlv', zls', zbok, zrok, zrv', zrs', zaok, zan, zcok, zcs', zis, zgv, zgh, zcat, zw_1, zw_21, zw_at, zclr_int, zclr_ref, zclr_null, zclr_none, zclr_long, zclr_clr, zbv_0, zbv_1, zbv_ite, zbv_ite', Value.category, zcnt, e1, e2, e2m, e3, e4, e5]
    by_cases e6 : hd x = hd2 x
    · simp [e6]
      rw [l_likeHeads hD hq hD2 hq2 hN hh hh2 c (x + 1) (m + 1) (by omega) (by omega) (by omega)]
      rw [Nat.add_assoc]
    · simp [e6]
      rw [l_likeHeads hD hq hD2 hq2 hN hh hh2 c (x + 1) m (by omega) (by omega) (by omega)]
theorem s_likeHeads (hD : h.2.2 o = .inr (3, [.ref t, .ref q, .int (nI N)])) (hq : h.2.2 q = .inl (0, 8, .inl (fun d => nI (hd d)))) (hD2 : h.2.2 o2 = .inr (3, [.ref t2, .ref q2, .int (nI N)])) (hq2 : h.2.2 q2 = .inl (0, 8, .inl (fun d => nI (hd2 d)))) (hN : N ≤ 7) (hh : ∀ d, hd d ≤ 7) (hh2 : ∀ d, hd2 d ≤ 7) : zC 9 [.ref o, .ref o2] h = some (some (.int (nI (zcnt (fun w => decide (hd w = hd2 w)) N 1))), h) := by
  simp [I_X3_likeHeads, E_X3_likeHeads, zfok, zfv, zfs', ziok, ziv, zpok, zis', zlok, zlv', zls', zbok, zrok, zrv', zrs', zaok, zan, zcok, zcs', zis, zgv, zgh, zcat, zw_1, zw_21, zw_at, zclr_int, zclr_ref, zclr_null, zclr_none, zclr_long, zclr_clr, zbv_0, zbv_1, zbv_ite, zbv_ite', Value.category]
  have := l_likeHeads hD hq hD2 hq2 hN hh hh2 N 1 0 rfl (Nat.le_refl 1) (by omega)
  rw [Nat.zero_add] at this
  exact this
/-- a pair is near: above each other in the same way in both -/
def znr (hd hd2 : Nat → Nat) (N b a : Nat) : Bool := (zab hd N a b == zab hd2 N a b) && (zab hd N b a == zab hd2 N b a)
theorem zb2 {P Q : Prop} [Decidable P] [Decidable Q] : ((if P then (1 : Int32) else 0) = (if Q then 1 else 0)) ↔ (P ↔ Q) := by
  by_cases h : P <;> by_cases g : Q <;> simp [h, g]
theorem l_likePairs2 (hD : h.2.2 o = .inr (3, [.ref t, .ref q, .int (nI N)])) (hq : h.2.2 q = .inl (0, 8, .inl (fun d => nI (hd d)))) (hD2 : h.2.2 o2 = .inr (3, [.ref t2, .ref q2, .int (nI N)])) (hq2 : h.2.2 q2 = .inl (0, 8, .inl (fun d => nI (hd2 d)))) (hN : N ≤ 7) (hh : ∀ d, hd d ≤ 7) (hh2 : ∀ d, hd2 d ≤ 7) {b : Nat} (hb : b ≤ 7) :
    ∀ (c x m : Nat), c + x = b → 1 ≤ x → m + c ≤ 100 → zD 97 15 [some (.ref o), some (.ref o2), some (.int (nI m)), some (.int (nI b)), some (.int (nI x))] [] h = zD 97 4 [some (.ref o), some (.ref o2), some (.int (nI (m + zcnt (fun w => znr hd hd2 N b w) c x))), some (.int (nI (b + 1))), some (.int (nI b))] [] h
  | 0, x, m, hs, h1, hm => by
    rw [E_X3_likePairs_h15]
    have e1 : nI b ≤ nI x := by rw [zle (by omega) (by omega)]; omega
    have e2 : nI b + 1 = nI (b + 1) := nI_1 b
    have e3 : x = b := by omega
    subst e3
    simp [E_X3_likePairs, hD, zfok, zfv, zfs', ziok, ziv, zpok, zis', zlok, zlv', zls', zbok, zrok, zrv', zrs', zaok, zan, zcok, zcs', zis, zgv, zgh, zcat, zw_1, zw_21, zw_at, zclr_int, zclr_ref, zclr_null, zclr_none, zclr_long, zclr_clr, zbv_0, zbv_1, zbv_ite, zbv_ite', Value.category, zcnt, e1, e2]
  | c + 1, x, m, hs, h1, hm => by
    rw [E_X3_likePairs_h15]
    have e1 : ¬ nI b ≤ nI x := by rw [zle (by omega) (by omega)]; omega
    have e2 : nI x + 1 = nI (x + 1) := nI_1 x
    have e2m : nI m + 1 = nI (m + 1) := nI_1 m
    have a1 := s_isAbove hD hq hN hh (a := x) (x := b) (by omega) (by omega)
    have a2 := s_isAbove hD2 hq2 hN hh2 (a := x) (x := b) (by omega) (by omega)
    have a3 := s_isAbove hD hq hN hh (a := b) (x := x) (by omega) (by omega)
    have a4 := s_isAbove hD2 hq2 hN hh2 (a := b) (x := x) (by omega) (by omega)
    simp [E_X3_likePairs, hD, hD2, zfok, zfv, zfs', ziok, ziv, zpok, zis', zlok, zlv', zls', zbok, zrok, zrv', zrs', zaok, zan, zcok, zcs', zis, zgv, zgh, zcat, zw_1, zw_21, zw_at, zclr_int, zclr_ref, zclr_null, zclr_none, zclr_long, zclr_clr, zbv_0, zbv_1, zbv_ite, zbv_ite', Value.category, zcnt, e1, e2, e2m, a1, a2, a3, a4, zb2]
    have k1 := l_likePairs2 hD hq hD2 hq2 hN hh hh2 hb c (x + 1) (m + 1) (by omega) (by omega) (by omega)
    have k2 := l_likePairs2 hD hq hD2 hq2 hN hh hh2 hb c (x + 1) m (by omega) (by omega) (by omega)
    rw [k1, k2]
    have k3 : znr hd hd2 N b x = true ↔ (zab hd N x b = zab hd2 N x b ∧ zab hd N b x = zab hd2 N b x) := by simp [znr]
    by_cases p1 : zab hd N x b = zab hd2 N x b <;> by_cases p2 : zab hd N b x = zab hd2 N b x <;> simp [k3, p1, p2, Nat.add_assoc]
/-- pairs (a below b) that are near, b from d on, c of them -/
def zprs (hd hd2 : Nat → Nat) (N : Nat) : Nat → Nat → Nat
  | 0, _ => 0
  | c + 1, b => zcnt (fun w => znr hd hd2 N b w) (b - 1) 1 + zprs hd hd2 N c (b + 1)
theorem l_likePairs (hD : h.2.2 o = .inr (3, [.ref t, .ref q, .int (nI N)])) (hq : h.2.2 q = .inl (0, 8, .inl (fun d => nI (hd d)))) (hD2 : h.2.2 o2 = .inr (3, [.ref t2, .ref q2, .int (nI N)])) (hq2 : h.2.2 q2 = .inl (0, 8, .inl (fun d => nI (hd2 d)))) (hN : N ≤ 7) (hh : ∀ d, hd d ≤ 7) (hh2 : ∀ d, hd2 d ≤ 7) :
    ∀ (c b m : Nat) (l4 : Option Value), (c + b = N + 1 ∨ (c = 0 ∧ N < b)) → 2 ≤ b → b ≤ 8 → m + 8 * c ≤ 90 → zD 97 4 [some (.ref o), some (.ref o2), some (.int (nI m)), some (.int (nI b)), l4] [] h = some (some (.int (nI (m + zprs hd hd2 N c b))), h)
  | 0, b, m, l4, hs, h1, h8, hm => by
    rw [E_X3_likePairs_h4]
    have e1 : nI N < nI b := by rw [zlt (by omega) (by omega)]; omega
    simp [E_X3_likePairs, hD, zfok, zfv, zfs', ziok, ziv, zpok, zis', zlok, zlv', zls', zbok, zrok, zrv', zrs', zaok, zan, zcok, zcs', zis, zgv, zgh, zcat, zw_1, zw_21, zw_at, zclr_int, zclr_ref, zclr_null, zclr_none, zclr_long, zclr_clr, zbv_0, zbv_1, zbv_ite, zbv_ite', Value.category, zprs, e1]
  | c + 1, b, m, l4, hs, h1, h8, hm => by
    rw [E_X3_likePairs_h4]
    have e1 : ¬ nI N < nI b := by rw [zlt (by omega) (by omega)]; omega
    have k1 := l_likePairs2 hD hq hD2 hq2 hN hh hh2 (b := b) (by omega) (b - 1) 1 m (by omega) (Nat.le_refl 1) (by omega)
    have hle := zcnt_le (P := fun w => znr hd hd2 N b w) (c := b - 1) (d := 1)
    simp [E_X3_likePairs, hD, zfok, zfv, zfs', ziok, ziv, zpok, zis', zlok, zlv', zls', zbok, zrok, zrv', zrs', zaok, zan, zcok, zcs', zis, zgv, zgh, zcat, zw_1, zw_21, zw_at, zclr_int, zclr_ref, zclr_null, zclr_none, zclr_long, zclr_clr, zbv_0, zbv_1, zbv_ite, zbv_ite', Value.category, zprs, e1]
    refine Eq.trans k1 ?_
    rw [l_likePairs hD hq hD2 hq2 hN hh hh2 c (b + 1) _ _ (by omega) (by omega) (by omega) (by omega)]
    rw [Nat.add_assoc]
theorem s_likePairs (hD : h.2.2 o = .inr (3, [.ref t, .ref q, .int (nI N)])) (hq : h.2.2 q = .inl (0, 8, .inl (fun d => nI (hd d)))) (hD2 : h.2.2 o2 = .inr (3, [.ref t2, .ref q2, .int (nI N)])) (hq2 : h.2.2 q2 = .inl (0, 8, .inl (fun d => nI (hd2 d)))) (hN1 : 1 ≤ N) (hN : N ≤ 7) (hh : ∀ d, hd d ≤ 7) (hh2 : ∀ d, hd2 d ≤ 7) : zC 97 [.ref o, .ref o2] h = some (some (.int (nI (zprs hd hd2 N (N - 1) 2))), h) := by
  simp [I_X3_likePairs, E_X3_likePairs, zfok, zfv, zfs', ziok, ziv, zpok, zis', zlok, zlv', zls', zbok, zrok, zrv', zrs', zaok, zan, zcok, zcs', zis, zgv, zgh, zcat, zw_1, zw_21, zw_at, zclr_int, zclr_ref, zclr_null, zclr_none, zclr_long, zclr_clr, zbv_0, zbv_1, zbv_ite, zbv_ite', Value.category]
  have := l_likePairs hD hq hD2 hq2 hN hh hh2 (N - 1) 2 0 none (by omega) (Nat.le_refl 2) (by omega) (by omega)
  rw [Nat.zero_add] at this
  exact this
end TWO
end DRAW2
