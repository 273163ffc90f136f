set_option maxRecDepth 100000 in
theorem E_X5_search : (∀ (l1 l2 l3 l4 : Option Value) (x : Nat) (S : List Value) (h : zH), zD 151 0 [some (.ref x), l1, l2, l3, l4] S h = zD 151 1 [some (.ref x), l1, l2, l3, l4] (.ref x :: S) h) ∧
  (∀ (l0 l2 l3 l4 : Option Value) (x : Nat) (S : List Value) (h : zH), zD 151 1 [l0, some (.ref x), l2, l3, l4] S h = zD 151 2 [l0, some (.ref x), l2, l3, l4] (.ref x :: S) h) ∧
  (∀ (l0 l2 l3 l4 : Option Value) (S : List Value) (h : zH), zD 151 1 [l0, some .null, l2, l3, l4] S h = zD 151 2 [l0, some .null, l2, l3, l4] (.null :: S) h) ∧
  (∀ (l0 l1 l2 l3 l4 : Option Value) (p0 : Nat) (a : Nat) (r : List Value) (h : zH) (hcat : zcat r ≤ 8) (hr : zis (h.2.2 a) 4 = true) (hC : (zC 57 (.ref a :: [.ref p0]) h).isSome = true), zD 151 2 [l0, l1, l2, l3, l4] (.ref p0 :: .ref a :: r) h = zD 151 5 [l0, l1, l2, l3, l4] (zgv (zC 57 (.ref a :: [.ref p0]) h) ++ r) (zgh h (zC 57 (.ref a :: [.ref p0]) h))) ∧
  (∀ (l1 l2 l3 l4 : Option Value) (x : Nat) (S : List Value) (h : zH), zD 151 5 [some (.ref x), l1, l2, l3, l4] S h = zD 151 6 [some (.ref x), l1, l2, l3, l4] (.ref x :: S) h) ∧
  (∀ (l0 l1 l2 l3 l4 : Option Value) (a : Nat) (r : List Value) (h : zH) (hx : zfok (h.2.2 a) 4 5 = true), zD 151 6 [l0, l1, l2, l3, l4] (.ref a :: r) h = zD 151 9 [l0, l1, l2, l3, l4] (zfv (h.2.2 a) 5 :: r) h) ∧
  (∀ (l0 l1 l2 l3 l4 : Option Value) (S : List Value) (h : zH), zD 151 9 [l0, l1, l2, l3, l4] S h = zD 151 10 [l0, l1, l2, l3, l4] (.int (0 : Int32) :: S) h) ∧
  (∀ (l0 l1 l2 l3 l4 : Option Value) (i : Int32) (a : Nat) (r : List Value) (h : zH) (hx : ziok a (h.2.2 a) i = true), zD 151 10 [l0, l1, l2, l3, l4] (.int i :: .ref a :: r) h = zD 151 11 [l0, l1, l2, l3, l4] (.int (ziv (h.2.2 a) i) :: r) h) ∧
  (∀ (l0 l1 l2 l3 l4 : Option Value) (x : Int32) (r : List Value) (h : zH), zD 151 11 [l0, l1, l2, l3, l4] (.int x :: r) h = zD 151 12 [l0, l1, zclr l2, some (.int x), l4] r h) ∧
  (∀ (l1 l2 l3 l4 : Option Value) (x : Nat) (S : List Value) (h : zH), zD 151 13 [some (.ref x), l1, l2, l3, l4] S h = zD 151 14 [some (.ref x), l1, l2, l3, l4] (.ref x :: S) h) ∧
  (∀ (l0 l1 l2 l3 l4 : Option Value) (a : Nat) (r : List Value) (h : zH) (hx : zfok (h.2.2 a) 4 6 = true), zD 151 14 [l0, l1, l2, l3, l4] (.ref a :: r) h = zD 151 17 [l0, l1, l2, l3, l4] (zfv (h.2.2 a) 6 :: r) h) ∧
  (∀ (l0 l1 l2 l3 l4 : Option Value) (S : List Value) (h : zH), zD 151 17 [l0, l1, l2, l3, l4] S h = zD 151 18 [l0, l1, l2, l3, l4] (.int (0 : Int32) :: S) h) ∧
  (∀ (l0 l1 l2 l3 l4 : Option Value) (i : Int32) (a : Nat) (r : List Value) (h : zH) (hx : ziok a (h.2.2 a) i = true), zD 151 18 [l0, l1, l2, l3, l4] (.int i :: .ref a :: r) h = zD 151 19 [l0, l1, l2, l3, l4] (.int (ziv (h.2.2 a) i) :: r) h) ∧
  (∀ (l0 l1 l2 l3 l4 : Option Value) (x y : Int32) (r : List Value) (h : zH), zD 151 19 [l0, l1, l2, l3, l4] (.int y :: .int x :: r) h = if y < x then zD 151 83 [l0, l1, l2, l3, l4] r h else zD 151 22 [l0, l1, l2, l3, l4] r h) ∧
  (∀ (l1 l2 l3 l4 : Option Value) (x : Nat) (S : List Value) (h : zH), zD 151 22 [some (.ref x), l1, l2, l3, l4] S h = zD 151 23 [some (.ref x), l1, l2, l3, l4] (.ref x :: S) h) ∧
  (∀ (l0 l2 l3 l4 : Option Value) (x : Nat) (S : List Value) (h : zH), zD 151 23 [l0, some (.ref x), l2, l3, l4] S h = zD 151 24 [l0, some (.ref x), l2, l3, l4] (.ref x :: S) h) ∧
  (∀ (l0 l2 l3 l4 : Option Value) (S : List Value) (h : zH), zD 151 23 [l0, some .null, l2, l3, l4] S h = zD 151 24 [l0, some .null, l2, l3, l4] (.null :: S) h) ∧
  (∀ (l0 l1 l2 l3 l4 : Option Value) (S : List Value) (h : zH), zD 151 24 [l0, l1, l2, l3, l4] S h = zD 151 25 [l0, l1, l2, l3, l4] (.int (0 : Int32) :: S) h) ∧
  (∀ (l0 l1 l2 l4 : Option Value) (x : Int32) (S : List Value) (h : zH), zD 151 25 [l0, l1, l2, some (.int x), l4] S h = zD 151 26 [l0, l1, l2, some (.int x), l4] (.int x :: S) h) ∧
  (∀ (l0 l1 l2 l3 l4 : Option Value) (p0 : Nat) (p1 : Int32) (p2 : Int32) (a : Nat) (r : List Value) (h : zH) (hcat : zcat r ≤ 8) (hr : zis (h.2.2 a) 4 = true) (hC : (zC 98 (.ref a :: [.ref p0, .int p1, .int p2]) h).isSome = true), zD 151 26 [l0, l1, l2, l3, l4] (.int p2 :: .int p1 :: .ref p0 :: .ref a :: r) h = zD 151 29 [l0, l1, l2, l3, l4] (zgv (zC 98 (.ref a :: [.ref p0, .int p1, .int p2]) h) ++ r) (zgh h (zC 98 (.ref a :: [.ref p0, .int p1, .int p2]) h))) ∧
  (∀ (l0 l1 l2 l3 l4 : Option Value) (x : Int32) (r : List Value) (h : zH), zD 151 29 [l0, l1, l2, l3, l4] (.int x :: r) h = if ¬ x = 0 then zD 151 35 [l0, l1, l2, l3, l4] r h else zD 151 32 [l0, l1, l2, l3, l4] r h) ∧
  (∀ (l0 l1 l2 l3 l4 : Option Value) (S : List Value) (h : zH), zD 151 32 [l0, l1, l2, l3, l4] S h = zD 151 77 [l0, l1, l2, l3, l4] S h) ∧
  (∀ (l1 l2 l3 l4 : Option Value) (x : Nat) (S : List Value) (h : zH), zD 151 35 [some (.ref x), l1, l2, l3, l4] S h = zD 151 36 [some (.ref x), l1, l2, l3, l4] (.ref x :: S) h) ∧
  (∀ (l0 l1 l2 l3 l4 : Option Value) (a : Nat) (r : List Value) (h : zH) (hx : zfok (h.2.2 a) 4 5 = true), zD 151 36 [l0, l1, l2, l3, l4] (.ref a :: r) h = zD 151 39 [l0, l1, l2, l3, l4] (zfv (h.2.2 a) 5 :: r) h) ∧
  (∀ (l0 l1 l2 l3 l4 : Option Value) (S : List Value) (h : zH), zD 151 39 [l0, l1, l2, l3, l4] S h = zD 151 40 [l0, l1, l2, l3, l4] (.int (1 : Int32) :: S) h) ∧
  (∀ (l0 l1 l2 l3 l4 : Option Value) (i : Int32) (a : Nat) (r : List Value) (h : zH) (hx : ziok a (h.2.2 a) i = true), zD 151 40 [l0, l1, l2, l3, l4] (.int i :: .ref a :: r) h = zD 151 41 [l0, l1, l2, l3, l4] (.int (ziv (h.2.2 a) i) :: r) h) ∧
  (∀ (l0 l1 l2 l3 l4 : Option Value) (x : Int32) (r : List Value) (h : zH), zD 151 41 [l0, l1, l2, l3, l4] (.int x :: r) h = zD 151 43 [l0, l1, l2, zclr l3, some (.int x)] r h) ∧
  (∀ (l1 l2 l3 l4 : Option Value) (x : Nat) (S : List Value) (h : zH), zD 151 45 [some (.ref x), l1, l2, l3, l4] S h = zD 151 46 [some (.ref x), l1, l2, l3, l4] (.ref x :: S) h) ∧
  (∀ (l0 l1 l2 l3 l4 : Option Value) (a : Nat) (r : List Value) (h : zH) (hx : zfok (h.2.2 a) 4 6 = true), zD 151 46 [l0, l1, l2, l3, l4] (.ref a :: r) h = zD 151 49 [l0, l1, l2, l3, l4] (zfv (h.2.2 a) 6 :: r) h) ∧
  (∀ (l0 l1 l2 l3 l4 : Option Value) (S : List Value) (h : zH), zD 151 49 [l0, l1, l2, l3, l4] S h = zD 151 50 [l0, l1, l2, l3, l4] (.int (1 : Int32) :: S) h) ∧
  (∀ (l0 l1 l2 l3 l4 : Option Value) (i : Int32) (a : Nat) (r : List Value) (h : zH) (hx : ziok a (h.2.2 a) i = true), zD 151 50 [l0, l1, l2, l3, l4] (.int i :: .ref a :: r) h = zD 151 51 [l0, l1, l2, l3, l4] (.int (ziv (h.2.2 a) i) :: r) h) ∧
  (∀ (l0 l1 l2 l3 l4 : Option Value) (x y : Int32) (r : List Value) (h : zH), zD 151 51 [l0, l1, l2, l3, l4] (.int y :: .int x :: r) h = if y < x then zD 151 77 [l0, l1, l2, l3, l4] r h else zD 151 54 [l0, l1, l2, l3, l4] r h) ∧
  (∀ (l1 l2 l3 l4 : Option Value) (x : Nat) (S : List Value) (h : zH), zD 151 54 [some (.ref x), l1, l2, l3, l4] S h = zD 151 55 [some (.ref x), l1, l2, l3, l4] (.ref x :: S) h) ∧
  (∀ (l0 l2 l3 l4 : Option Value) (x : Nat) (S : List Value) (h : zH), zD 151 55 [l0, some (.ref x), l2, l3, l4] S h = zD 151 56 [l0, some (.ref x), l2, l3, l4] (.ref x :: S) h) ∧
  (∀ (l0 l2 l3 l4 : Option Value) (S : List Value) (h : zH), zD 151 55 [l0, some .null, l2, l3, l4] S h = zD 151 56 [l0, some .null, l2, l3, l4] (.null :: S) h) ∧
  (∀ (l0 l1 l2 l3 l4 : Option Value) (S : List Value) (h : zH), zD 151 56 [l0, l1, l2, l3, l4] S h = zD 151 57 [l0, l1, l2, l3, l4] (.int (1 : Int32) :: S) h) ∧
  (∀ (l0 l1 l2 l3 : Option Value) (x : Int32) (S : List Value) (h : zH), zD 151 57 [l0, l1, l2, l3, some (.int x)] S h = zD 151 59 [l0, l1, l2, l3, some (.int x)] (.int x :: S) h) ∧
  (∀ (l0 l1 l2 l3 l4 : Option Value) (p0 : Nat) (p1 : Int32) (p2 : Int32) (a : Nat) (r : List Value) (h : zH) (hcat : zcat r ≤ 8) (hr : zis (h.2.2 a) 4 = true) (hC : (zC 98 (.ref a :: [.ref p0, .int p1, .int p2]) h).isSome = true), zD 151 59 [l0, l1, l2, l3, l4] (.int p2 :: .int p1 :: .ref p0 :: .ref a :: r) h = zD 151 62 [l0, l1, l2, l3, l4] (zgv (zC 98 (.ref a :: [.ref p0, .int p1, .int p2]) h) ++ r) (zgh h (zC 98 (.ref a :: [.ref p0, .int p1, .int p2]) h))) ∧
  (∀ (l0 l1 l2 l3 l4 : Option Value) (x : Int32) (r : List Value) (h : zH), zD 151 62 [l0, l1, l2, l3, l4] (.int x :: r) h = if x = 0 then zD 151 71 [l0, l1, l2, l3, l4] r h else zD 151 65 [l0, l1, l2, l3, l4] r h) ∧
  (∀ (l1 l2 l3 l4 : Option Value) (x : Nat) (S : List Value) (h : zH), zD 151 65 [some (.ref x), l1, l2, l3, l4] S h = zD 151 66 [some (.ref x), l1, l2, l3, l4] (.ref x :: S) h) ∧
  (∀ (l0 l2 l3 l4 : Option Value) (x : Nat) (S : List Value) (h : zH), zD 151 66 [l0, some (.ref x), l2, l3, l4] S h = zD 151 67 [l0, some (.ref x), l2, l3, l4] (.ref x :: S) h) ∧
  (∀ (l0 l2 l3 l4 : Option Value) (S : List Value) (h : zH), zD 151 66 [l0, some .null, l2, l3, l4] S h = zD 151 67 [l0, some .null, l2, l3, l4] (.null :: S) h) ∧
  (∀ (l0 l1 l3 l4 : Option Value) (x : Int32) (S : List Value) (h : zH), zD 151 67 [l0, l1, some (.int x), l3, l4] S h = zD 151 68 [l0, l1, some (.int x), l3, l4] (.int x :: S) h) ∧
  (∀ (l0 l1 l2 l3 l4 : Option Value) (p0 : Nat) (p1 : Int32) (a : Nat) (r : List Value) (h : zH) (hcat : zcat r ≤ 8) (hr : zis (h.2.2 a) 4 = true) (hC : (zC 130 (.ref a :: [.ref p0, .int p1]) h).isSome = true), zD 151 68 [l0, l1, l2, l3, l4] (.int p1 :: .ref p0 :: .ref a :: r) h = zD 151 71 [l0, l1, l2, l3, l4] (zgv (zC 130 (.ref a :: [.ref p0, .int p1]) h) ++ r) (zgh h (zC 130 (.ref a :: [.ref p0, .int p1]) h))) ∧
  (∀ (l0 l1 l2 l3 : Option Value) (x : Int32) (S : List Value) (h : zH), zD 151 71 [l0, l1, l2, l3, some (.int x)] S h = zD 151 74 [l0, l1, l2, zclr l3, some (.int (x + (1 : Int32)))] S h) ∧
  (∀ (l0 l1 l2 l3 l4 : Option Value) (S : List Value) (h : zH), zD 151 74 [l0, l1, l2, l3, l4] S h = zD 151 43 [l0, l1, l2, l3, l4] S h) ∧
  (∀ (l0 l1 l2 l4 : Option Value) (x : Int32) (S : List Value) (h : zH), zD 151 77 [l0, l1, l2, some (.int x), l4] S h = zD 151 80 [l0, l1, zclr l2, some (.int (x + (1 : Int32))), l4] S h) ∧
  (∀ (l0 l1 l2 l3 l4 : Option Value) (S : List Value) (h : zH), zD 151 80 [l0, l1, l2, l3, l4] S h = zD 151 12 [l0, l1, l2, l3, l4] S h) ∧
  (∀ (l1 l2 l3 l4 : Option Value) (x : Nat) (S : List Value) (h : zH), zD 151 83 [some (.ref x), l1, l2, l3, l4] S h = zD 151 84 [some (.ref x), l1, l2, l3, l4] (.ref x :: S) h) ∧
  (∀ (l0 l1 l2 l3 l4 : Option Value) (a : Nat) (r : List Value) (h : zH) (hx : zfok (h.2.2 a) 4 8 = true), zD 151 84 [l0, l1, l2, l3, l4] (.ref a :: r) h = zD 151 87 [l0, l1, l2, l3, l4] (zfv (h.2.2 a) 8 :: r) h) ∧
  (∀ (l0 l1 l2 l3 l4 : Option Value) (v : Int32) (h : zH), zD 151 87 [l0, l1, l2, l3, l4] [.int v] h = some (some (.int v), h)) :=
  ⟨fun l1 l2 l3 l4 x S h => zD_op (ins := .aload_n 0) (len := 1) (c := (1, [some (.ref x), l1, l2, l3, l4], (.ref x :: S), h)) (by decide +kernel) rfl rfl rfl rfl,
  fun l0 l2 l3 l4 x S h => zD_op (ins := .aload_n 1) (len := 1) (c := (2, [l0, some (.ref x), l2, l3, l4], (.ref x :: S), h)) (by decide +kernel) rfl rfl rfl rfl,
  fun l0 l2 l3 l4 S h => zD_op (ins := .aload_n 1) (len := 1) (c := (2, [l0, some .null, l2, l3, l4], (.null :: S), h)) (by decide +kernel) rfl rfl rfl rfl,
  fun l0 l1 l2 l3 l4 p0 a r h hcat hr hC => zD_callv (i := 37) (y := 57) (n := 1) (as := [.ref p0]) (ci := 4) (by decide +kernel) (by decide +kernel) rfl (by decide +kernel) (Nat.le_of_ble_eq_true rfl) (by decide +kernel) hcat hr hC,
  fun l1 l2 l3 l4 x S h => zD_op (ins := .aload_n 0) (len := 1) (c := (6, [some (.ref x), l1, l2, l3, l4], (.ref x :: S), h)) (by decide +kernel) rfl rfl rfl rfl,
  fun l0 l1 l2 l3 l4 a r h hx => zD_getf (i := 24) (ci := 4) (k := 5) (q := (221, 0)) (by decide +kernel) (by decide +kernel) hx,
  fun l0 l1 l2 l3 l4 S h => zD_icst (n := 0) (by decide +kernel) (by decide +kernel),
  fun l0 l1 l2 l3 l4 i a r h hx => zD_iald (by decide +kernel) hx,
  fun l0 l1 l2 l3 l4 x r h => zD_st1 (k := 3) (ins := .istore_n 3) (len := 1) (by decide +kernel) rfl rfl rfl (by decide +kernel) rfl rfl,
  fun l1 l2 l3 l4 x S h => zD_op (ins := .aload_n 0) (len := 1) (c := (14, [some (.ref x), l1, l2, l3, l4], (.ref x :: S), h)) (by decide +kernel) rfl rfl rfl rfl,
  fun l0 l1 l2 l3 l4 a r h hx => zD_getf (i := 27) (ci := 4) (k := 6) (q := (222, 0)) (by decide +kernel) (by decide +kernel) hx,
  fun l0 l1 l2 l3 l4 S h => zD_icst (n := 0) (by decide +kernel) (by decide +kernel),
  fun l0 l1 l2 l3 l4 i a r h hx => zD_iald (by decide +kernel) hx,
  fun l0 l1 l2 l3 l4 x y r h => zD_if (cnd := .gt) (off := 64) (by decide +kernel) (by decide) rfl,
  fun l1 l2 l3 l4 x S h => zD_op (ins := .aload_n 0) (len := 1) (c := (23, [some (.ref x), l1, l2, l3, l4], (.ref x :: S), h)) (by decide +kernel) rfl rfl rfl rfl,
  fun l0 l2 l3 l4 x S h => zD_op (ins := .aload_n 1) (len := 1) (c := (24, [l0, some (.ref x), l2, l3, l4], (.ref x :: S), h)) (by decide +kernel) rfl rfl rfl rfl,
  fun l0 l2 l3 l4 S h => zD_op (ins := .aload_n 1) (len := 1) (c := (24, [l0, some .null, l2, l3, l4], (.null :: S), h)) (by decide +kernel) rfl rfl rfl rfl,
  fun l0 l1 l2 l3 l4 S h => zD_icst (n := 0) (by decide +kernel) (by decide +kernel),
  fun l0 l1 l2 l4 x S h => zD_op (ins := .iload_n 3) (len := 1) (c := (26, [l0, l1, l2, some (.int x), l4], (.int x :: S), h)) (by decide +kernel) rfl rfl rfl rfl,
  fun l0 l1 l2 l3 l4 p0 p1 p2 a r h hcat hr hC => zD_callv (i := 41) (y := 98) (n := 3) (as := [.ref p0, .int p1, .int p2]) (ci := 4) (by decide +kernel) (by decide +kernel) rfl (by decide +kernel) (Nat.le_of_ble_eq_true rfl) (by decide +kernel) hcat hr hC,
  fun l0 l1 l2 l3 l4 x r h => zD_if0 (cnd := .ne) (off := 6) (by decide +kernel) (by decide) rfl,
  fun l0 l1 l2 l3 l4 S h => zD_goto (off := 45) (by decide +kernel) (by decide),
  fun l1 l2 l3 l4 x S h => zD_op (ins := .aload_n 0) (len := 1) (c := (36, [some (.ref x), l1, l2, l3, l4], (.ref x :: S), h)) (by decide +kernel) rfl rfl rfl rfl,
  fun l0 l1 l2 l3 l4 a r h hx => zD_getf (i := 24) (ci := 4) (k := 5) (q := (221, 0)) (by decide +kernel) (by decide +kernel) hx,
  fun l0 l1 l2 l3 l4 S h => zD_icst (n := 1) (by decide +kernel) (by decide +kernel),
  fun l0 l1 l2 l3 l4 i a r h hx => zD_iald (by decide +kernel) hx,
  fun l0 l1 l2 l3 l4 x r h => zD_st1 (k := 4) (ins := .istore 4) (len := 2) (by decide +kernel) rfl rfl rfl (by decide +kernel) rfl rfl,
  fun l1 l2 l3 l4 x S h => zD_op (ins := .aload_n 0) (len := 1) (c := (46, [some (.ref x), l1, l2, l3, l4], (.ref x :: S), h)) (by decide +kernel) rfl rfl rfl rfl,
  fun l0 l1 l2 l3 l4 a r h hx => zD_getf (i := 27) (ci := 4) (k := 6) (q := (222, 0)) (by decide +kernel) (by decide +kernel) hx,
  fun l0 l1 l2 l3 l4 S h => zD_icst (n := 1) (by decide +kernel) (by decide +kernel),
  fun l0 l1 l2 l3 l4 i a r h hx => zD_iald (by decide +kernel) hx,
  fun l0 l1 l2 l3 l4 x y r h => zD_if (cnd := .gt) (off := 26) (by decide +kernel) (by decide) rfl,
  fun l1 l2 l3 l4 x S h => zD_op (ins := .aload_n 0) (len := 1) (c := (55, [some (.ref x), l1, l2, l3, l4], (.ref x :: S), h)) (by decide +kernel) rfl rfl rfl rfl,
  fun l0 l2 l3 l4 x S h => zD_op (ins := .aload_n 1) (len := 1) (c := (56, [l0, some (.ref x), l2, l3, l4], (.ref x :: S), h)) (by decide +kernel) rfl rfl rfl rfl,
  fun l0 l2 l3 l4 S h => zD_op (ins := .aload_n 1) (len := 1) (c := (56, [l0, some .null, l2, l3, l4], (.null :: S), h)) (by decide +kernel) rfl rfl rfl rfl,
  fun l0 l1 l2 l3 l4 S h => zD_icst (n := 1) (by decide +kernel) (by decide +kernel),
  fun l0 l1 l2 l3 x S h => zD_op (ins := .iload 4) (len := 2) (c := (59, [l0, l1, l2, l3, some (.int x)], (.int x :: S), h)) (by decide +kernel) rfl rfl rfl rfl,
  fun l0 l1 l2 l3 l4 p0 p1 p2 a r h hcat hr hC => zD_callv (i := 41) (y := 98) (n := 3) (as := [.ref p0, .int p1, .int p2]) (ci := 4) (by decide +kernel) (by decide +kernel) rfl (by decide +kernel) (Nat.le_of_ble_eq_true rfl) (by decide +kernel) hcat hr hC,
  fun l0 l1 l2 l3 l4 x r h => zD_if0 (cnd := .eq) (off := 9) (by decide +kernel) (by decide) rfl,
  fun l1 l2 l3 l4 x S h => zD_op (ins := .aload_n 0) (len := 1) (c := (66, [some (.ref x), l1, l2, l3, l4], (.ref x :: S), h)) (by decide +kernel) rfl rfl rfl rfl,
  fun l0 l2 l3 l4 x S h => zD_op (ins := .aload_n 1) (len := 1) (c := (67, [l0, some (.ref x), l2, l3, l4], (.ref x :: S), h)) (by decide +kernel) rfl rfl rfl rfl,
  fun l0 l2 l3 l4 S h => zD_op (ins := .aload_n 1) (len := 1) (c := (67, [l0, some .null, l2, l3, l4], (.null :: S), h)) (by decide +kernel) rfl rfl rfl rfl,
  fun l0 l1 l3 l4 x S h => zD_op (ins := .iload_n 2) (len := 1) (c := (68, [l0, l1, some (.int x), l3, l4], (.int x :: S), h)) (by decide +kernel) rfl rfl rfl rfl,
  fun l0 l1 l2 l3 l4 p0 p1 a r h hcat hr hC => zD_callv (i := 45) (y := 130) (n := 2) (as := [.ref p0, .int p1]) (ci := 4) (by decide +kernel) (by decide +kernel) rfl (by decide +kernel) (Nat.le_of_ble_eq_true rfl) (by decide +kernel) hcat hr hC,
  fun l0 l1 l2 l3 x S h => zD_iinc (k := 4) (x := x) (c := (1 : Int32)) (n := 1) (by decide +kernel) (by decide +kernel) rfl (by decide +kernel) rfl,
  fun l0 l1 l2 l3 l4 S h => zD_goto (off := (-31)) (by decide +kernel) (by decide),
  fun l0 l1 l2 l4 x S h => zD_iinc (k := 3) (x := x) (c := (1 : Int32)) (n := 1) (by decide +kernel) (by decide +kernel) rfl (by decide +kernel) rfl,
  fun l0 l1 l2 l3 l4 S h => zD_goto (off := (-68)) (by decide +kernel) (by decide),
  fun l1 l2 l3 l4 x S h => zD_op (ins := .aload_n 0) (len := 1) (c := (84, [some (.ref x), l1, l2, l3, l4], (.ref x :: S), h)) (by decide +kernel) rfl rfl rfl rfl,
  fun l0 l1 l2 l3 l4 a r h hx => zD_getf (i := 49) (ci := 4) (k := 8) (q := (224, 0)) (by decide +kernel) (by decide +kernel) hx,
  fun l0 l1 l2 l3 l4 v h => zD_ireti (by decide +kernel) rfl⟩
set_option maxRecDepth 100000 in
theorem E_X5_search_h12 : (∀ (l0 l1 l2 l4 : Option Value) (x : Int32) (S : List Value) (h : zH), zD 151 12 [l0, l1, l2, some (.int x), l4] S h = zD 151 13 [l0, l1, l2, some (.int x), l4] (.int x :: S) h) :=
  fun l0 l1 l2 l4 x S h => zD_op (ins := .iload_n 3) (len := 1) (c := (13, [l0, l1, l2, some (.int x), l4], (.int x :: S), h)) (by decide +kernel) rfl rfl rfl rfl
set_option maxRecDepth 100000 in
theorem E_X5_search_h43 : (∀ (l0 l1 l2 l3 : Option Value) (x : Int32) (S : List Value) (h : zH), zD 151 43 [l0, l1, l2, l3, some (.int x)] S h = zD 151 45 [l0, l1, l2, l3, some (.int x)] (.int x :: S) h) :=
  fun l0 l1 l2 l3 x S h => zD_op (ins := .iload 4) (len := 2) (c := (45, [l0, l1, l2, l3, some (.int x)], (.int x :: S), h)) (by decide +kernel) rfl rfl rfl rfl
set_option maxRecDepth 100000 in
theorem I_X5_search : (∀ (a : Nat) (p0 : Nat) (p1 : Int32) (h : zH), zC 151 [.ref a, .ref p0, .int p1] h = zD 151 0 [some (.ref a), some (.ref p0), some (.int p1), none, none] [] h) :=
  fun a p0 p1 h => zC_def rfl
set_option maxRecDepth 100000 in
theorem E_X6_first : (∀ (l0 l1 l2 l3 l4 l5 l6 : Option Value) (S : List Value) (h : zH), zD 152 0 [l0, l1, l2, l3, l4, l5, l6] S h = zD 152 1 [l0, l1, l2, l3, l4, l5, l6] (.int (0 : Int32) :: S) h) ∧
  (∀ (l0 l1 l2 l3 l4 l5 l6 : Option Value) (x : Int32) (r : List Value) (h : zH), zD 152 1 [l0, l1, l2, l3, l4, l5, l6] (.int x :: r) h = zD 152 3 [l0, l1, l2, zclr l3, some (.int x), l5, l6] r h) ∧
  (∀ (l0 l1 l3 l4 l5 l6 : Option Value) (x : Int32) (S : List Value) (h : zH), zD 152 5 [l0, l1, some (.int x), l3, l4, l5, l6] S h = zD 152 6 [l0, l1, some (.int x), l3, l4, l5, l6] (.int x :: S) h) ∧
  (∀ (l0 l1 l2 l3 l4 l5 l6 : Option Value) (x y : Int32) (r : List Value) (h : zH), zD 152 6 [l0, l1, l2, l3, l4, l5, l6] (.int y :: .int x :: r) h = if y < x then zD 152 27 [l0, l1, l2, l3, l4, l5, l6] r h else zD 152 9 [l0, l1, l2, l3, l4, l5, l6] r h) ∧
  (∀ (l1 l2 l3 l4 l5 l6 : Option Value) (x : Nat) (S : List Value) (h : zH), zD 152 9 [some (.ref x), l1, l2, l3, l4, l5, l6] S h = zD 152 10 [some (.ref x), l1, l2, l3, l4, l5, l6] (.ref x :: S) h) ∧
  (∀ (l0 l1 l2 l3 l5 l6 : Option Value) (x : Int32) (S : List Value) (h : zH), zD 152 10 [l0, l1, l2, l3, some (.int x), l5, l6] S h = zD 152 12 [l0, l1, l2, l3, some (.int x), l5, l6] (.int x :: S) h) ∧
  (∀ (l0 l1 l2 l3 l5 l6 : Option Value) (x : Int32) (S : List Value) (h : zH), zD 152 12 [l0, l1, l2, l3, some (.int x), l5, l6] S h = zD 152 14 [l0, l1, l2, l3, some (.int x), l5, l6] (.int x :: S) h) ∧
  (∀ (l0 l1 l2 l3 l4 l5 l6 : Option Value) (p0 : Int32) (p1 : Int32) (a : Nat) (r : List Value) (h : zH) (hcat : zcat r ≤ 8) (hr : zis (h.2.2 a) 5 = true) (hC : (zC 61 (.ref a :: [.int p0, .int p1]) h).isSome = true), zD 152 14 [l0, l1, l2, l3, l4, l5, l6] (.int p1 :: .int p0 :: .ref a :: r) h = zD 152 17 [l0, l1, l2, l3, l4, l5, l6] (zgv (zC 61 (.ref a :: [.int p0, .int p1]) h) ++ r) (zgh h (zC 61 (.ref a :: [.int p0, .int p1]) h))) ∧
  (∀ (l0 l1 l2 l4 l5 l6 : Option Value) (x : Int32) (S : List Value) (h : zH), zD 152 17 [l0, l1, l2, some (.int x), l4, l5, l6] S h = zD 152 18 [l0, l1, l2, some (.int x), l4, l5, l6] (.int x :: S) h) ∧
  (∀ (l0 l1 l2 l3 l4 l5 l6 : Option Value) (p0 : Int32) (a : Nat) (r : List Value) (h : zH) (hcat : zcat r ≤ 8) (hr : zis (h.2.2 a) 7 = true) (hC : (zC 102 (.ref a :: [.int p0]) h).isSome = true), zD 152 18 [l0, l1, l2, l3, l4, l5, l6] (.int p0 :: .ref a :: r) h = zD 152 21 [l0, l1, l2, l3, l4, l5, l6] (zgv (zC 102 (.ref a :: [.int p0]) h) ++ r) (zgh h (zC 102 (.ref a :: [.int p0]) h))) ∧
  (∀ (l0 l1 l2 l3 l5 l6 : Option Value) (x : Int32) (S : List Value) (h : zH), zD 152 21 [l0, l1, l2, l3, some (.int x), l5, l6] S h = zD 152 24 [l0, l1, l2, zclr l3, some (.int (x + (1 : Int32))), l5, l6] S h) ∧
  (∀ (l0 l1 l2 l3 l4 l5 l6 : Option Value) (S : List Value) (h : zH), zD 152 24 [l0, l1, l2, l3, l4, l5, l6] S h = zD 152 3 [l0, l1, l2, l3, l4, l5, l6] S h) ∧
  (∀ (l0 l1 l2 l3 l4 l5 l6 : Option Value) (S : List Value) (h : zH), zD 152 27 [l0, l1, l2, l3, l4, l5, l6] S h = zD 152 28 [l0, l1, l2, l3, l4, l5, l6] (.int (1 : Int32) :: S) h) ∧
  (∀ (l0 l1 l2 l3 l4 l5 l6 : Option Value) (x : Int32) (r : List Value) (h : zH), zD 152 28 [l0, l1, l2, l3, l4, l5, l6] (.int x :: r) h = zD 152 30 [l0, l1, l2, zclr l3, some (.int x), l5, l6] r h) ∧
  (∀ (l0 l1 l3 l4 l5 l6 : Option Value) (x : Int32) (S : List Value) (h : zH), zD 152 32 [l0, l1, some (.int x), l3, l4, l5, l6] S h = zD 152 33 [l0, l1, some (.int x), l3, l4, l5, l6] (.int x :: S) h) ∧
  (∀ (l0 l1 l2 l3 l4 l5 l6 : Option Value) (x y : Int32) (r : List Value) (h : zH), zD 152 33 [l0, l1, l2, l3, l4, l5, l6] (.int y :: .int x :: r) h = if y < x then zD 152 101 [l0, l1, l2, l3, l4, l5, l6] r h else zD 152 36 [l0, l1, l2, l3, l4, l5, l6] r h) ∧
  (∀ (l0 l1 l2 l3 l4 l5 l6 : Option Value) (S : List Value) (h : zH), zD 152 36 [l0, l1, l2, l3, l4, l5, l6] S h = zD 152 37 [l0, l1, l2, l3, l4, l5, l6] (.int (0 : Int32) :: S) h) ∧
  (∀ (l0 l1 l2 l3 l4 l5 l6 : Option Value) (x : Int32) (r : List Value) (h : zH), zD 152 37 [l0, l1, l2, l3, l4, l5, l6] (.int x :: r) h = zD 152 39 [l0, l1, l2, l3, zclr l4, some (.int x), l6] r h) ∧
  (∀ (l0 l1 l2 l3 l5 l6 : Option Value) (x : Int32) (S : List Value) (h : zH), zD 152 41 [l0, l1, l2, l3, some (.int x), l5, l6] S h = zD 152 43 [l0, l1, l2, l3, some (.int x), l5, l6] (.int x :: S) h) ∧
  (∀ (l0 l1 l2 l3 l4 l5 l6 : Option Value) (x y : Int32) (r : List Value) (h : zH), zD 152 43 [l0, l1, l2, l3, l4, l5, l6] (.int y :: .int x :: r) h = zD 152 44 [l0, l1, l2, l3, l4, l5, l6] (.int (x + y) :: r) h) ∧
  (∀ (l0 l1 l3 l4 l5 l6 : Option Value) (x : Int32) (S : List Value) (h : zH), zD 152 44 [l0, l1, some (.int x), l3, l4, l5, l6] S h = zD 152 45 [l0, l1, some (.int x), l3, l4, l5, l6] (.int x :: S) h) ∧
  (∀ (l0 l1 l2 l3 l4 l5 l6 : Option Value) (x y : Int32) (r : List Value) (h : zH), zD 152 45 [l0, l1, l2, l3, l4, l5, l6] (.int y :: .int x :: r) h = if y < x then zD 152 95 [l0, l1, l2, l3, l4, l5, l6] r h else zD 152 48 [l0, l1, l2, l3, l4, l5, l6] r h) ∧
  (∀ (l0 l1 l2 l3 l4 l6 : Option Value) (x : Int32) (S : List Value) (h : zH), zD 152 48 [l0, l1, l2, l3, l4, some (.int x), l6] S h = zD 152 50 [l0, l1, l2, l3, l4, some (.int x), l6] (.int x :: S) h) ∧
  (∀ (l0 l1 l2 l3 l5 l6 : Option Value) (x : Int32) (S : List Value) (h : zH), zD 152 50 [l0, l1, l2, l3, some (.int x), l5, l6] S h = zD 152 52 [l0, l1, l2, l3, some (.int x), l5, l6] (.int x :: S) h) ∧
  (∀ (l0 l1 l2 l3 l4 l5 l6 : Option Value) (x y : Int32) (r : List Value) (h : zH), zD 152 52 [l0, l1, l2, l3, l4, l5, l6] (.int y :: .int x :: r) h = zD 152 53 [l0, l1, l2, l3, l4, l5, l6] (.int (x + y) :: r) h) ∧
  (∀ (l0 l1 l2 l3 l4 l5 l6 : Option Value) (x : Int32) (r : List Value) (h : zH), zD 152 53 [l0, l1, l2, l3, l4, l5, l6] (.int x :: r) h = zD 152 55 [l0, l1, l2, l3, l4, zclr l5, some (.int x)] r h) ∧
  (∀ (l1 l2 l3 l4 l5 l6 : Option Value) (x : Nat) (S : List Value) (h : zH), zD 152 55 [some (.ref x), l1, l2, l3, l4, l5, l6] S h = zD 152 56 [some (.ref x), l1, l2, l3, l4, l5, l6] (.ref x :: S) h) ∧
  (∀ (l0 l1 l2 l3 l4 l6 : Option Value) (x : Int32) (S : List Value) (h : zH), zD 152 56 [l0, l1, l2, l3, l4, some (.int x), l6] S h = zD 152 58 [l0, l1, l2, l3, l4, some (.int x), l6] (.int x :: S) h) ∧
  (∀ (l0 l1 l2 l3 l4 l5 : Option Value) (x : Int32) (S : List Value) (h : zH), zD 152 58 [l0, l1, l2, l3, l4, l5, some (.int x)] S h = zD 152 60 [l0, l1, l2, l3, l4, l5, some (.int x)] (.int x :: S) h) ∧
  (∀ (l0 l1 l2 l4 l5 l6 : Option Value) (x : Int32) (S : List Value) (h : zH), zD 152 60 [l0, l1, l2, some (.int x), l4, l5, l6] S h = zD 152 61 [l0, l1, l2, some (.int x), l4, l5, l6] (.int x :: S) h) ∧
  (∀ (l0 l1 l2 l3 l4 l5 l6 : Option Value) (p0 : Int32) (p1 : Int32) (p2 : Int32) (a : Nat) (r : List Value) (h : zH) (hcat : zcat r ≤ 8) (hr : zis (h.2.2 a) 5 = true) (hC : (zC 131 (.ref a :: [.int p0, .int p1, .int p2]) h).isSome = true), zD 152 61 [l0, l1, l2, l3, l4, l5, l6] (.int p2 :: .int p1 :: .int p0 :: .ref a :: r) h = zD 152 64 [l0, l1, l2, l3, l4, l5, l6] (zgv (zC 131 (.ref a :: [.int p0, .int p1, .int p2]) h) ++ r) (zgh h (zC 131 (.ref a :: [.int p0, .int p1, .int p2]) h))) ∧
  (∀ (l1 l2 l3 l4 l5 l6 : Option Value) (x : Nat) (S : List Value) (h : zH), zD 152 64 [some (.ref x), l1, l2, l3, l4, l5, l6] S h = zD 152 65 [some (.ref x), l1, l2, l3, l4, l5, l6] (.ref x :: S) h) ∧
  (∀ (l0 l2 l3 l4 l5 l6 : Option Value) (x : Nat) (S : List Value) (h : zH), zD 152 65 [l0, some (.ref x), l2, l3, l4, l5, l6] S h = zD 152 66 [l0, some (.ref x), l2, l3, l4, l5, l6] (.ref x :: S) h) ∧
  (∀ (l0 l2 l3 l4 l5 l6 : Option Value) (S : List Value) (h : zH), zD 152 65 [l0, some .null, l2, l3, l4, l5, l6] S h = zD 152 66 [l0, some .null, l2, l3, l4, l5, l6] (.null :: S) h) ∧
  (∀ (l0 l1 l2 l3 l4 l6 : Option Value) (x : Int32) (S : List Value) (h : zH), zD 152 66 [l0, l1, l2, l3, l4, some (.int x), l6] S h = zD 152 68 [l0, l1, l2, l3, l4, some (.int x), l6] (.int x :: S) h) ∧
  (∀ (l0 l1 l2 l3 l4 l5 : Option Value) (x : Int32) (S : List Value) (h : zH), zD 152 68 [l0, l1, l2, l3, l4, l5, some (.int x)] S h = zD 152 70 [l0, l1, l2, l3, l4, l5, some (.int x)] (.int x :: S) h) ∧
  (∀ (l0 l1 l2 l4 l5 l6 : Option Value) (x : Int32) (S : List Value) (h : zH), zD 152 70 [l0, l1, l2, some (.int x), l4, l5, l6] S h = zD 152 71 [l0, l1, l2, some (.int x), l4, l5, l6] (.int x :: S) h) ∧
  (∀ (l0 l1 l2 l3 l4 l5 l6 : Option Value) (p0 : Nat) (p1 : Int32) (p2 : Int32) (p3 : Int32) (a : Nat) (r : List Value) (h : zH) (hcat : zcat r ≤ 8) (hr : zis (h.2.2 a) 5 = true) (hC : (zC 132 (.ref a :: [.ref p0, .int p1, .int p2, .int p3]) h).isSome = true), zD 152 71 [l0, l1, l2, l3, l4, l5, l6] (.int p3 :: .int p2 :: .int p1 :: .ref p0 :: .ref a :: r) h = zD 152 74 [l0, l1, l2, l3, l4, l5, l6] (zgv (zC 132 (.ref a :: [.ref p0, .int p1, .int p2, .int p3]) h) ++ r) (zgh h (zC 132 (.ref a :: [.ref p0, .int p1, .int p2, .int p3]) h))) ∧
  (∀ (l0 l1 l2 l3 l4 l6 : Option Value) (x : Int32) (S : List Value) (h : zH), zD 152 74 [l0, l1, l2, l3, l4, some (.int x), l6] S h = zD 152 76 [l0, l1, l2, l3, l4, some (.int x), l6] (.int x :: S) h) ∧
  (∀ (l0 l1 l2 l3 l4 l5 l6 : Option Value) (x : Int32) (r : List Value) (h : zH), zD 152 76 [l0, l1, l2, l3, l4, l5, l6] (.int x :: r) h = if x ≤ 0 then zD 152 89 [l0, l1, l2, l3, l4, l5, l6] r h else zD 152 79 [l0, l1, l2, l3, l4, l5, l6] r h) ∧
  (∀ (l1 l2 l3 l4 l5 l6 : Option Value) (x : Nat) (S : List Value) (h : zH), zD 152 79 [some (.ref x), l1, l2, l3, l4, l5, l6] S h = zD 152 80 [some (.ref x), l1, l2, l3, l4, l5, l6] (.ref x :: S) h) ∧
  (∀ (l0 l2 l3 l4 l5 l6 : Option Value) (x : Nat) (S : List Value) (h : zH), zD 152 80 [l0, some (.ref x), l2, l3, l4, l5, l6] S h = zD 152 81 [l0, some (.ref x), l2, l3, l4, l5, l6] (.ref x :: S) h) ∧
  (∀ (l0 l2 l3 l4 l5 l6 : Option Value) (S : List Value) (h : zH), zD 152 80 [l0, some .null, l2, l3, l4, l5, l6] S h = zD 152 81 [l0, some .null, l2, l3, l4, l5, l6] (.null :: S) h) ∧
  (∀ (l0 l1 l2 l3 l4 l5 : Option Value) (x : Int32) (S : List Value) (h : zH), zD 152 81 [l0, l1, l2, l3, l4, l5, some (.int x)] S h = zD 152 83 [l0, l1, l2, l3, l4, l5, some (.int x)] (.int x :: S) h) ∧
  (∀ (l0 l1 l2 l3 l4 l6 : Option Value) (x : Int32) (S : List Value) (h : zH), zD 152 83 [l0, l1, l2, l3, l4, some (.int x), l6] S h = zD 152 85 [l0, l1, l2, l3, l4, some (.int x), l6] (.int x :: S) h) ∧
  (∀ (l0 l1 l2 l4 l5 l6 : Option Value) (x : Int32) (S : List Value) (h : zH), zD 152 85 [l0, l1, l2, some (.int x), l4, l5, l6] S h = zD 152 86 [l0, l1, l2, some (.int x), l4, l5, l6] (.int x :: S) h) ∧
  (∀ (l0 l1 l2 l3 l4 l5 l6 : Option Value) (p0 : Nat) (p1 : Int32) (p2 : Int32) (p3 : Int32) (a : Nat) (r : List Value) (h : zH) (hcat : zcat r ≤ 8) (hr : zis (h.2.2 a) 5 = true) (hC : (zC 132 (.ref a :: [.ref p0, .int p1, .int p2, .int p3]) h).isSome = true), zD 152 86 [l0, l1, l2, l3, l4, l5, l6] (.int p3 :: .int p2 :: .int p1 :: .ref p0 :: .ref a :: r) h = zD 152 89 [l0, l1, l2, l3, l4, l5, l6] (zgv (zC 132 (.ref a :: [.ref p0, .int p1, .int p2, .int p3]) h) ++ r) (zgh h (zC 132 (.ref a :: [.ref p0, .int p1, .int p2, .int p3]) h))) ∧
  (∀ (l0 l1 l2 l3 l4 l6 : Option Value) (x : Int32) (S : List Value) (h : zH), zD 152 89 [l0, l1, l2, l3, l4, some (.int x), l6] S h = zD 152 92 [l0, l1, l2, l3, zclr l4, some (.int (x + (1 : Int32))), l6] S h) ∧
  (∀ (l0 l1 l2 l3 l4 l5 l6 : Option Value) (S : List Value) (h : zH), zD 152 92 [l0, l1, l2, l3, l4, l5, l6] S h = zD 152 39 [l0, l1, l2, l3, l4, l5, l6] S h) ∧
  (∀ (l0 l1 l2 l3 l5 l6 : Option Value) (x : Int32) (S : List Value) (h : zH), zD 152 95 [l0, l1, l2, l3, some (.int x), l5, l6] S h = zD 152 98 [l0, l1, l2, zclr l3, some (.int (x + (1 : Int32))), l5, l6] S h) ∧
  (∀ (l0 l1 l2 l3 l4 l5 l6 : Option Value) (S : List Value) (h : zH), zD 152 98 [l0, l1, l2, l3, l4, l5, l6] S h = zD 152 30 [l0, l1, l2, l3, l4, l5, l6] S h) ∧
  (∀ (l1 l2 l3 l4 l5 l6 : Option Value) (x : Nat) (S : List Value) (h : zH), zD 152 101 [some (.ref x), l1, l2, l3, l4, l5, l6] S h = zD 152 102 [some (.ref x), l1, l2, l3, l4, l5, l6] (.ref x :: S) h) ∧
  (∀ (l0 l1 l2 l3 l4 l5 l6 : Option Value) (S : List Value) (h : zH), zD 152 102 [l0, l1, l2, l3, l4, l5, l6] S h = zD 152 103 [l0, l1, l2, l3, l4, l5, l6] (.int (0 : Int32) :: S) h) ∧
  (∀ (l0 l1 l3 l4 l5 l6 : Option Value) (x : Int32) (S : List Value) (h : zH), zD 152 103 [l0, l1, some (.int x), l3, l4, l5, l6] S h = zD 152 104 [l0, l1, some (.int x), l3, l4, l5, l6] (.int x :: S) h) ∧
  (∀ (l0 l1 l2 l3 l4 l5 l6 : Option Value) (p0 : Int32) (p1 : Int32) (a : Nat) (r : List Value) (h : zH) (hcat : zcat r ≤ 8) (hr : zis (h.2.2 a) 5 = true) (hC : (zC 61 (.ref a :: [.int p0, .int p1]) h).isSome = true), zD 152 104 [l0, l1, l2, l3, l4, l5, l6] (.int p1 :: .int p0 :: .ref a :: r) h = zD 152 107 [l0, l1, l2, l3, l4, l5, l6] (zgv (zC 61 (.ref a :: [.int p0, .int p1]) h) ++ r) (zgh h (zC 61 (.ref a :: [.int p0, .int p1]) h))) ∧
  (∀ (l0 l1 l2 l3 l4 l5 l6 : Option Value) (v : Nat) (h : zH), zD 152 107 [l0, l1, l2, l3, l4, l5, l6] [.ref v] h = some (some (.ref v), h)) ∧
  (∀ (l0 l1 l2 l3 l4 l5 l6 : Option Value) (h : zH), zD 152 107 [l0, l1, l2, l3, l4, l5, l6] [.null] h = some (some .null, h)) :=
  ⟨fun l0 l1 l2 l3 l4 l5 l6 S h => zD_icst (n := 0) (by decide +kernel) (by decide +kernel),
  fun l0 l1 l2 l3 l4 l5 l6 x r h => zD_st1 (k := 4) (ins := .istore 4) (len := 2) (by decide +kernel) rfl rfl rfl (by decide +kernel) rfl rfl,
  fun l0 l1 l3 l4 l5 l6 x S h => zD_op (ins := .iload_n 2) (len := 1) (c := (6, [l0, l1, some (.int x), l3, l4, l5, l6], (.int x :: S), h)) (by decide +kernel) rfl rfl rfl rfl,
  fun l0 l1 l2 l3 l4 l5 l6 x y r h => zD_if (cnd := .gt) (off := 21) (by decide +kernel) (by decide) rfl,
  fun l1 l2 l3 l4 l5 l6 x S h => zD_op (ins := .aload_n 0) (len := 1) (c := (10, [some (.ref x), l1, l2, l3, l4, l5, l6], (.ref x :: S), h)) (by decide +kernel) rfl rfl rfl rfl,
  fun l0 l1 l2 l3 l5 l6 x S h => zD_op (ins := .iload 4) (len := 2) (c := (12, [l0, l1, l2, l3, some (.int x), l5, l6], (.int x :: S), h)) (by decide +kernel) rfl rfl rfl rfl,
  fun l0 l1 l2 l3 l5 l6 x S h => zD_op (ins := .iload 4) (len := 2) (c := (14, [l0, l1, l2, l3, some (.int x), l5, l6], (.int x :: S), h)) (by decide +kernel) rfl rfl rfl rfl,
  fun l0 l1 l2 l3 l4 l5 l6 p0 p1 a r h hcat hr hC => zD_callv (i := 22) (y := 61) (n := 2) (as := [.int p0, .int p1]) (ci := 5) (by decide +kernel) (by decide +kernel) rfl (by decide +kernel) (Nat.le_of_ble_eq_true rfl) (by decide +kernel) hcat hr hC,
  fun l0 l1 l2 l4 l5 l6 x S h => zD_op (ins := .iload_n 3) (len := 1) (c := (18, [l0, l1, l2, some (.int x), l4, l5, l6], (.int x :: S), h)) (by decide +kernel) rfl rfl rfl rfl,
  fun l0 l1 l2 l3 l4 l5 l6 p0 a r h hcat hr hC => zD_callv (i := 26) (y := 102) (n := 1) (as := [.int p0]) (ci := 7) (by decide +kernel) (by decide +kernel) rfl (by decide +kernel) (Nat.le_of_ble_eq_true rfl) (by decide +kernel) hcat hr hC,
  fun l0 l1 l2 l3 l5 l6 x S h => zD_iinc (k := 4) (x := x) (c := (1 : Int32)) (n := 1) (by decide +kernel) (by decide +kernel) rfl (by decide +kernel) rfl,
  fun l0 l1 l2 l3 l4 l5 l6 S h => zD_goto (off := (-21)) (by decide +kernel) (by decide),
  fun l0 l1 l2 l3 l4 l5 l6 S h => zD_icst (n := 1) (by decide +kernel) (by decide +kernel),
  fun l0 l1 l2 l3 l4 l5 l6 x r h => zD_st1 (k := 4) (ins := .istore 4) (len := 2) (by decide +kernel) rfl rfl rfl (by decide +kernel) rfl rfl,
  fun l0 l1 l3 l4 l5 l6 x S h => zD_op (ins := .iload_n 2) (len := 1) (c := (33, [l0, l1, some (.int x), l3, l4, l5, l6], (.int x :: S), h)) (by decide +kernel) rfl rfl rfl rfl,
  fun l0 l1 l2 l3 l4 l5 l6 x y r h => zD_if (cnd := .gt) (off := 68) (by decide +kernel) (by decide) rfl,
  fun l0 l1 l2 l3 l4 l5 l6 S h => zD_icst (n := 0) (by decide +kernel) (by decide +kernel),
  fun l0 l1 l2 l3 l4 l5 l6 x r h => zD_st1 (k := 5) (ins := .istore 5) (len := 2) (by decide +kernel) rfl rfl rfl (by decide +kernel) rfl rfl,
  fun l0 l1 l2 l3 l5 l6 x S h => zD_op (ins := .iload 4) (len := 2) (c := (43, [l0, l1, l2, l3, some (.int x), l5, l6], (.int x :: S), h)) (by decide +kernel) rfl rfl rfl rfl,
  fun l0 l1 l2 l3 l4 l5 l6 x y r h => zD_op (ins := .iadd) (len := 1) (c := (44, [l0, l1, l2, l3, l4, l5, l6], (.int (x + y) :: r), h)) (by decide +kernel) rfl rfl rfl rfl,
  fun l0 l1 l3 l4 l5 l6 x S h => zD_op (ins := .iload_n 2) (len := 1) (c := (45, [l0, l1, some (.int x), l3, l4, l5, l6], (.int x :: S), h)) (by decide +kernel) rfl rfl rfl rfl,
  fun l0 l1 l2 l3 l4 l5 l6 x y r h => zD_if (cnd := .gt) (off := 50) (by decide +kernel) (by decide) rfl,
  fun l0 l1 l2 l3 l4 l6 x S h => zD_op (ins := .iload 5) (len := 2) (c := (50, [l0, l1, l2, l3, l4, some (.int x), l6], (.int x :: S), h)) (by decide +kernel) rfl rfl rfl rfl,
  fun l0 l1 l2 l3 l5 l6 x S h => zD_op (ins := .iload 4) (len := 2) (c := (52, [l0, l1, l2, l3, some (.int x), l5, l6], (.int x :: S), h)) (by decide +kernel) rfl rfl rfl rfl,
  fun l0 l1 l2 l3 l4 l5 l6 x y r h => zD_op (ins := .iadd) (len := 1) (c := (53, [l0, l1, l2, l3, l4, l5, l6], (.int (x + y) :: r), h)) (by decide +kernel) rfl rfl rfl rfl,
  fun l0 l1 l2 l3 l4 l5 l6 x r h => zD_st1 (k := 6) (ins := .istore 6) (len := 2) (by decide +kernel) rfl rfl rfl (by decide +kernel) rfl rfl,
  fun l1 l2 l3 l4 l5 l6 x S h => zD_op (ins := .aload_n 0) (len := 1) (c := (56, [some (.ref x), l1, l2, l3, l4, l5, l6], (.ref x :: S), h)) (by decide +kernel) rfl rfl rfl rfl,
  fun l0 l1 l2 l3 l4 l6 x S h => zD_op (ins := .iload 5) (len := 2) (c := (58, [l0, l1, l2, l3, l4, some (.int x), l6], (.int x :: S), h)) (by decide +kernel) rfl rfl rfl rfl,
  fun l0 l1 l2 l3 l4 l5 x S h => zD_op (ins := .iload 6) (len := 2) (c := (60, [l0, l1, l2, l3, l4, l5, some (.int x)], (.int x :: S), h)) (by decide +kernel) rfl rfl rfl rfl,
  fun l0 l1 l2 l4 l5 l6 x S h => zD_op (ins := .iload_n 3) (len := 1) (c := (61, [l0, l1, l2, some (.int x), l4, l5, l6], (.int x :: S), h)) (by decide +kernel) rfl rfl rfl rfl,
  fun l0 l1 l2 l3 l4 l5 l6 p0 p1 p2 a r h hcat hr hC => zD_callv (i := 32) (y := 131) (n := 3) (as := [.int p0, .int p1, .int p2]) (ci := 5) (by decide +kernel) (by decide +kernel) rfl (by decide +kernel) (Nat.le_of_ble_eq_true rfl) (by decide +kernel) hcat hr hC,
  fun l1 l2 l3 l4 l5 l6 x S h => zD_op (ins := .aload_n 0) (len := 1) (c := (65, [some (.ref x), l1, l2, l3, l4, l5, l6], (.ref x :: S), h)) (by decide +kernel) rfl rfl rfl rfl,
  fun l0 l2 l3 l4 l5 l6 x S h => zD_op (ins := .aload_n 1) (len := 1) (c := (66, [l0, some (.ref x), l2, l3, l4, l5, l6], (.ref x :: S), h)) (by decide +kernel) rfl rfl rfl rfl,
  fun l0 l2 l3 l4 l5 l6 S h => zD_op (ins := .aload_n 1) (len := 1) (c := (66, [l0, some .null, l2, l3, l4, l5, l6], (.null :: S), h)) (by decide +kernel) rfl rfl rfl rfl,
  fun l0 l1 l2 l3 l4 l6 x S h => zD_op (ins := .iload 5) (len := 2) (c := (68, [l0, l1, l2, l3, l4, some (.int x), l6], (.int x :: S), h)) (by decide +kernel) rfl rfl rfl rfl,
  fun l0 l1 l2 l3 l4 l5 x S h => zD_op (ins := .iload 6) (len := 2) (c := (70, [l0, l1, l2, l3, l4, l5, some (.int x)], (.int x :: S), h)) (by decide +kernel) rfl rfl rfl rfl,
  fun l0 l1 l2 l4 l5 l6 x S h => zD_op (ins := .iload_n 3) (len := 1) (c := (71, [l0, l1, l2, some (.int x), l4, l5, l6], (.int x :: S), h)) (by decide +kernel) rfl rfl rfl rfl,
  fun l0 l1 l2 l3 l4 l5 l6 p0 p1 p2 p3 a r h hcat hr hC => zD_callv (i := 36) (y := 132) (n := 4) (as := [.ref p0, .int p1, .int p2, .int p3]) (ci := 5) (by decide +kernel) (by decide +kernel) rfl (by decide +kernel) (Nat.le_of_ble_eq_true rfl) (by decide +kernel) hcat hr hC,
  fun l0 l1 l2 l3 l4 l6 x S h => zD_op (ins := .iload 5) (len := 2) (c := (76, [l0, l1, l2, l3, l4, some (.int x), l6], (.int x :: S), h)) (by decide +kernel) rfl rfl rfl rfl,
  fun l0 l1 l2 l3 l4 l5 l6 x r h => zD_if0 (cnd := .le) (off := 13) (by decide +kernel) (by decide) rfl,
  fun l1 l2 l3 l4 l5 l6 x S h => zD_op (ins := .aload_n 0) (len := 1) (c := (80, [some (.ref x), l1, l2, l3, l4, l5, l6], (.ref x :: S), h)) (by decide +kernel) rfl rfl rfl rfl,
  fun l0 l2 l3 l4 l5 l6 x S h => zD_op (ins := .aload_n 1) (len := 1) (c := (81, [l0, some (.ref x), l2, l3, l4, l5, l6], (.ref x :: S), h)) (by decide +kernel) rfl rfl rfl rfl,
  fun l0 l2 l3 l4 l5 l6 S h => zD_op (ins := .aload_n 1) (len := 1) (c := (81, [l0, some .null, l2, l3, l4, l5, l6], (.null :: S), h)) (by decide +kernel) rfl rfl rfl rfl,
  fun l0 l1 l2 l3 l4 l5 x S h => zD_op (ins := .iload 6) (len := 2) (c := (83, [l0, l1, l2, l3, l4, l5, some (.int x)], (.int x :: S), h)) (by decide +kernel) rfl rfl rfl rfl,
  fun l0 l1 l2 l3 l4 l6 x S h => zD_op (ins := .iload 5) (len := 2) (c := (85, [l0, l1, l2, l3, l4, some (.int x), l6], (.int x :: S), h)) (by decide +kernel) rfl rfl rfl rfl,
  fun l0 l1 l2 l4 l5 l6 x S h => zD_op (ins := .iload_n 3) (len := 1) (c := (86, [l0, l1, l2, some (.int x), l4, l5, l6], (.int x :: S), h)) (by decide +kernel) rfl rfl rfl rfl,
  fun l0 l1 l2 l3 l4 l5 l6 p0 p1 p2 p3 a r h hcat hr hC => zD_callv (i := 36) (y := 132) (n := 4) (as := [.ref p0, .int p1, .int p2, .int p3]) (ci := 5) (by decide +kernel) (by decide +kernel) rfl (by decide +kernel) (Nat.le_of_ble_eq_true rfl) (by decide +kernel) hcat hr hC,
  fun l0 l1 l2 l3 l4 l6 x S h => zD_iinc (k := 5) (x := x) (c := (1 : Int32)) (n := 1) (by decide +kernel) (by decide +kernel) rfl (by decide +kernel) rfl,
  fun l0 l1 l2 l3 l4 l5 l6 S h => zD_goto (off := (-53)) (by decide +kernel) (by decide),
  fun l0 l1 l2 l3 l5 l6 x S h => zD_iinc (k := 4) (x := x) (c := (1 : Int32)) (n := 1) (by decide +kernel) (by decide +kernel) rfl (by decide +kernel) rfl,
  fun l0 l1 l2 l3 l4 l5 l6 S h => zD_goto (off := (-68)) (by decide +kernel) (by decide),
  fun l1 l2 l3 l4 l5 l6 x S h => zD_op (ins := .aload_n 0) (len := 1) (c := (102, [some (.ref x), l1, l2, l3, l4, l5, l6], (.ref x :: S), h)) (by decide +kernel) rfl rfl rfl rfl,
  fun l0 l1 l2 l3 l4 l5 l6 S h => zD_icst (n := 0) (by decide +kernel) (by decide +kernel),
  fun l0 l1 l3 l4 l5 l6 x S h => zD_op (ins := .iload_n 2) (len := 1) (c := (104, [l0, l1, some (.int x), l3, l4, l5, l6], (.int x :: S), h)) (by decide +kernel) rfl rfl rfl rfl,
  fun l0 l1 l2 l3 l4 l5 l6 p0 p1 a r h hcat hr hC => zD_callv (i := 22) (y := 61) (n := 2) (as := [.int p0, .int p1]) (ci := 5) (by decide +kernel) (by decide +kernel) rfl (by decide +kernel) (Nat.le_of_ble_eq_true rfl) (by decide +kernel) hcat hr hC,
  fun l0 l1 l2 l3 l4 l5 l6 v h => zD_aret (by decide +kernel) rfl,
  fun l0 l1 l2 l3 l4 l5 l6 h => zD_aretn (by decide +kernel) rfl⟩
set_option maxRecDepth 100000 in
theorem E_X6_first_h3 : (∀ (l0 l1 l2 l3 l5 l6 : Option Value) (x : Int32) (S : List Value) (h : zH), zD 152 3 [l0, l1, l2, l3, some (.int x), l5, l6] S h = zD 152 5 [l0, l1, l2, l3, some (.int x), l5, l6] (.int x :: S) h) :=
  fun l0 l1 l2 l3 l5 l6 x S h => zD_op (ins := .iload 4) (len := 2) (c := (5, [l0, l1, l2, l3, some (.int x), l5, l6], (.int x :: S), h)) (by decide +kernel) rfl rfl rfl rfl
set_option maxRecDepth 100000 in
theorem E_X6_first_h30 : (∀ (l0 l1 l2 l3 l5 l6 : Option Value) (x : Int32) (S : List Value) (h : zH), zD 152 30 [l0, l1, l2, l3, some (.int x), l5, l6] S h = zD 152 32 [l0, l1, l2, l3, some (.int x), l5, l6] (.int x :: S) h) :=
  fun l0 l1 l2 l3 l5 l6 x S h => zD_op (ins := .iload 4) (len := 2) (c := (32, [l0, l1, l2, l3, some (.int x), l5, l6], (.int x :: S), h)) (by decide +kernel) rfl rfl rfl rfl
set_option maxRecDepth 100000 in
theorem E_X6_first_h39 : (∀ (l0 l1 l2 l3 l4 l6 : Option Value) (x : Int32) (S : List Value) (h : zH), zD 152 39 [l0, l1, l2, l3, l4, some (.int x), l6] S h = zD 152 41 [l0, l1, l2, l3, l4, some (.int x), l6] (.int x :: S) h) :=
  fun l0 l1 l2 l3 l4 l6 x S h => zD_op (ins := .iload 5) (len := 2) (c := (41, [l0, l1, l2, l3, l4, some (.int x), l6], (.int x :: S), h)) (by decide +kernel) rfl rfl rfl rfl
set_option maxRecDepth 100000 in
theorem I_X6_first : (∀ (a : Nat) (p0 : Nat) (p1 : Int32) (p2 : Int32) (h : zH), zC 152 [.ref a, .ref p0, .int p1, .int p2] h = zD 152 0 [some (.ref a), some (.ref p0), some (.int p1), some (.int p2), none, none, none] [] h) :=
  fun a p0 p1 p2 h => zC_def rfl
set_option maxRecDepth 100000 in
theorem E_X9_init : (∀ (l1 : Option Value) (x : Nat) (S : List Value) (h : zH), zD 153 0 [some (.ref x), l1] S h = zD 153 1 [some (.ref x), l1] (.ref x :: S) h) ∧
  (∀ (l0 l1 : Option Value) (a : Nat) (r : List Value) (h : zH) (hcat : zcat r ≤ 8), zD 153 1 [l0, l1] (.ref a :: r) h = zD 153 4 [l0, l1] r h) ∧
  (∀ (l1 : Option Value) (x : Nat) (S : List Value) (h : zH), zD 153 4 [some (.ref x), l1] S h = zD 153 5 [some (.ref x), l1] (.ref x :: S) h) ∧
  (∀ (l0 l1 : Option Value) (S : List Value) (h : zH), zD 153 5 [l0, l1] S h = zD 153 8 [l0, l1] (.ref h.1 :: S) (znew h 3 (.inr (3, [.null, .null, .int 0])))) ∧
  (∀ (l0 l1 : Option Value) (x : Int32) (r : List Value) (h : zH), zD 153 8 [l0, l1] (.int x :: r) h = zD 153 9 [l0, l1] (.int x :: .int x :: r) h) ∧
  (∀ (l0 l1 : Option Value) (x : Nat) (r : List Value) (h : zH), zD 153 8 [l0, l1] (.ref x :: r) h = zD 153 9 [l0, l1] (.ref x :: .ref x :: r) h) ∧
  (∀ (l0 l1 : Option Value) (a : Nat) (r : List Value) (h : zH) (hcat : zcat r ≤ 8) (hC : (zC 90 [.ref a] h).isSome = true), zD 153 9 [l0, l1] (.ref a :: r) h = zD 153 12 [l0, l1] (zgv (zC 90 [.ref a] h) ++ r) (zgh h (zC 90 [.ref a] h))) ∧
  (∀ (l0 l1 : Option Value) (v : Nat) (a : Nat) (r : List Value) (h : zH) (hx : zfok (h.2.2 a) 8 0 = true), zD 153 12 [l0, l1] (.ref v :: .ref a :: r) h = zD 153 15 [l0, l1] r (zw h a (zfs' (h.2.2 a) 0 (.ref v)))) ∧
  (∀ (l1 : Option Value) (x : Nat) (S : List Value) (h : zH), zD 153 15 [some (.ref x), l1] S h = zD 153 16 [some (.ref x), l1] (.ref x :: S) h) ∧
  (∀ (l0 l1 : Option Value) (S : List Value) (h : zH), zD 153 16 [l0, l1] S h = zD 153 19 [l0, l1] (.ref h.1 :: S) (znew h 2 (.inr (2, [.null, .null])))) ∧
  (∀ (l0 l1 : Option Value) (x : Int32) (r : List Value) (h : zH), zD 153 19 [l0, l1] (.int x :: r) h = zD 153 20 [l0, l1] (.int x :: .int x :: r) h) ∧
  (∀ (l0 l1 : Option Value) (x : Nat) (r : List Value) (h : zH), zD 153 19 [l0, l1] (.ref x :: r) h = zD 153 20 [l0, l1] (.ref x :: .ref x :: r) h) ∧
  (∀ (l0 l1 : Option Value) (a : Nat) (r : List Value) (h : zH) (hcat : zcat r ≤ 8) (hC : (zC 46 [.ref a] h).isSome = true), zD 153 20 [l0, l1] (.ref a :: r) h = zD 153 23 [l0, l1] (zgv (zC 46 [.ref a] h) ++ r) (zgh h (zC 46 [.ref a] h))) ∧
  (∀ (l0 l1 : Option Value) (v : Nat) (a : Nat) (r : List Value) (h : zH) (hx : zfok (h.2.2 a) 8 1 = true), zD 153 23 [l0, l1] (.ref v :: .ref a :: r) h = zD 153 26 [l0, l1] r (zw h a (zfs' (h.2.2 a) 1 (.ref v)))) ∧
  (∀ (l0 l1 : Option Value) (r : List Value) (h : zH) (hcat : zcat r ≤ 8) (hC : (zC 134 [] h).isSome = true), zD 153 26 [l0, l1] r h = zD 153 29 [l0, l1] (zgv (zC 134 [] h) ++ r) (zgh h (zC 134 [] h))) ∧
  (∀ (l0 l1 : Option Value) (x : Nat) (r : List Value) (h : zH), zD 153 29 [l0, l1] (.ref x :: r) h = zD 153 30 [zclr l0, some (.ref x)] r h) ∧
  (∀ (l0 l1 : Option Value) (r : List Value) (h : zH), zD 153 29 [l0, l1] (.null :: r) h = zD 153 30 [zclr l0, some .null] r h) ∧
  (∀ (l1 : Option Value) (x : Nat) (S : List Value) (h : zH), zD 153 30 [some (.ref x), l1] S h = zD 153 31 [some (.ref x), l1] (.ref x :: S) h) ∧
  (∀ (l0 l1 : Option Value) (S : List Value) (h : zH), zD 153 31 [l0, l1] S h = zD 153 34 [l0, l1] (.ref h.1 :: S) (znew h 2 (.inr (0, [.null, .null])))) ∧
  (∀ (l0 l1 : Option Value) (x : Int32) (r : List Value) (h : zH), zD 153 34 [l0, l1] (.int x :: r) h = zD 153 35 [l0, l1] (.int x :: .int x :: r) h) ∧
  (∀ (l0 l1 : Option Value) (x : Nat) (r : List Value) (h : zH), zD 153 34 [l0, l1] (.ref x :: r) h = zD 153 35 [l0, l1] (.ref x :: .ref x :: r) h) ∧
  (∀ (l0 : Option Value) (x : Nat) (S : List Value) (h : zH), zD 153 35 [l0, some (.ref x)] S h = zD 153 36 [l0, some (.ref x)] (.ref x :: S) h) ∧
  (∀ (l0 : Option Value) (S : List Value) (h : zH), zD 153 35 [l0, some .null] S h = zD 153 36 [l0, some .null] (.null :: S) h) ∧
  (∀ (l0 l1 : Option Value) (p0 : Nat) (a : Nat) (r : List Value) (h : zH) (hcat : zcat r ≤ 8) (hC : (zC 42 (.ref a :: [.ref p0]) h).isSome = true), zD 153 36 [l0, l1] (.ref p0 :: .ref a :: r) h = zD 153 39 [l0, l1] (zgv (zC 42 (.ref a :: [.ref p0]) h) ++ r) (zgh h (zC 42 (.ref a :: [.ref p0]) h))) ∧
  (∀ (l0 l1 : Option Value) (v : Nat) (a : Nat) (r : List Value) (h : zH) (hx : zfok (h.2.2 a) 8 2 = true), zD 153 39 [l0, l1] (.ref v :: .ref a :: r) h = zD 153 42 [l0, l1] r (zw h a (zfs' (h.2.2 a) 2 (.ref v)))) ∧
  (∀ (l1 : Option Value) (x : Nat) (S : List Value) (h : zH), zD 153 42 [some (.ref x), l1] S h = zD 153 43 [some (.ref x), l1] (.ref x :: S) h) ∧
  (∀ (l0 l1 : Option Value) (S : List Value) (h : zH), zD 153 43 [l0, l1] S h = zD 153 46 [l0, l1] (.ref h.1 :: S) (znew h 3 (.inr (5, [.null, .null, .null])))) ∧
  (∀ (l0 l1 : Option Value) (x : Int32) (r : List Value) (h : zH), zD 153 46 [l0, l1] (.int x :: r) h = zD 153 47 [l0, l1] (.int x :: .int x :: r) h) ∧
  (∀ (l0 l1 : Option Value) (x : Nat) (r : List Value) (h : zH), zD 153 46 [l0, l1] (.ref x :: r) h = zD 153 47 [l0, l1] (.ref x :: .ref x :: r) h) ∧
  (∀ (l0 : Option Value) (x : Nat) (S : List Value) (h : zH), zD 153 47 [l0, some (.ref x)] S h = zD 153 48 [l0, some (.ref x)] (.ref x :: S) h) ∧
  (∀ (l0 : Option Value) (S : List Value) (h : zH), zD 153 47 [l0, some .null] S h = zD 153 48 [l0, some .null] (.null :: S) h) ∧
  (∀ (l0 l1 : Option Value) (p0 : Nat) (a : Nat) (r : List Value) (h : zH) (hcat : zcat r ≤ 8) (hC : (zC 59 (.ref a :: [.ref p0]) h).isSome = true), zD 153 48 [l0, l1] (.ref p0 :: .ref a :: r) h = zD 153 51 [l0, l1] (zgv (zC 59 (.ref a :: [.ref p0]) h) ++ r) (zgh h (zC 59 (.ref a :: [.ref p0]) h))) ∧
  (∀ (l0 l1 : Option Value) (v : Nat) (a : Nat) (r : List Value) (h : zH) (hx : zfok (h.2.2 a) 8 3 = true), zD 153 51 [l0, l1] (.ref v :: .ref a :: r) h = zD 153 54 [l0, l1] r (zw h a (zfs' (h.2.2 a) 3 (.ref v)))) ∧
  (∀ (l1 : Option Value) (x : Nat) (S : List Value) (h : zH), zD 153 54 [some (.ref x), l1] S h = zD 153 55 [some (.ref x), l1] (.ref x :: S) h) ∧
  (∀ (l0 l1 : Option Value) (S : List Value) (h : zH), zD 153 55 [l0, l1] S h = zD 153 58 [l0, l1] (.ref h.1 :: S) (znew h 2 (.inr (1, [.null, .int 0])))) ∧
  (∀ (l0 l1 : Option Value) (x : Int32) (r : List Value) (h : zH), zD 153 58 [l0, l1] (.int x :: r) h = zD 153 59 [l0, l1] (.int x :: .int x :: r) h) ∧
  (∀ (l0 l1 : Option Value) (x : Nat) (r : List Value) (h : zH), zD 153 58 [l0, l1] (.ref x :: r) h = zD 153 59 [l0, l1] (.ref x :: .ref x :: r) h) ∧
  (∀ (l0 l1 : Option Value) (a : Nat) (r : List Value) (h : zH) (hcat : zcat r ≤ 8) (hC : (zC 44 [.ref a] h).isSome = true), zD 153 59 [l0, l1] (.ref a :: r) h = zD 153 62 [l0, l1] (zgv (zC 44 [.ref a] h) ++ r) (zgh h (zC 44 [.ref a] h))) ∧
  (∀ (l0 l1 : Option Value) (v : Nat) (a : Nat) (r : List Value) (h : zH) (hx : zfok (h.2.2 a) 8 4 = true), zD 153 62 [l0, l1] (.ref v :: .ref a :: r) h = zD 153 65 [l0, l1] r (zw h a (zfs' (h.2.2 a) 4 (.ref v)))) ∧
  (∀ (l1 : Option Value) (x : Nat) (S : List Value) (h : zH), zD 153 65 [some (.ref x), l1] S h = zD 153 66 [some (.ref x), l1] (.ref x :: S) h) ∧
  (∀ (l0 l1 : Option Value) (S : List Value) (h : zH), zD 153 66 [l0, l1] S h = zD 153 69 [l0, l1] (.ref h.1 :: S) (znew h 2 (.inr (6, [.null, .null])))) ∧
  (∀ (l0 l1 : Option Value) (x : Int32) (r : List Value) (h : zH), zD 153 69 [l0, l1] (.int x :: r) h = zD 153 70 [l0, l1] (.int x :: .int x :: r) h) ∧
  (∀ (l0 l1 : Option Value) (x : Nat) (r : List Value) (h : zH), zD 153 69 [l0, l1] (.ref x :: r) h = zD 153 70 [l0, l1] (.ref x :: .ref x :: r) h) ∧
  (∀ (l0 l1 : Option Value) (a : Nat) (r : List Value) (h : zH) (hcat : zcat r ≤ 8) (hC : (zC 63 [.ref a] h).isSome = true), zD 153 70 [l0, l1] (.ref a :: r) h = zD 153 73 [l0, l1] (zgv (zC 63 [.ref a] h) ++ r) (zgh h (zC 63 [.ref a] h))) ∧
  (∀ (l0 l1 : Option Value) (v : Nat) (a : Nat) (r : List Value) (h : zH) (hx : zfok (h.2.2 a) 8 5 = true), zD 153 73 [l0, l1] (.ref v :: .ref a :: r) h = zD 153 76 [l0, l1] r (zw h a (zfs' (h.2.2 a) 5 (.ref v)))) ∧
  (∀ (l1 : Option Value) (x : Nat) (S : List Value) (h : zH), zD 153 76 [some (.ref x), l1] S h = zD 153 77 [some (.ref x), l1] (.ref x :: S) h) ∧
  (∀ (l0 l1 : Option Value) (S : List Value) (h : zH), zD 153 77 [l0, l1] S h = zD 153 80 [l0, l1] (.ref h.1 :: S) (znew h 10 (.inr (4, [.null, .null, .null, .int 0, .null, .null, .null, .null, .int 0, .int 0])))) ∧
  (∀ (l0 l1 : Option Value) (x : Int32) (r : List Value) (h : zH), zD 153 80 [l0, l1] (.int x :: r) h = zD 153 81 [l0, l1] (.int x :: .int x :: r) h) ∧
  (∀ (l0 l1 : Option Value) (x : Nat) (r : List Value) (h : zH), zD 153 80 [l0, l1] (.ref x :: r) h = zD 153 81 [l0, l1] (.ref x :: .ref x :: r) h) ∧
  (∀ (l0 l1 : Option Value) (a : Nat) (r : List Value) (h : zH) (hcat : zcat r ≤ 8) (hC : (zC 56 [.ref a] h).isSome = true), zD 153 81 [l0, l1] (.ref a :: r) h = zD 153 84 [l0, l1] (zgv (zC 56 [.ref a] h) ++ r) (zgh h (zC 56 [.ref a] h))) ∧
  (∀ (l0 l1 : Option Value) (v : Nat) (a : Nat) (r : List Value) (h : zH) (hx : zfok (h.2.2 a) 8 6 = true), zD 153 84 [l0, l1] (.ref v :: .ref a :: r) h = zD 153 87 [l0, l1] r (zw h a (zfs' (h.2.2 a) 6 (.ref v)))) ∧
  (∀ (l0 l1 : Option Value) (h : zH), zD 153 87 [l0, l1] [] h = some (none, h)) :=
  ⟨fun l1 x S h => zD_op (ins := .aload_n 0) (len := 1) (c := (1, [some (.ref x), l1], (.ref x :: S), h)) (by decide +kernel) rfl rfl rfl rfl,
  fun l0 l1 a r h hcat => zD_obj (i := 3) (q := 61) (by decide +kernel) (by decide +kernel) (by decide +kernel) (by decide +kernel) hcat,
  fun l1 x S h => zD_op (ins := .aload_n 0) (len := 1) (c := (5, [some (.ref x), l1], (.ref x :: S), h)) (by decide +kernel) rfl rfl rfl rfl,
  fun l0 l1 S h => zD_new (i := 9) (ci := 3) (q := (64, 65, 42)) (by decide +kernel) (by decide +kernel) rfl rfl,
  fun l0 l1 x r h => zD_op (ins := .dup) (len := 1) (c := (9, [l0, l1], (.int x :: .int x :: r), h)) (by decide +kernel) rfl rfl rfl rfl,
  fun l0 l1 x r h => zD_op (ins := .dup) (len := 1) (c := (9, [l0, l1], (.ref x :: .ref x :: r), h)) (by decide +kernel) rfl rfl rfl rfl,
  fun l0 l1 a r h hcat hC => zD_calli (i := 11) (y := 90) (n := 0) (as := []) (by decide +kernel) (by decide +kernel) rfl (by decide +kernel) (Nat.le_of_ble_eq_true rfl) hcat hC,
  fun l0 l1 v a r h hx => zD_putf (i := 12) (ci := 8) (k := 0) (q := (248, 0)) (by decide +kernel) (by decide +kernel) (by decide +kernel) hx rfl rfl,
  fun l1 x S h => zD_op (ins := .aload_n 0) (len := 1) (c := (16, [some (.ref x), l1], (.ref x :: S), h)) (by decide +kernel) rfl rfl rfl rfl,
  fun l0 l1 S h => zD_new (i := 16) (ci := 2) (q := (99, 100, 44)) (by decide +kernel) (by decide +kernel) rfl rfl,
  fun l0 l1 x r h => zD_op (ins := .dup) (len := 1) (c := (20, [l0, l1], (.int x :: .int x :: r), h)) (by decide +kernel) rfl rfl rfl rfl,
  fun l0 l1 x r h => zD_op (ins := .dup) (len := 1) (c := (20, [l0, l1], (.ref x :: .ref x :: r), h)) (by decide +kernel) rfl rfl rfl rfl,
  fun l0 l1 a r h hcat hC => zD_calli (i := 18) (y := 46) (n := 0) (as := []) (by decide +kernel) (by decide +kernel) rfl (by decide +kernel) (Nat.le_of_ble_eq_true rfl) hcat hC,
  fun l0 l1 v a r h hx => zD_putf (i := 19) (ci := 8) (k := 1) (q := (249, 0)) (by decide +kernel) (by decide +kernel) (by decide +kernel) hx rfl rfl,
  fun l0 l1 r h hcat hC => zD_calls (i := 23) (y := 134) (n := 0) (as := []) (by decide +kernel) (by decide +kernel) rfl (by decide +kernel) (Nat.le_of_ble_eq_true rfl) hcat hC,
  fun l0 l1 x r h => zD_st1 (k := 1) (ins := .astore_n 1) (len := 1) (by decide +kernel) rfl rfl rfl (by decide +kernel) rfl rfl,
  fun l0 l1 r h => zD_st1 (k := 1) (ins := .astore_n 1) (len := 1) (by decide +kernel) rfl rfl rfl (by decide +kernel) rfl rfl,
  fun l1 x S h => zD_op (ins := .aload_n 0) (len := 1) (c := (31, [some (.ref x), l1], (.ref x :: S), h)) (by decide +kernel) rfl rfl rfl rfl,
  fun l0 l1 S h => zD_new (i := 29) (ci := 0) (q := (147, 148, 47)) (by decide +kernel) (by decide +kernel) rfl rfl,
  fun l0 l1 x r h => zD_op (ins := .dup) (len := 1) (c := (35, [l0, l1], (.int x :: .int x :: r), h)) (by decide +kernel) rfl rfl rfl rfl,
  fun l0 l1 x r h => zD_op (ins := .dup) (len := 1) (c := (35, [l0, l1], (.ref x :: .ref x :: r), h)) (by decide +kernel) rfl rfl rfl rfl,
  fun l0 x S h => zD_op (ins := .aload_n 1) (len := 1) (c := (36, [l0, some (.ref x)], (.ref x :: S), h)) (by decide +kernel) rfl rfl rfl rfl,
  fun l0 S h => zD_op (ins := .aload_n 1) (len := 1) (c := (36, [l0, some .null], (.null :: S), h)) (by decide +kernel) rfl rfl rfl rfl,
  fun l0 l1 p0 a r h hcat hC => zD_calli (i := 31) (y := 42) (n := 1) (as := [.ref p0]) (by decide +kernel) (by decide +kernel) rfl (by decide +kernel) (Nat.le_of_ble_eq_true rfl) hcat hC,
  fun l0 l1 v a r h hx => zD_putf (i := 34) (ci := 8) (k := 2) (q := (250, 0)) (by decide +kernel) (by decide +kernel) (by decide +kernel) hx rfl rfl,
  fun l1 x S h => zD_op (ins := .aload_n 0) (len := 1) (c := (43, [some (.ref x), l1], (.ref x :: S), h)) (by decide +kernel) rfl rfl rfl rfl,
  fun l0 l1 S h => zD_new (i := 38) (ci := 5) (q := (160, 161, 48)) (by decide +kernel) (by decide +kernel) rfl rfl,
  fun l0 l1 x r h => zD_op (ins := .dup) (len := 1) (c := (47, [l0, l1], (.int x :: .int x :: r), h)) (by decide +kernel) rfl rfl rfl rfl,
  fun l0 l1 x r h => zD_op (ins := .dup) (len := 1) (c := (47, [l0, l1], (.ref x :: .ref x :: r), h)) (by decide +kernel) rfl rfl rfl rfl,
  fun l0 x S h => zD_op (ins := .aload_n 1) (len := 1) (c := (48, [l0, some (.ref x)], (.ref x :: S), h)) (by decide +kernel) rfl rfl rfl rfl,
  fun l0 S h => zD_op (ins := .aload_n 1) (len := 1) (c := (48, [l0, some .null], (.null :: S), h)) (by decide +kernel) rfl rfl rfl rfl,
  fun l0 l1 p0 a r h hcat hC => zD_calli (i := 40) (y := 59) (n := 1) (as := [.ref p0]) (by decide +kernel) (by decide +kernel) rfl (by decide +kernel) (Nat.le_of_ble_eq_true rfl) hcat hC,
  fun l0 l1 v a r h hx => zD_putf (i := 41) (ci := 8) (k := 3) (q := (251, 0)) (by decide +kernel) (by decide +kernel) (by decide +kernel) hx rfl rfl,
  fun l1 x S h => zD_op (ins := .aload_n 0) (len := 1) (c := (55, [some (.ref x), l1], (.ref x :: S), h)) (by decide +kernel) rfl rfl rfl rfl,
  fun l0 l1 S h => zD_new (i := 45) (ci := 1) (q := (176, 177, 49)) (by decide +kernel) (by decide +kernel) rfl rfl,
  fun l0 l1 x r h => zD_op (ins := .dup) (len := 1) (c := (59, [l0, l1], (.int x :: .int x :: r), h)) (by decide +kernel) rfl rfl rfl rfl,
  fun l0 l1 x r h => zD_op (ins := .dup) (len := 1) (c := (59, [l0, l1], (.ref x :: .ref x :: r), h)) (by decide +kernel) rfl rfl rfl rfl,
  fun l0 l1 a r h hcat hC => zD_calli (i := 47) (y := 44) (n := 0) (as := []) (by decide +kernel) (by decide +kernel) rfl (by decide +kernel) (Nat.le_of_ble_eq_true rfl) hcat hC,
  fun l0 l1 v a r h hx => zD_putf (i := 48) (ci := 8) (k := 4) (q := (252, 0)) (by decide +kernel) (by decide +kernel) (by decide +kernel) hx rfl rfl,
  fun l1 x S h => zD_op (ins := .aload_n 0) (len := 1) (c := (66, [some (.ref x), l1], (.ref x :: S), h)) (by decide +kernel) rfl rfl rfl rfl,
  fun l0 l1 S h => zD_new (i := 52) (ci := 6) (q := (192, 193, 50)) (by decide +kernel) (by decide +kernel) rfl rfl,
  fun l0 l1 x r h => zD_op (ins := .dup) (len := 1) (c := (70, [l0, l1], (.int x :: .int x :: r), h)) (by decide +kernel) rfl rfl rfl rfl,
  fun l0 l1 x r h => zD_op (ins := .dup) (len := 1) (c := (70, [l0, l1], (.ref x :: .ref x :: r), h)) (by decide +kernel) rfl rfl rfl rfl,
  fun l0 l1 a r h hcat hC => zD_calli (i := 54) (y := 63) (n := 0) (as := []) (by decide +kernel) (by decide +kernel) rfl (by decide +kernel) (Nat.le_of_ble_eq_true rfl) hcat hC,
  fun l0 l1 v a r h hx => zD_putf (i := 55) (ci := 8) (k := 5) (q := (253, 0)) (by decide +kernel) (by decide +kernel) (by decide +kernel) hx rfl rfl,
  fun l1 x S h => zD_op (ins := .aload_n 0) (len := 1) (c := (77, [some (.ref x), l1], (.ref x :: S), h)) (by decide +kernel) rfl rfl rfl rfl,
  fun l0 l1 S h => zD_new (i := 59) (ci := 4) (q := (206, 207, 51)) (by decide +kernel) (by decide +kernel) rfl rfl,
  fun l0 l1 x r h => zD_op (ins := .dup) (len := 1) (c := (81, [l0, l1], (.int x :: .int x :: r), h)) (by decide +kernel) rfl rfl rfl rfl,
  fun l0 l1 x r h => zD_op (ins := .dup) (len := 1) (c := (81, [l0, l1], (.ref x :: .ref x :: r), h)) (by decide +kernel) rfl rfl rfl rfl,
  fun l0 l1 a r h hcat hC => zD_calli (i := 61) (y := 56) (n := 0) (as := []) (by decide +kernel) (by decide +kernel) rfl (by decide +kernel) (Nat.le_of_ble_eq_true rfl) hcat hC,
  fun l0 l1 v a r h hx => zD_putf (i := 62) (ci := 8) (k := 6) (q := (254, 0)) (by decide +kernel) (by decide +kernel) (by decide +kernel) hx rfl rfl,
  fun l0 l1 h => zD_vret (by decide +kernel) rfl⟩
set_option maxRecDepth 100000 in
theorem I_X9_init : (∀ (a : Nat) (h : zH), zC 153 [.ref a] h = zD 153 0 [some (.ref a), none] [] h) :=
  fun a h => zC_def rfl
set_option maxRecDepth 100000 in
theorem E_X9_sum : (∀ (x : Nat) (S : List Value) (h : zH), zD 154 0 [some (.ref x)] S h = zD 154 1 [some (.ref x)] (.ref x :: S) h) ∧
  (∀ (l0 : Option Value) (a : Nat) (r : List Value) (h : zH) (hx : zfok (h.2.2 a) 8 1 = true), zD 154 1 [l0] (.ref a :: r) h = zD 154 4 [l0] (zfv (h.2.2 a) 1 :: r) h) ∧
  (∀ (x : Nat) (S : List Value) (h : zH), zD 154 4 [some (.ref x)] S h = zD 154 5 [some (.ref x)] (.ref x :: S) h) ∧
  (∀ (l0 : Option Value) (a : Nat) (r : List Value) (h : zH) (hx : zfok (h.2.2 a) 8 0 = true), zD 154 5 [l0] (.ref a :: r) h = zD 154 8 [l0] (zfv (h.2.2 a) 0 :: r) h) ∧
  (∀ (l0 : Option Value) (p0 : Nat) (a : Nat) (r : List Value) (h : zH) (hcat : zcat r ≤ 8) (hr : zis (h.2.2 a) 2 = true) (hC : (zC 129 (.ref a :: [.ref p0]) h).isSome = true), zD 154 8 [l0] (.ref p0 :: .ref a :: r) h = zD 154 11 [l0] (zgv (zC 129 (.ref a :: [.ref p0]) h) ++ r) (zgh h (zC 129 (.ref a :: [.ref p0]) h))) ∧
  (∀ (l0 : Option Value) (p0 : Int64) (r : List Value) (h : zH) (hcat : zcat r ≤ 8) (hC : (zC 10 [.long p0] h).isSome = true), zD 154 11 [l0] (.long p0 :: r) h = zD 154 14 [l0] (zgv (zC 10 [.long p0] h) ++ r) (zgh h (zC 10 [.long p0] h))) ∧
  (∀ (l0 : Option Value) (v : Int32) (h : zH), zD 154 14 [l0] [.int v] h = some (some (.int v), h)) :=
  ⟨fun x S h => zD_op (ins := .aload_n 0) (len := 1) (c := (1, [some (.ref x)], (.ref x :: S), h)) (by decide +kernel) rfl rfl rfl rfl,
  fun l0 a r h hx => zD_getf (i := 19) (ci := 8) (k := 1) (q := (249, 0)) (by decide +kernel) (by decide +kernel) hx,
  fun x S h => zD_op (ins := .aload_n 0) (len := 1) (c := (5, [some (.ref x)], (.ref x :: S), h)) (by decide +kernel) rfl rfl rfl rfl,
  fun l0 a r h hx => zD_getf (i := 12) (ci := 8) (k := 0) (q := (248, 0)) (by decide +kernel) (by decide +kernel) hx,
  fun l0 p0 a r h hcat hr hC => zD_callv (i := 114) (y := 129) (n := 1) (as := [.ref p0]) (ci := 2) (by decide +kernel) (by decide +kernel) rfl (by decide +kernel) (Nat.le_of_ble_eq_true rfl) (by decide +kernel) hcat hr hC,
  fun l0 p0 r h hcat hC => zD_calls (i := 118) (y := 10) (n := 1) (as := [.long p0]) (by decide +kernel) (by decide +kernel) rfl (by decide +kernel) (Nat.le_of_ble_eq_true rfl) hcat hC,
  fun l0 v h => zD_ireti (by decide +kernel) rfl⟩
set_option maxRecDepth 100000 in
theorem I_X9_sum : (∀ (a : Nat) (h : zH), zC 154 [.ref a] h = zD 154 0 [some (.ref a)] [] h) :=
  fun a h => zC_def rfl
set_option maxRecDepth 100000 in
theorem E_X9_trees : (∀ (l0 : Option Value) (x : Int32) (S : List Value) (h : zH), zD 155 0 [l0, some (.int x)] S h = zD 155 1 [l0, some (.int x)] (.int x :: S) h) ∧
  (∀ (l0 l1 : Option Value) (p0 : Int32) (r : List Value) (h : zH) (hcat : zcat r ≤ 8) (hC : (zC 24 [.int p0] h).isSome = true), zD 155 1 [l0, l1] (.int p0 :: r) h = zD 155 4 [l0, l1] (zgv (zC 24 [.int p0] h) ++ r) (zgh h (zC 24 [.int p0] h))) ∧
  (∀ (l0 l1 : Option Value) (x : Int32) (r : List Value) (h : zH), zD 155 4 [l0, l1] (.int x :: r) h = if ¬ x = 0 then zD 155 11 [l0, l1] r h else zD 155 7 [l0, l1] r h) ∧
  (∀ (l0 l1 : Option Value) (S : List Value) (h : zH), zD 155 7 [l0, l1] S h = zD 155 10 [l0, l1] (.long (-102 : Int64) :: S) h) ∧
  (∀ (l0 l1 : Option Value) (v : Int64) (h : zH), zD 155 10 [l0, l1] [.long v] h = some (some (.long v), h)) ∧
  (∀ (l0 : Option Value) (x : Int32) (S : List Value) (h : zH), zD 155 11 [l0, some (.int x)] S h = zD 155 12 [l0, some (.int x)] (.int x :: S) h) ∧
  (∀ (l0 l1 : Option Value) (S : List Value) (h : zH), zD 155 12 [l0, l1] S h = zD 155 13 [l0, l1] (.int (1 : Int32) :: S) h) ∧
  (∀ (l0 l1 : Option Value) (x y : Int32) (r : List Value) (h : zH), zD 155 13 [l0, l1] (.int y :: .int x :: r) h = if ¬ x = y then zD 155 37 [l0, l1] r h else zD 155 16 [l0, l1] r h) ∧
  (∀ (l1 : Option Value) (x : Nat) (S : List Value) (h : zH), zD 155 16 [some (.ref x), l1] S h = zD 155 17 [some (.ref x), l1] (.ref x :: S) h) ∧
  (∀ (l0 l1 : Option Value) (a : Nat) (r : List Value) (h : zH) (hx : zfok (h.2.2 a) 8 3 = true), zD 155 17 [l0, l1] (.ref a :: r) h = zD 155 20 [l0, l1] (zfv (h.2.2 a) 3 :: r) h) ∧
  (∀ (l1 : Option Value) (x : Nat) (S : List Value) (h : zH), zD 155 20 [some (.ref x), l1] S h = zD 155 21 [some (.ref x), l1] (.ref x :: S) h) ∧
  (∀ (l0 l1 : Option Value) (a : Nat) (r : List Value) (h : zH) (hx : zfok (h.2.2 a) 8 1 = true), zD 155 21 [l0, l1] (.ref a :: r) h = zD 155 24 [l0, l1] (zfv (h.2.2 a) 1 :: r) h) ∧
  (∀ (l1 : Option Value) (x : Nat) (S : List Value) (h : zH), zD 155 24 [some (.ref x), l1] S h = zD 155 25 [some (.ref x), l1] (.ref x :: S) h) ∧
  (∀ (l0 l1 : Option Value) (a : Nat) (r : List Value) (h : zH) (hx : zfok (h.2.2 a) 8 0 = true), zD 155 25 [l0, l1] (.ref a :: r) h = zD 155 28 [l0, l1] (zfv (h.2.2 a) 0 :: r) h) ∧
  (∀ (l0 l1 : Option Value) (a : Nat) (r : List Value) (h : zH) (hx : zfok (h.2.2 a) 3 2 = true), zD 155 28 [l0, l1] (.ref a :: r) h = zD 155 31 [l0, l1] (zfv (h.2.2 a) 2 :: r) h) ∧
  (∀ (l0 l1 : Option Value) (p0 : Nat) (p1 : Int32) (a : Nat) (r : List Value) (h : zH) (hcat : zcat r ≤ 8) (hr : zis (h.2.2 a) 5 = true) (hC : (zC 133 (.ref a :: [.ref p0, .int p1]) h).isSome = true), zD 155 31 [l0, l1] (.int p1 :: .ref p0 :: .ref a :: r) h = zD 155 34 [l0, l1] (zgv (zC 133 (.ref a :: [.ref p0, .int p1]) h) ++ r) (zgh h (zC 133 (.ref a :: [.ref p0, .int p1]) h))) ∧
  (∀ (l0 l1 : Option Value) (S : List Value) (h : zH), zD 155 34 [l0, l1] S h = zD 155 55 [l0, l1] S h) ∧
  (∀ (l1 : Option Value) (x : Nat) (S : List Value) (h : zH), zD 155 37 [some (.ref x), l1] S h = zD 155 38 [some (.ref x), l1] (.ref x :: S) h) ∧
  (∀ (l0 l1 : Option Value) (a : Nat) (r : List Value) (h : zH) (hx : zfok (h.2.2 a) 8 2 = true), zD 155 38 [l0, l1] (.ref a :: r) h = zD 155 41 [l0, l1] (zfv (h.2.2 a) 2 :: r) h) ∧
  (∀ (l1 : Option Value) (x : Nat) (S : List Value) (h : zH), zD 155 41 [some (.ref x), l1] S h = zD 155 42 [some (.ref x), l1] (.ref x :: S) h) ∧
  (∀ (l0 l1 : Option Value) (a : Nat) (r : List Value) (h : zH) (hx : zfok (h.2.2 a) 8 1 = true), zD 155 42 [l0, l1] (.ref a :: r) h = zD 155 45 [l0, l1] (zfv (h.2.2 a) 1 :: r) h) ∧
  (∀ (l1 : Option Value) (x : Nat) (S : List Value) (h : zH), zD 155 45 [some (.ref x), l1] S h = zD 155 46 [some (.ref x), l1] (.ref x :: S) h) ∧
  (∀ (l0 l1 : Option Value) (a : Nat) (r : List Value) (h : zH) (hx : zfok (h.2.2 a) 8 0 = true), zD 155 46 [l0, l1] (.ref a :: r) h = zD 155 49 [l0, l1] (zfv (h.2.2 a) 0 :: r) h) ∧
  (∀ (l0 l1 : Option Value) (a : Nat) (r : List Value) (h : zH) (hx : zfok (h.2.2 a) 3 2 = true), zD 155 49 [l0, l1] (.ref a :: r) h = zD 155 52 [l0, l1] (zfv (h.2.2 a) 2 :: r) h) ∧
  (∀ (l0 l1 : Option Value) (p0 : Nat) (p1 : Int32) (a : Nat) (r : List Value) (h : zH) (hcat : zcat r ≤ 8) (hr : zis (h.2.2 a) 0 = true) (hC : (zC 127 (.ref a :: [.ref p0, .int p1]) h).isSome = true), zD 155 52 [l0, l1] (.int p1 :: .ref p0 :: .ref a :: r) h = zD 155 55 [l0, l1] (zgv (zC 127 (.ref a :: [.ref p0, .int p1]) h) ++ r) (zgh h (zC 127 (.ref a :: [.ref p0, .int p1]) h))) ∧
  (∀ (l0 l1 : Option Value) (v : Int64) (h : zH), zD 155 55 [l0, l1] [.long v] h = some (some (.long v), h)) :=
  ⟨fun l0 x S h => zD_op (ins := .iload_n 1) (len := 1) (c := (1, [l0, some (.int x)], (.int x :: S), h)) (by decide +kernel) rfl rfl rfl rfl,
  fun l0 l1 p0 r h hcat hC => zD_calls (i := 143) (y := 24) (n := 1) (as := [.int p0]) (by decide +kernel) (by decide +kernel) rfl (by decide +kernel) (Nat.le_of_ble_eq_true rfl) hcat hC,
  fun l0 l1 x r h => zD_if0 (cnd := .ne) (off := 7) (by decide +kernel) (by decide) rfl,
  fun l0 l1 S h => zD_ldc2 (i := 164) (q := 500) (by decide +kernel) (by decide +kernel),
  fun l0 l1 v h => zD_lret (by decide +kernel) rfl,
  fun l0 x S h => zD_op (ins := .iload_n 1) (len := 1) (c := (12, [l0, some (.int x)], (.int x :: S), h)) (by decide +kernel) rfl rfl rfl rfl,
  fun l0 l1 S h => zD_icst (n := 1) (by decide +kernel) (by decide +kernel),
  fun l0 l1 x y r h => zD_if (cnd := .ne) (off := 24) (by decide +kernel) (by decide) rfl,
  fun l1 x S h => zD_op (ins := .aload_n 0) (len := 1) (c := (17, [some (.ref x), l1], (.ref x :: S), h)) (by decide +kernel) rfl rfl rfl rfl,
  fun l0 l1 a r h hx => zD_getf (i := 41) (ci := 8) (k := 3) (q := (251, 0)) (by decide +kernel) (by decide +kernel) hx,
  fun l1 x S h => zD_op (ins := .aload_n 0) (len := 1) (c := (21, [some (.ref x), l1], (.ref x :: S), h)) (by decide +kernel) rfl rfl rfl rfl,
  fun l0 l1 a r h hx => zD_getf (i := 19) (ci := 8) (k := 1) (q := (249, 0)) (by decide +kernel) (by decide +kernel) hx,
  fun l1 x S h => zD_op (ins := .aload_n 0) (len := 1) (c := (25, [some (.ref x), l1], (.ref x :: S), h)) (by decide +kernel) rfl rfl rfl rfl,
  fun l0 l1 a r h hx => zD_getf (i := 12) (ci := 8) (k := 0) (q := (248, 0)) (by decide +kernel) (by decide +kernel) hx,
  fun l0 l1 a r h hx => zD_getf (i := 166) (ci := 3) (k := 2) (q := (90, 1)) (by decide +kernel) (by decide +kernel) hx,
  fun l0 l1 p0 p1 a r h hcat hr hC => zD_callv (i := 167) (y := 133) (n := 2) (as := [.ref p0, .int p1]) (ci := 5) (by decide +kernel) (by decide +kernel) rfl (by decide +kernel) (Nat.le_of_ble_eq_true rfl) (by decide +kernel) hcat hr hC,
  fun l0 l1 S h => zD_goto (off := 21) (by decide +kernel) (by decide),
  fun l1 x S h => zD_op (ins := .aload_n 0) (len := 1) (c := (38, [some (.ref x), l1], (.ref x :: S), h)) (by decide +kernel) rfl rfl rfl rfl,
  fun l0 l1 a r h hx => zD_getf (i := 34) (ci := 8) (k := 2) (q := (250, 0)) (by decide +kernel) (by decide +kernel) hx,
  fun l1 x S h => zD_op (ins := .aload_n 0) (len := 1) (c := (42, [some (.ref x), l1], (.ref x :: S), h)) (by decide +kernel) rfl rfl rfl rfl,
  fun l0 l1 a r h hx => zD_getf (i := 19) (ci := 8) (k := 1) (q := (249, 0)) (by decide +kernel) (by decide +kernel) hx,
  fun l1 x S h => zD_op (ins := .aload_n 0) (len := 1) (c := (46, [some (.ref x), l1], (.ref x :: S), h)) (by decide +kernel) rfl rfl rfl rfl,
  fun l0 l1 a r h hx => zD_getf (i := 12) (ci := 8) (k := 0) (q := (248, 0)) (by decide +kernel) (by decide +kernel) hx,
  fun l0 l1 a r h hx => zD_getf (i := 166) (ci := 3) (k := 2) (q := (90, 1)) (by decide +kernel) (by decide +kernel) hx,
  fun l0 l1 p0 p1 a r h hcat hr hC => zD_callv (i := 171) (y := 127) (n := 2) (as := [.ref p0, .int p1]) (ci := 0) (by decide +kernel) (by decide +kernel) rfl (by decide +kernel) (Nat.le_of_ble_eq_true rfl) (by decide +kernel) hcat hr hC,
  fun l0 l1 v h => zD_lret (by decide +kernel) rfl⟩
set_option maxRecDepth 100000 in
theorem I_X9_trees : (∀ (a : Nat) (p0 : Int32) (h : zH), zC 155 [.ref a, .int p0] h = zD 155 0 [some (.ref a), some (.int p0)] [] h) :=
  fun a p0 h => zC_def rfl
set_option maxRecDepth 100000 in
theorem E_X9_keep : (∀ (l1 : Option Value) (x : Nat) (S : List Value) (h : zH), zD 156 0 [some (.ref x), l1] S h = zD 156 1 [some (.ref x), l1] (.ref x :: S) h) ∧
  (∀ (l0 l1 : Option Value) (a : Nat) (r : List Value) (h : zH) (hx : zfok (h.2.2 a) 8 0 = true), zD 156 1 [l0, l1] (.ref a :: r) h = zD 156 4 [l0, l1] (zfv (h.2.2 a) 0 :: r) h) ∧
  (∀ (l0 l1 : Option Value) (a : Nat) (r : List Value) (h : zH) (hcat : zcat r ≤ 8) (hr : zis (h.2.2 a) 3 = true) (hC : (zC 92 [.ref a] h).isSome = true), zD 156 4 [l0, l1] (.ref a :: r) h = zD 156 7 [l0, l1] (zgv (zC 92 [.ref a] h) ++ r) (zgh h (zC 92 [.ref a] h))) ∧
  (∀ (l0 l1 : Option Value) (x : Int32) (r : List Value) (h : zH), zD 156 7 [l0, l1] (.int x :: r) h = if ¬ x = 0 then zD 156 13 [l0, l1] r h else zD 156 10 [l0, l1] r h) ∧
  (∀ (l0 l1 : Option Value) (S : List Value) (h : zH), zD 156 10 [l0, l1] S h = zD 156 12 [l0, l1] (.int (-103 : Int32) :: S) h) ∧
  (∀ (l0 l1 : Option Value) (v : Int32) (h : zH), zD 156 12 [l0, l1] [.int v] h = some (some (.int v), h)) ∧
  (∀ (l1 : Option Value) (x : Nat) (S : List Value) (h : zH), zD 156 13 [some (.ref x), l1] S h = zD 156 14 [some (.ref x), l1] (.ref x :: S) h) ∧
  (∀ (l0 l1 : Option Value) (a : Nat) (r : List Value) (h : zH) (hx : zfok (h.2.2 a) 8 4 = true), zD 156 14 [l0, l1] (.ref a :: r) h = zD 156 17 [l0, l1] (zfv (h.2.2 a) 4 :: r) h) ∧
  (∀ (l1 : Option Value) (x : Nat) (S : List Value) (h : zH), zD 156 17 [some (.ref x), l1] S h = zD 156 18 [some (.ref x), l1] (.ref x :: S) h) ∧
  (∀ (l0 l1 : Option Value) (a : Nat) (r : List Value) (h : zH) (hx : zfok (h.2.2 a) 8 0 = true), zD 156 18 [l0, l1] (.ref a :: r) h = zD 156 21 [l0, l1] (zfv (h.2.2 a) 0 :: r) h) ∧
  (∀ (l0 l1 : Option Value) (p0 : Nat) (a : Nat) (r : List Value) (h : zH) (hcat : zcat r ≤ 8) (hr : zis (h.2.2 a) 1 = true) (hC : (zC 128 (.ref a :: [.ref p0]) h).isSome = true), zD 156 21 [l0, l1] (.ref p0 :: .ref a :: r) h = zD 156 24 [l0, l1] (zgv (zC 128 (.ref a :: [.ref p0]) h) ++ r) (zgh h (zC 128 (.ref a :: [.ref p0]) h))) ∧
  (∀ (l0 l1 : Option Value) (x : Int32) (r : List Value) (h : zH), zD 156 24 [l0, l1] (.int x :: r) h = zD 156 25 [zclr l0, some (.int x)] r h) ∧
  (∀ (l0 : Option Value) (x : Int32) (S : List Value) (h : zH), zD 156 25 [l0, some (.int x)] S h = zD 156 26 [l0, some (.int x)] (.int x :: S) h) ∧
  (∀ (l0 l1 : Option Value) (x : Int32) (r : List Value) (h : zH), zD 156 26 [l0, l1] (.int x :: r) h = if x < 0 then zD 156 41 [l0, l1] r h else zD 156 29 [l0, l1] r h) ∧
  (∀ (l1 : Option Value) (x : Nat) (S : List Value) (h : zH), zD 156 29 [some (.ref x), l1] S h = zD 156 30 [some (.ref x), l1] (.ref x :: S) h) ∧
  (∀ (l0 l1 : Option Value) (a : Nat) (r : List Value) (h : zH) (hx : zfok (h.2.2 a) 8 5 = true), zD 156 30 [l0, l1] (.ref a :: r) h = zD 156 33 [l0, l1] (zfv (h.2.2 a) 5 :: r) h) ∧
  (∀ (l1 : Option Value) (x : Nat) (S : List Value) (h : zH), zD 156 33 [some (.ref x), l1] S h = zD 156 34 [some (.ref x), l1] (.ref x :: S) h) ∧
  (∀ (l0 l1 : Option Value) (a : Nat) (r : List Value) (h : zH) (hx : zfok (h.2.2 a) 8 0 = true), zD 156 34 [l0, l1] (.ref a :: r) h = zD 156 37 [l0, l1] (zfv (h.2.2 a) 0 :: r) h) ∧
  (∀ (l0 l1 : Option Value) (S : List Value) (h : zH), zD 156 37 [l0, l1] S h = zD 156 38 [l0, l1] (.int (1 : Int32) :: S) h) ∧
  (∀ (l0 l1 : Option Value) (p0 : Nat) (p1 : Int32) (a : Nat) (r : List Value) (h : zH) (hcat : zcat r ≤ 8) (hr : zis (h.2.2 a) 6 = true) (hC : (zC 64 (.ref a :: [.ref p0, .int p1]) h).isSome = true), zD 156 38 [l0, l1] (.int p1 :: .ref p0 :: .ref a :: r) h = zD 156 41 [l0, l1] (zgv (zC 64 (.ref a :: [.ref p0, .int p1]) h) ++ r) (zgh h (zC 64 (.ref a :: [.ref p0, .int p1]) h))) ∧
  (∀ (l0 : Option Value) (x : Int32) (S : List Value) (h : zH), zD 156 41 [l0, some (.int x)] S h = zD 156 42 [l0, some (.int x)] (.int x :: S) h) ∧
  (∀ (l0 l1 : Option Value) (v : Int32) (h : zH), zD 156 42 [l0, l1] [.int v] h = some (some (.int v), h)) :=
  ⟨fun l1 x S h => zD_op (ins := .aload_n 0) (len := 1) (c := (1, [some (.ref x), l1], (.ref x :: S), h)) (by decide +kernel) rfl rfl rfl rfl,
  fun l0 l1 a r h hx => zD_getf (i := 12) (ci := 8) (k := 0) (q := (248, 0)) (by decide +kernel) (by decide +kernel) hx,
  fun l0 l1 a r h hcat hr hC => zD_callv (i := 103) (y := 92) (n := 0) (as := []) (ci := 3) (by decide +kernel) (by decide +kernel) rfl (by decide +kernel) (Nat.le_of_ble_eq_true rfl) (by decide +kernel) hcat hr hC,
  fun l0 l1 x r h => zD_if0 (cnd := .ne) (off := 6) (by decide +kernel) (by decide) rfl,
  fun l0 l1 S h => zD_bip (n := (-103)) (by decide +kernel) (by decide +kernel),
  fun l0 l1 v h => zD_ireti (by decide +kernel) rfl,
  fun l1 x S h => zD_op (ins := .aload_n 0) (len := 1) (c := (14, [some (.ref x), l1], (.ref x :: S), h)) (by decide +kernel) rfl rfl rfl rfl,
  fun l0 l1 a r h hx => zD_getf (i := 48) (ci := 8) (k := 4) (q := (252, 0)) (by decide +kernel) (by decide +kernel) hx,
  fun l1 x S h => zD_op (ins := .aload_n 0) (len := 1) (c := (18, [some (.ref x), l1], (.ref x :: S), h)) (by decide +kernel) rfl rfl rfl rfl,
  fun l0 l1 a r h hx => zD_getf (i := 12) (ci := 8) (k := 0) (q := (248, 0)) (by decide +kernel) (by decide +kernel) hx,
  fun l0 l1 p0 a r h hcat hr hC => zD_callv (i := 180) (y := 128) (n := 1) (as := [.ref p0]) (ci := 1) (by decide +kernel) (by decide +kernel) rfl (by decide +kernel) (Nat.le_of_ble_eq_true rfl) (by decide +kernel) hcat hr hC,
  fun l0 l1 x r h => zD_st1 (k := 1) (ins := .istore_n 1) (len := 1) (by decide +kernel) rfl rfl rfl (by decide +kernel) rfl rfl,
  fun l0 x S h => zD_op (ins := .iload_n 1) (len := 1) (c := (26, [l0, some (.int x)], (.int x :: S), h)) (by decide +kernel) rfl rfl rfl rfl,
  fun l0 l1 x r h => zD_if0 (cnd := .lt) (off := 15) (by decide +kernel) (by decide) rfl,
  fun l1 x S h => zD_op (ins := .aload_n 0) (len := 1) (c := (30, [some (.ref x), l1], (.ref x :: S), h)) (by decide +kernel) rfl rfl rfl rfl,
  fun l0 l1 a r h hx => zD_getf (i := 55) (ci := 8) (k := 5) (q := (253, 0)) (by decide +kernel) (by decide +kernel) hx,
  fun l1 x S h => zD_op (ins := .aload_n 0) (len := 1) (c := (34, [some (.ref x), l1], (.ref x :: S), h)) (by decide +kernel) rfl rfl rfl rfl,
  fun l0 l1 a r h hx => zD_getf (i := 12) (ci := 8) (k := 0) (q := (248, 0)) (by decide +kernel) (by decide +kernel) hx,
  fun l0 l1 S h => zD_icst (n := 1) (by decide +kernel) (by decide +kernel),
  fun l0 l1 p0 p1 a r h hcat hr hC => zD_callv (i := 184) (y := 64) (n := 2) (as := [.ref p0, .int p1]) (ci := 6) (by decide +kernel) (by decide +kernel) rfl (by decide +kernel) (Nat.le_of_ble_eq_true rfl) (by decide +kernel) hcat hr hC,
  fun l0 x S h => zD_op (ins := .iload_n 1) (len := 1) (c := (42, [l0, some (.int x)], (.int x :: S), h)) (by decide +kernel) rfl rfl rfl rfl,
  fun l0 l1 v h => zD_ireti (by decide +kernel) rfl⟩
set_option maxRecDepth 100000 in
theorem I_X9_keep : (∀ (a : Nat) (h : zH), zC 156 [.ref a] h = zD 156 0 [some (.ref a), none] [] h) :=
  fun a h => zC_def rfl
set_option maxRecDepth 100000 in
theorem E_X9_agree : (∀ (l1 l2 l3 l4 : Option Value) (x : Nat) (S : List Value) (h : zH), zD 157 0 [some (.ref x), l1, l2, l3, l4] S h = zD 157 1 [some (.ref x), l1, l2, l3, l4] (.ref x :: S) h) ∧
  (∀ (l0 l2 l3 l4 : Option Value) (x : Int32) (S : List Value) (h : zH), zD 157 1 [l0, some (.int x), l2, l3, l4] S h = zD 157 2 [l0, some (.int x), l2, l3, l4] (.int x :: S) h) ∧
  (∀ (l0 l1 l2 l3 l4 : Option Value) (p0 : Int32) (a : Nat) (r : List Value) (h : zH) (hcat : zcat r ≤ 8) (hr : zis (h.2.2 a) 8 = true) (hC : (zC 72 (.ref a :: [.int p0]) h).isSome = true), zD 157 2 [l0, l1, l2, l3, l4] (.int p0 :: .ref a :: r) h = zD 157 5 [l0, l1, l2, l3, l4] (zgv (zC 72 (.ref a :: [.int p0]) h) ++ r) (zgh h (zC 72 (.ref a :: [.int p0]) h))) ∧
  (∀ (l0 l1 l2 l3 l4 : Option Value) (x : Nat) (r : List Value) (h : zH), zD 157 5 [l0, l1, l2, l3, l4] (.ref x :: r) h = zD 157 6 [l0, l1, zclr l2, some (.ref x), l4] r h) ∧
  (∀ (l0 l1 l2 l3 l4 : Option Value) (r : List Value) (h : zH), zD 157 5 [l0, l1, l2, l3, l4] (.null :: r) h = zD 157 6 [l0, l1, zclr l2, some .null, l4] r h) ∧
  (∀ (l1 l2 l3 l4 : Option Value) (x : Nat) (S : List Value) (h : zH), zD 157 6 [some (.ref x), l1, l2, l3, l4] S h = zD 157 7 [some (.ref x), l1, l2, l3, l4] (.ref x :: S) h) ∧
  (∀ (l0 l1 l3 l4 : Option Value) (x : Int32) (S : List Value) (h : zH), zD 157 7 [l0, l1, some (.int x), l3, l4] S h = zD 157 8 [l0, l1, some (.int x), l3, l4] (.int x :: S) h) ∧
  (∀ (l0 l1 l2 l3 l4 : Option Value) (p0 : Int32) (a : Nat) (r : List Value) (h : zH) (hcat : zcat r ≤ 8) (hr : zis (h.2.2 a) 8 = true) (hC : (zC 72 (.ref a :: [.int p0]) h).isSome = true), zD 157 8 [l0, l1, l2, l3, l4] (.int p0 :: .ref a :: r) h = zD 157 11 [l0, l1, l2, l3, l4] (zgv (zC 72 (.ref a :: [.int p0]) h) ++ r) (zgh h (zC 72 (.ref a :: [.int p0]) h))) ∧
  (∀ (l0 l1 l2 l3 l4 : Option Value) (x : Nat) (r : List Value) (h : zH), zD 157 11 [l0, l1, l2, l3, l4] (.ref x :: r) h = zD 157 13 [l0, l1, l2, zclr l3, some (.ref x)] r h) ∧
  (∀ (l0 l1 l2 l3 l4 : Option Value) (r : List Value) (h : zH), zD 157 11 [l0, l1, l2, l3, l4] (.null :: r) h = zD 157 13 [l0, l1, l2, zclr l3, some .null] r h) ∧
  (∀ (l0 l1 l2 l4 : Option Value) (x : Nat) (S : List Value) (h : zH), zD 157 13 [l0, l1, l2, some (.ref x), l4] S h = zD 157 14 [l0, l1, l2, some (.ref x), l4] (.ref x :: S) h) ∧
  (∀ (l0 l1 l2 l4 : Option Value) (S : List Value) (h : zH), zD 157 13 [l0, l1, l2, some .null, l4] S h = zD 157 14 [l0, l1, l2, some .null, l4] (.null :: S) h) ∧
  (∀ (l0 l1 l2 l3 l4 : Option Value) (r : List Value) (h : zH), zD 157 14 [l0, l1, l2, l3, l4] (.null :: r) h = zD 157 22 [l0, l1, l2, l3, l4] r h) ∧
  (∀ (l0 l1 l2 l3 l4 : Option Value) (x : Nat) (r : List Value) (h : zH), zD 157 14 [l0, l1, l2, l3, l4] (.ref x :: r) h = zD 157 17 [l0, l1, l2, l3, l4] r h) ∧
  (∀ (l0 l1 l2 l3 : Option Value) (x : Nat) (S : List Value) (h : zH), zD 157 17 [l0, l1, l2, l3, some (.ref x)] S h = zD 157 19 [l0, l1, l2, l3, some (.ref x)] (.ref x :: S) h) ∧
  (∀ (l0 l1 l2 l3 : Option Value) (S : List Value) (h : zH), zD 157 17 [l0, l1, l2, l3, some .null] S h = zD 157 19 [l0, l1, l2, l3, some .null] (.null :: S) h) ∧
  (∀ (l0 l1 l2 l3 l4 : Option Value) (r : List Value) (h : zH), zD 157 19 [l0, l1, l2, l3, l4] (.null :: r) h = zD 157 22 [l0, l1, l2, l3, l4] r h) ∧
  (∀ (l0 l1 l2 l3 l4 : Option Value) (x : Nat) (r : List Value) (h : zH), zD 157 19 [l0, l1, l2, l3, l4] (.ref x :: r) h = zD 157 25 [l0, l1, l2, l3, l4] r h) ∧
  (∀ (l0 l1 l2 l3 l4 : Option Value) (S : List Value) (h : zH), zD 157 22 [l0, l1, l2, l3, l4] S h = zD 157 24 [l0, l1, l2, l3, l4] (.int (-101 : Int32) :: S) h) ∧
  (∀ (l0 l1 l2 l3 l4 : Option Value) (v : Int32) (h : zH), zD 157 24 [l0, l1, l2, l3, l4] [.int v] h = some (some (.int v), h)) ∧
  (∀ (l0 l1 l2 l4 : Option Value) (x : Nat) (S : List Value) (h : zH), zD 157 25 [l0, l1, l2, some (.ref x), l4] S h = zD 157 26 [l0, l1, l2, some (.ref x), l4] (.ref x :: S) h) ∧
  (∀ (l0 l1 l2 l4 : Option Value) (S : List Value) (h : zH), zD 157 25 [l0, l1, l2, some .null, l4] S h = zD 157 26 [l0, l1, l2, some .null, l4] (.null :: S) h) ∧
  (∀ (l0 l1 l2 l3 : Option Value) (x : Nat) (S : List Value) (h : zH), zD 157 26 [l0, l1, l2, l3, some (.ref x)] S h = zD 157 28 [l0, l1, l2, l3, some (.ref x)] (.ref x :: S) h) ∧
  (∀ (l0 l1 l2 l3 : Option Value) (S : List Value) (h : zH), zD 157 26 [l0, l1, l2, l3, some .null] S h = zD 157 28 [l0, l1, l2, l3, some .null] (.null :: S) h) ∧
  (∀ (l0 l1 l2 l3 l4 : Option Value) (p0 : Nat) (p1 : Nat) (r : List Value) (h : zH) (hcat : zcat r ≤ 8) (hC : (zC 138 [.ref p0, .ref p1] h).isSome = true), zD 157 28 [l0, l1, l2, l3, l4] (.ref p1 :: .ref p0 :: r) h = zD 157 31 [l0, l1, l2, l3, l4] (zgv (zC 138 [.ref p0, .ref p1] h) ++ r) (zgh h (zC 138 [.ref p0, .ref p1] h))) ∧
  (∀ (l0 l1 l2 l3 l4 : Option Value) (x : Int32) (r : List Value) (h : zH), zD 157 31 [l0, l1, l2, l3, l4] (.int x :: r) h = if x = 0 then zD 157 43 [l0, l1, l2, l3, l4] r h else zD 157 34 [l0, l1, l2, l3, l4] r h) ∧
  (∀ (l0 l1 l2 l4 : Option Value) (x : Nat) (S : List Value) (h : zH), zD 157 34 [l0, l1, l2, some (.ref x), l4] S h = zD 157 35 [l0, l1, l2, some (.ref x), l4] (.ref x :: S) h) ∧
  (∀ (l0 l1 l2 l4 : Option Value) (S : List Value) (h : zH), zD 157 34 [l0, l1, l2, some .null, l4] S h = zD 157 35 [l0, l1, l2, some .null, l4] (.null :: S) h) ∧
  (∀ (l0 l1 l2 l3 : Option Value) (x : Nat) (S : List Value) (h : zH), zD 157 35 [l0, l1, l2, l3, some (.ref x)] S h = zD 157 37 [l0, l1, l2, l3, some (.ref x)] (.ref x :: S) h) ∧
  (∀ (l0 l1 l2 l3 : Option Value) (S : List Value) (h : zH), zD 157 35 [l0, l1, l2, l3, some .null] S h = zD 157 37 [l0, l1, l2, l3, some .null] (.null :: S) h) ∧
  (∀ (l0 l1 l2 l3 l4 : Option Value) (p0 : Nat) (p1 : Nat) (r : List Value) (h : zH) (hcat : zcat r ≤ 8) (hC : (zC 9 [.ref p0, .ref p1] h).isSome = true), zD 157 37 [l0, l1, l2, l3, l4] (.ref p1 :: .ref p0 :: r) h = zD 157 40 [l0, l1, l2, l3, l4] (zgv (zC 9 [.ref p0, .ref p1] h) ++ r) (zgh h (zC 9 [.ref p0, .ref p1] h))) ∧
  (∀ (l0 l1 l2 l3 l4 : Option Value) (S : List Value) (h : zH), zD 157 40 [l0, l1, l2, l3, l4] S h = zD 157 45 [l0, l1, l2, l3, l4] S h) ∧
  (∀ (l0 l1 l2 l3 l4 : Option Value) (S : List Value) (h : zH), zD 157 43 [l0, l1, l2, l3, l4] S h = zD 157 45 [l0, l1, l2, l3, l4] (.int (-103 : Int32) :: S) h) ∧
  (∀ (l0 l1 l2 l3 l4 : Option Value) (v : Int32) (h : zH), zD 157 45 [l0, l1, l2, l3, l4] [.int v] h = some (some (.int v), h)) :=
  ⟨fun l1 l2 l3 l4 x S h => zD_op (ins := .aload_n 0) (len := 1) (c := (1, [some (.ref x), l1, l2, l3, l4], (.ref x :: S), h)) (by decide +kernel) rfl rfl rfl rfl,
  fun l0 l2 l3 l4 x S h => zD_op (ins := .iload_n 1) (len := 1) (c := (2, [l0, some (.int x), l2, l3, l4], (.int x :: S), h)) (by decide +kernel) rfl rfl rfl rfl,
  fun l0 l1 l2 l3 l4 p0 a r h hcat hr hC => zD_callv (i := 222) (y := 72) (n := 1) (as := [.int p0]) (ci := 8) (by decide +kernel) (by decide +kernel) rfl (by decide +kernel) (Nat.le_of_ble_eq_true rfl) (by decide +kernel) hcat hr hC,
  fun l0 l1 l2 l3 l4 x r h => zD_st1 (k := 3) (ins := .astore_n 3) (len := 1) (by decide +kernel) rfl rfl rfl (by decide +kernel) rfl rfl,
  fun l0 l1 l2 l3 l4 r h => zD_st1 (k := 3) (ins := .astore_n 3) (len := 1) (by decide +kernel) rfl rfl rfl (by decide +kernel) rfl rfl,
  fun l1 l2 l3 l4 x S h => zD_op (ins := .aload_n 0) (len := 1) (c := (7, [some (.ref x), l1, l2, l3, l4], (.ref x :: S), h)) (by decide +kernel) rfl rfl rfl rfl,
  fun l0 l1 l3 l4 x S h => zD_op (ins := .iload_n 2) (len := 1) (c := (8, [l0, l1, some (.int x), l3, l4], (.int x :: S), h)) (by decide +kernel) rfl rfl rfl rfl,
  fun l0 l1 l2 l3 l4 p0 a r h hcat hr hC => zD_callv (i := 222) (y := 72) (n := 1) (as := [.int p0]) (ci := 8) (by decide +kernel) (by decide +kernel) rfl (by decide +kernel) (Nat.le_of_ble_eq_true rfl) (by decide +kernel) hcat hr hC,
  fun l0 l1 l2 l3 l4 x r h => zD_st1 (k := 4) (ins := .astore 4) (len := 2) (by decide +kernel) rfl rfl rfl (by decide +kernel) rfl rfl,
  fun l0 l1 l2 l3 l4 r h => zD_st1 (k := 4) (ins := .astore 4) (len := 2) (by decide +kernel) rfl rfl rfl (by decide +kernel) rfl rfl,
  fun l0 l1 l2 l4 x S h => zD_op (ins := .aload_n 3) (len := 1) (c := (14, [l0, l1, l2, some (.ref x), l4], (.ref x :: S), h)) (by decide +kernel) rfl rfl rfl rfl,
  fun l0 l1 l2 l4 S h => zD_op (ins := .aload_n 3) (len := 1) (c := (14, [l0, l1, l2, some .null, l4], (.null :: S), h)) (by decide +kernel) rfl rfl rfl rfl,
  fun l0 l1 l2 l3 l4 r h => zD_nl (off := 8) (t := 22) (by decide +kernel) (by decide),
  fun l0 l1 l2 l3 l4 x r h => zD_nlr (off := 8) (t := 22) (by decide +kernel) (by decide),
  fun l0 l1 l2 l3 x S h => zD_op (ins := .aload 4) (len := 2) (c := (19, [l0, l1, l2, l3, some (.ref x)], (.ref x :: S), h)) (by decide +kernel) rfl rfl rfl rfl,
  fun l0 l1 l2 l3 S h => zD_op (ins := .aload 4) (len := 2) (c := (19, [l0, l1, l2, l3, some .null], (.null :: S), h)) (by decide +kernel) rfl rfl rfl rfl,
  fun l0 l1 l2 l3 l4 r h => zD_nn (off := 6) (t := 25) (by decide +kernel) (by decide),
  fun l0 l1 l2 l3 l4 x r h => zD_nnr (off := 6) (t := 25) (by decide +kernel) (by decide),
  fun l0 l1 l2 l3 l4 S h => zD_bip (n := (-101)) (by decide +kernel) (by decide +kernel),
  fun l0 l1 l2 l3 l4 v h => zD_ireti (by decide +kernel) rfl,
  fun l0 l1 l2 l4 x S h => zD_op (ins := .aload_n 3) (len := 1) (c := (26, [l0, l1, l2, some (.ref x), l4], (.ref x :: S), h)) (by decide +kernel) rfl rfl rfl rfl,
  fun l0 l1 l2 l4 S h => zD_op (ins := .aload_n 3) (len := 1) (c := (26, [l0, l1, l2, some .null, l4], (.null :: S), h)) (by decide +kernel) rfl rfl rfl rfl,
  fun l0 l1 l2 l3 x S h => zD_op (ins := .aload 4) (len := 2) (c := (28, [l0, l1, l2, l3, some (.ref x)], (.ref x :: S), h)) (by decide +kernel) rfl rfl rfl rfl,
  fun l0 l1 l2 l3 S h => zD_op (ins := .aload 4) (len := 2) (c := (28, [l0, l1, l2, l3, some .null], (.null :: S), h)) (by decide +kernel) rfl rfl rfl rfl,
  fun l0 l1 l2 l3 l4 p0 p1 r h hcat hC => zD_calls (i := 229) (y := 138) (n := 2) (as := [.ref p0, .ref p1]) (by decide +kernel) (by decide +kernel) rfl (by decide +kernel) (Nat.le_of_ble_eq_true rfl) hcat hC,
  fun l0 l1 l2 l3 l4 x r h => zD_if0 (cnd := .eq) (off := 12) (by decide +kernel) (by decide) rfl,
  fun l0 l1 l2 l4 x S h => zD_op (ins := .aload_n 3) (len := 1) (c := (35, [l0, l1, l2, some (.ref x), l4], (.ref x :: S), h)) (by decide +kernel) rfl rfl rfl rfl,
  fun l0 l1 l2 l4 S h => zD_op (ins := .aload_n 3) (len := 1) (c := (35, [l0, l1, l2, some .null, l4], (.null :: S), h)) (by decide +kernel) rfl rfl rfl rfl,
  fun l0 l1 l2 l3 x S h => zD_op (ins := .aload 4) (len := 2) (c := (37, [l0, l1, l2, l3, some (.ref x)], (.ref x :: S), h)) (by decide +kernel) rfl rfl rfl rfl,
  fun l0 l1 l2 l3 S h => zD_op (ins := .aload 4) (len := 2) (c := (37, [l0, l1, l2, l3, some .null], (.null :: S), h)) (by decide +kernel) rfl rfl rfl rfl,
  fun l0 l1 l2 l3 l4 p0 p1 r h hcat hC => zD_calls (i := 233) (y := 9) (n := 2) (as := [.ref p0, .ref p1]) (by decide +kernel) (by decide +kernel) rfl (by decide +kernel) (Nat.le_of_ble_eq_true rfl) hcat hC,
  fun l0 l1 l2 l3 l4 S h => zD_goto (off := 5) (by decide +kernel) (by decide),
  fun l0 l1 l2 l3 l4 S h => zD_bip (n := (-103)) (by decide +kernel) (by decide +kernel),
  fun l0 l1 l2 l3 l4 v h => zD_ireti (by decide +kernel) rfl⟩
set_option maxRecDepth 100000 in
theorem I_X9_agree : (∀ (a : Nat) (p0 : Int32) (p1 : Int32) (h : zH), zC 157 [.ref a, .int p0, .int p1] h = zD 157 0 [some (.ref a), some (.int p0), some (.int p1), none, none] [] h) :=
  fun a p0 p1 h => zC_def rfl
set_option maxRecDepth 100000 in
theorem E_X9_near : (∀ (l1 l2 l3 l4 : Option Value) (x : Nat) (S : List Value) (h : zH), zD 158 0 [some (.ref x), l1, l2, l3, l4] S h = zD 158 1 [some (.ref x), l1, l2, l3, l4] (.ref x :: S) h) ∧
  (∀ (l0 l2 l3 l4 : Option Value) (x : Int32) (S : List Value) (h : zH), zD 158 1 [l0, some (.int x), l2, l3, l4] S h = zD 158 2 [l0, some (.int x), l2, l3, l4] (.int x :: S) h) ∧
  (∀ (l0 l1 l2 l3 l4 : Option Value) (p0 : Int32) (a : Nat) (r : List Value) (h : zH) (hcat : zcat r ≤ 8) (hr : zis (h.2.2 a) 8 = true) (hC : (zC 72 (.ref a :: [.int p0]) h).isSome = true), zD 158 2 [l0, l1, l2, l3, l4] (.int p0 :: .ref a :: r) h = zD 158 5 [l0, l1, l2, l3, l4] (zgv (zC 72 (.ref a :: [.int p0]) h) ++ r) (zgh h (zC 72 (.ref a :: [.int p0]) h))) ∧
  (∀ (l0 l1 l2 l3 l4 : Option Value) (x : Nat) (r : List Value) (h : zH), zD 158 5 [l0, l1, l2, l3, l4] (.ref x :: r) h = zD 158 6 [l0, l1, zclr l2, some (.ref x), l4] r h) ∧
  (∀ (l0 l1 l2 l3 l4 : Option Value) (r : List Value) (h : zH), zD 158 5 [l0, l1, l2, l3, l4] (.null :: r) h = zD 158 6 [l0, l1, zclr l2, some .null, l4] r h) ∧
  (∀ (l1 l2 l3 l4 : Option Value) (x : Nat) (S : List Value) (h : zH), zD 158 6 [some (.ref x), l1, l2, l3, l4] S h = zD 158 7 [some (.ref x), l1, l2, l3, l4] (.ref x :: S) h) ∧
  (∀ (l0 l1 l3 l4 : Option Value) (x : Int32) (S : List Value) (h : zH), zD 158 7 [l0, l1, some (.int x), l3, l4] S h = zD 158 8 [l0, l1, some (.int x), l3, l4] (.int x :: S) h) ∧
  (∀ (l0 l1 l2 l3 l4 : Option Value) (p0 : Int32) (a : Nat) (r : List Value) (h : zH) (hcat : zcat r ≤ 8) (hr : zis (h.2.2 a) 8 = true) (hC : (zC 72 (.ref a :: [.int p0]) h).isSome = true), zD 158 8 [l0, l1, l2, l3, l4] (.int p0 :: .ref a :: r) h = zD 158 11 [l0, l1, l2, l3, l4] (zgv (zC 72 (.ref a :: [.int p0]) h) ++ r) (zgh h (zC 72 (.ref a :: [.int p0]) h))) ∧
  (∀ (l0 l1 l2 l3 l4 : Option Value) (x : Nat) (r : List Value) (h : zH), zD 158 11 [l0, l1, l2, l3, l4] (.ref x :: r) h = zD 158 13 [l0, l1, l2, zclr l3, some (.ref x)] r h) ∧
  (∀ (l0 l1 l2 l3 l4 : Option Value) (r : List Value) (h : zH), zD 158 11 [l0, l1, l2, l3, l4] (.null :: r) h = zD 158 13 [l0, l1, l2, zclr l3, some .null] r h) ∧
  (∀ (l0 l1 l2 l4 : Option Value) (x : Nat) (S : List Value) (h : zH), zD 158 13 [l0, l1, l2, some (.ref x), l4] S h = zD 158 14 [l0, l1, l2, some (.ref x), l4] (.ref x :: S) h) ∧
  (∀ (l0 l1 l2 l4 : Option Value) (S : List Value) (h : zH), zD 158 13 [l0, l1, l2, some .null, l4] S h = zD 158 14 [l0, l1, l2, some .null, l4] (.null :: S) h) ∧
  (∀ (l0 l1 l2 l3 l4 : Option Value) (r : List Value) (h : zH), zD 158 14 [l0, l1, l2, l3, l4] (.null :: r) h = zD 158 22 [l0, l1, l2, l3, l4] r h) ∧
  (∀ (l0 l1 l2 l3 l4 : Option Value) (x : Nat) (r : List Value) (h : zH), zD 158 14 [l0, l1, l2, l3, l4] (.ref x :: r) h = zD 158 17 [l0, l1, l2, l3, l4] r h) ∧
  (∀ (l0 l1 l2 l3 : Option Value) (x : Nat) (S : List Value) (h : zH), zD 158 17 [l0, l1, l2, l3, some (.ref x)] S h = zD 158 19 [l0, l1, l2, l3, some (.ref x)] (.ref x :: S) h) ∧
  (∀ (l0 l1 l2 l3 : Option Value) (S : List Value) (h : zH), zD 158 17 [l0, l1, l2, l3, some .null] S h = zD 158 19 [l0, l1, l2, l3, some .null] (.null :: S) h) ∧
  (∀ (l0 l1 l2 l3 l4 : Option Value) (r : List Value) (h : zH), zD 158 19 [l0, l1, l2, l3, l4] (.null :: r) h = zD 158 22 [l0, l1, l2, l3, l4] r h) ∧
  (∀ (l0 l1 l2 l3 l4 : Option Value) (x : Nat) (r : List Value) (h : zH), zD 158 19 [l0, l1, l2, l3, l4] (.ref x :: r) h = zD 158 25 [l0, l1, l2, l3, l4] r h) ∧
  (∀ (l0 l1 l2 l3 l4 : Option Value) (S : List Value) (h : zH), zD 158 22 [l0, l1, l2, l3, l4] S h = zD 158 24 [l0, l1, l2, l3, l4] (.int (-101 : Int32) :: S) h) ∧
  (∀ (l0 l1 l2 l3 l4 : Option Value) (v : Int32) (h : zH), zD 158 24 [l0, l1, l2, l3, l4] [.int v] h = some (some (.int v), h)) ∧
  (∀ (l0 l1 l2 l4 : Option Value) (x : Nat) (S : List Value) (h : zH), zD 158 25 [l0, l1, l2, some (.ref x), l4] S h = zD 158 26 [l0, l1, l2, some (.ref x), l4] (.ref x :: S) h) ∧
  (∀ (l0 l1 l2 l4 : Option Value) (S : List Value) (h : zH), zD 158 25 [l0, l1, l2, some .null, l4] S h = zD 158 26 [l0, l1, l2, some .null, l4] (.null :: S) h) ∧
  (∀ (l0 l1 l2 l3 : Option Value) (x : Nat) (S : List Value) (h : zH), zD 158 26 [l0, l1, l2, l3, some (.ref x)] S h = zD 158 28 [l0, l1, l2, l3, some (.ref x)] (.ref x :: S) h) ∧
  (∀ (l0 l1 l2 l3 : Option Value) (S : List Value) (h : zH), zD 158 26 [l0, l1, l2, l3, some .null] S h = zD 158 28 [l0, l1, l2, l3, some .null] (.null :: S) h) ∧
  (∀ (l0 l1 l2 l3 l4 : Option Value) (p0 : Nat) (p1 : Nat) (r : List Value) (h : zH) (hcat : zcat r ≤ 8) (hC : (zC 138 [.ref p0, .ref p1] h).isSome = true), zD 158 28 [l0, l1, l2, l3, l4] (.ref p1 :: .ref p0 :: r) h = zD 158 31 [l0, l1, l2, l3, l4] (zgv (zC 138 [.ref p0, .ref p1] h) ++ r) (zgh h (zC 138 [.ref p0, .ref p1] h))) ∧
  (∀ (l0 l1 l2 l3 l4 : Option Value) (x : Int32) (r : List Value) (h : zH), zD 158 31 [l0, l1, l2, l3, l4] (.int x :: r) h = if x = 0 then zD 158 43 [l0, l1, l2, l3, l4] r h else zD 158 34 [l0, l1, l2, l3, l4] r h) ∧
  (∀ (l0 l1 l2 l4 : Option Value) (x : Nat) (S : List Value) (h : zH), zD 158 34 [l0, l1, l2, some (.ref x), l4] S h = zD 158 35 [l0, l1, l2, some (.ref x), l4] (.ref x :: S) h) ∧
  (∀ (l0 l1 l2 l4 : Option Value) (S : List Value) (h : zH), zD 158 34 [l0, l1, l2, some .null, l4] S h = zD 158 35 [l0, l1, l2, some .null, l4] (.null :: S) h) ∧
  (∀ (l0 l1 l2 l3 : Option Value) (x : Nat) (S : List Value) (h : zH), zD 158 35 [l0, l1, l2, l3, some (.ref x)] S h = zD 158 37 [l0, l1, l2, l3, some (.ref x)] (.ref x :: S) h) ∧
  (∀ (l0 l1 l2 l3 : Option Value) (S : List Value) (h : zH), zD 158 35 [l0, l1, l2, l3, some .null] S h = zD 158 37 [l0, l1, l2, l3, some .null] (.null :: S) h) ∧
  (∀ (l0 l1 l2 l3 l4 : Option Value) (p0 : Nat) (p1 : Nat) (r : List Value) (h : zH) (hcat : zcat r ≤ 8) (hC : (zC 97 [.ref p0, .ref p1] h).isSome = true), zD 158 37 [l0, l1, l2, l3, l4] (.ref p1 :: .ref p0 :: r) h = zD 158 40 [l0, l1, l2, l3, l4] (zgv (zC 97 [.ref p0, .ref p1] h) ++ r) (zgh h (zC 97 [.ref p0, .ref p1] h))) ∧
  (∀ (l0 l1 l2 l3 l4 : Option Value) (S : List Value) (h : zH), zD 158 40 [l0, l1, l2, l3, l4] S h = zD 158 45 [l0, l1, l2, l3, l4] S h) ∧
  (∀ (l0 l1 l2 l3 l4 : Option Value) (S : List Value) (h : zH), zD 158 43 [l0, l1, l2, l3, l4] S h = zD 158 45 [l0, l1, l2, l3, l4] (.int (-103 : Int32) :: S) h) ∧
  (∀ (l0 l1 l2 l3 l4 : Option Value) (v : Int32) (h : zH), zD 158 45 [l0, l1, l2, l3, l4] [.int v] h = some (some (.int v), h)) :=
  ⟨fun l1 l2 l3 l4 x S h => zD_op (ins := .aload_n 0) (len := 1) (c := (1, [some (.ref x), l1, l2, l3, l4], (.ref x :: S), h)) (by decide +kernel) rfl rfl rfl rfl,
  fun l0 l2 l3 l4 x S h => zD_op (ins := .iload_n 1) (len := 1) (c := (2, [l0, some (.int x), l2, l3, l4], (.int x :: S), h)) (by decide +kernel) rfl rfl rfl rfl,
  fun l0 l1 l2 l3 l4 p0 a r h hcat hr hC => zD_callv (i := 222) (y := 72) (n := 1) (as := [.int p0]) (ci := 8) (by decide +kernel) (by decide +kernel) rfl (by decide +kernel) (Nat.le_of_ble_eq_true rfl) (by decide +kernel) hcat hr hC,
  fun l0 l1 l2 l3 l4 x r h => zD_st1 (k := 3) (ins := .astore_n 3) (len := 1) (by decide +kernel) rfl rfl rfl (by decide +kernel) rfl rfl,
  fun l0 l1 l2 l3 l4 r h => zD_st1 (k := 3) (ins := .astore_n 3) (len := 1) (by decide +kernel) rfl rfl rfl (by decide +kernel) rfl rfl,
  fun l1 l2 l3 l4 x S h => zD_op (ins := .aload_n 0) (len := 1) (c := (7, [some (.ref x), l1, l2, l3, l4], (.ref x :: S), h)) (by decide +kernel) rfl rfl rfl rfl,
  fun l0 l1 l3 l4 x S h => zD_op (ins := .iload_n 2) (len := 1) (c := (8, [l0, l1, some (.int x), l3, l4], (.int x :: S), h)) (by decide +kernel) rfl rfl rfl rfl,
  fun l0 l1 l2 l3 l4 p0 a r h hcat hr hC => zD_callv (i := 222) (y := 72) (n := 1) (as := [.int p0]) (ci := 8) (by decide +kernel) (by decide +kernel) rfl (by decide +kernel) (Nat.le_of_ble_eq_true rfl) (by decide +kernel) hcat hr hC,
  fun l0 l1 l2 l3 l4 x r h => zD_st1 (k := 4) (ins := .astore 4) (len := 2) (by decide +kernel) rfl rfl rfl (by decide +kernel) rfl rfl,
  fun l0 l1 l2 l3 l4 r h => zD_st1 (k := 4) (ins := .astore 4) (len := 2) (by decide +kernel) rfl rfl rfl (by decide +kernel) rfl rfl,
  fun l0 l1 l2 l4 x S h => zD_op (ins := .aload_n 3) (len := 1) (c := (14, [l0, l1, l2, some (.ref x), l4], (.ref x :: S), h)) (by decide +kernel) rfl rfl rfl rfl,
  fun l0 l1 l2 l4 S h => zD_op (ins := .aload_n 3) (len := 1) (c := (14, [l0, l1, l2, some .null, l4], (.null :: S), h)) (by decide +kernel) rfl rfl rfl rfl,
  fun l0 l1 l2 l3 l4 r h => zD_nl (off := 8) (t := 22) (by decide +kernel) (by decide),
  fun l0 l1 l2 l3 l4 x r h => zD_nlr (off := 8) (t := 22) (by decide +kernel) (by decide),
  fun l0 l1 l2 l3 x S h => zD_op (ins := .aload 4) (len := 2) (c := (19, [l0, l1, l2, l3, some (.ref x)], (.ref x :: S), h)) (by decide +kernel) rfl rfl rfl rfl,
  fun l0 l1 l2 l3 S h => zD_op (ins := .aload 4) (len := 2) (c := (19, [l0, l1, l2, l3, some .null], (.null :: S), h)) (by decide +kernel) rfl rfl rfl rfl,
  fun l0 l1 l2 l3 l4 r h => zD_nn (off := 6) (t := 25) (by decide +kernel) (by decide),
  fun l0 l1 l2 l3 l4 x r h => zD_nnr (off := 6) (t := 25) (by decide +kernel) (by decide),
  fun l0 l1 l2 l3 l4 S h => zD_bip (n := (-101)) (by decide +kernel) (by decide +kernel),
  fun l0 l1 l2 l3 l4 v h => zD_ireti (by decide +kernel) rfl,
  fun l0 l1 l2 l4 x S h => zD_op (ins := .aload_n 3) (len := 1) (c := (26, [l0, l1, l2, some (.ref x), l4], (.ref x :: S), h)) (by decide +kernel) rfl rfl rfl rfl,
  fun l0 l1 l2 l4 S h => zD_op (ins := .aload_n 3) (len := 1) (c := (26, [l0, l1, l2, some .null, l4], (.null :: S), h)) (by decide +kernel) rfl rfl rfl rfl,
  fun l0 l1 l2 l3 x S h => zD_op (ins := .aload 4) (len := 2) (c := (28, [l0, l1, l2, l3, some (.ref x)], (.ref x :: S), h)) (by decide +kernel) rfl rfl rfl rfl,
  fun l0 l1 l2 l3 S h => zD_op (ins := .aload 4) (len := 2) (c := (28, [l0, l1, l2, l3, some .null], (.null :: S), h)) (by decide +kernel) rfl rfl rfl rfl,
  fun l0 l1 l2 l3 l4 p0 p1 r h hcat hC => zD_calls (i := 229) (y := 138) (n := 2) (as := [.ref p0, .ref p1]) (by decide +kernel) (by decide +kernel) rfl (by decide +kernel) (Nat.le_of_ble_eq_true rfl) hcat hC,
  fun l0 l1 l2 l3 l4 x r h => zD_if0 (cnd := .eq) (off := 12) (by decide +kernel) (by decide) rfl,
  fun l0 l1 l2 l4 x S h => zD_op (ins := .aload_n 3) (len := 1) (c := (35, [l0, l1, l2, some (.ref x), l4], (.ref x :: S), h)) (by decide +kernel) rfl rfl rfl rfl,
  fun l0 l1 l2 l4 S h => zD_op (ins := .aload_n 3) (len := 1) (c := (35, [l0, l1, l2, some .null, l4], (.null :: S), h)) (by decide +kernel) rfl rfl rfl rfl,
  fun l0 l1 l2 l3 x S h => zD_op (ins := .aload 4) (len := 2) (c := (37, [l0, l1, l2, l3, some (.ref x)], (.ref x :: S), h)) (by decide +kernel) rfl rfl rfl rfl,
  fun l0 l1 l2 l3 S h => zD_op (ins := .aload 4) (len := 2) (c := (37, [l0, l1, l2, l3, some .null], (.null :: S), h)) (by decide +kernel) rfl rfl rfl rfl,
  fun l0 l1 l2 l3 l4 p0 p1 r h hcat hC => zD_calls (i := 237) (y := 97) (n := 2) (as := [.ref p0, .ref p1]) (by decide +kernel) (by decide +kernel) rfl (by decide +kernel) (Nat.le_of_ble_eq_true rfl) hcat hC,
  fun l0 l1 l2 l3 l4 S h => zD_goto (off := 5) (by decide +kernel) (by decide),
  fun l0 l1 l2 l3 l4 S h => zD_bip (n := (-103)) (by decide +kernel) (by decide +kernel),
  fun l0 l1 l2 l3 l4 v h => zD_ireti (by decide +kernel) rfl⟩
set_option maxRecDepth 100000 in
theorem I_X9_near : (∀ (a : Nat) (p0 : Int32) (p1 : Int32) (h : zH), zC 158 [.ref a, .int p0, .int p1] h = zD 158 0 [some (.ref a), some (.int p0), some (.int p1), none, none] [] h) :=
  fun a p0 p1 h => zC_def rfl
set_option maxRecDepth 100000 in
theorem E_X9_firstTrees : (∀ (l0 l2 : Option Value) (x : Int32) (S : List Value) (h : zH), zD 159 0 [l0, some (.int x), l2] S h = zD 159 1 [l0, some (.int x), l2] (.int x :: S) h) ∧
  (∀ (l0 l1 l2 : Option Value) (S : List Value) (h : zH), zD 159 1 [l0, l1, l2] S h = zD 159 2 [l0, l1, l2] (.int (1 : Int32) :: S) h) ∧
  (∀ (l0 l1 l2 : Option Value) (x y : Int32) (r : List Value) (h : zH), zD 159 2 [l0, l1, l2] (.int y :: .int x :: r) h = if ¬ x = y then zD 159 27 [l0, l1, l2] r h else zD 159 5 [l0, l1, l2] r h) ∧
  (∀ (l1 l2 : Option Value) (x : Nat) (S : List Value) (h : zH), zD 159 5 [some (.ref x), l1, l2] S h = zD 159 6 [some (.ref x), l1, l2] (.ref x :: S) h) ∧
  (∀ (l0 l1 l2 : Option Value) (a : Nat) (r : List Value) (h : zH) (hx : zfok (h.2.2 a) 8 3 = true), zD 159 6 [l0, l1, l2] (.ref a :: r) h = zD 159 9 [l0, l1, l2] (zfv (h.2.2 a) 3 :: r) h) ∧
  (∀ (l1 l2 : Option Value) (x : Nat) (S : List Value) (h : zH), zD 159 9 [some (.ref x), l1, l2] S h = zD 159 10 [some (.ref x), l1, l2] (.ref x :: S) h) ∧
  (∀ (l0 l1 l2 : Option Value) (a : Nat) (r : List Value) (h : zH) (hx : zfok (h.2.2 a) 8 1 = true), zD 159 10 [l0, l1, l2] (.ref a :: r) h = zD 159 13 [l0, l1, l2] (zfv (h.2.2 a) 1 :: r) h) ∧
  (∀ (l1 l2 : Option Value) (x : Nat) (S : List Value) (h : zH), zD 159 13 [some (.ref x), l1, l2] S h = zD 159 14 [some (.ref x), l1, l2] (.ref x :: S) h) ∧
  (∀ (l0 l1 l2 : Option Value) (a : Nat) (r : List Value) (h : zH) (hx : zfok (h.2.2 a) 8 0 = true), zD 159 14 [l0, l1, l2] (.ref a :: r) h = zD 159 17 [l0, l1, l2] (zfv (h.2.2 a) 0 :: r) h) ∧
  (∀ (l0 l1 l2 : Option Value) (a : Nat) (r : List Value) (h : zH) (hx : zfok (h.2.2 a) 3 2 = true), zD 159 17 [l0, l1, l2] (.ref a :: r) h = zD 159 20 [l0, l1, l2] (zfv (h.2.2 a) 2 :: r) h) ∧
  (∀ (l0 l1 : Option Value) (x : Int32) (S : List Value) (h : zH), zD 159 20 [l0, l1, some (.int x)] S h = zD 159 21 [l0, l1, some (.int x)] (.int x :: S) h) ∧
  (∀ (l0 l1 l2 : Option Value) (p0 : Nat) (p1 : Int32) (p2 : Int32) (a : Nat) (r : List Value) (h : zH) (hcat : zcat r ≤ 8) (hr : zis (h.2.2 a) 5 = true) (hC : (zC 152 (.ref a :: [.ref p0, .int p1, .int p2]) h).isSome = true), zD 159 21 [l0, l1, l2] (.int p2 :: .int p1 :: .ref p0 :: .ref a :: r) h = zD 159 24 [l0, l1, l2] (zgv (zC 152 (.ref a :: [.ref p0, .int p1, .int p2]) h) ++ r) (zgh h (zC 152 (.ref a :: [.ref p0, .int p1, .int p2]) h))) ∧
  (∀ (l0 l1 l2 : Option Value) (S : List Value) (h : zH), zD 159 24 [l0, l1, l2] S h = zD 159 46 [l0, l1, l2] S h) ∧
  (∀ (l1 l2 : Option Value) (x : Nat) (S : List Value) (h : zH), zD 159 27 [some (.ref x), l1, l2] S h = zD 159 28 [some (.ref x), l1, l2] (.ref x :: S) h) ∧
  (∀ (l0 l1 l2 : Option Value) (a : Nat) (r : List Value) (h : zH) (hx : zfok (h.2.2 a) 8 2 = true), zD 159 28 [l0, l1, l2] (.ref a :: r) h = zD 159 31 [l0, l1, l2] (zfv (h.2.2 a) 2 :: r) h) ∧
  (∀ (l1 l2 : Option Value) (x : Nat) (S : List Value) (h : zH), zD 159 31 [some (.ref x), l1, l2] S h = zD 159 32 [some (.ref x), l1, l2] (.ref x :: S) h) ∧
  (∀ (l0 l1 l2 : Option Value) (a : Nat) (r : List Value) (h : zH) (hx : zfok (h.2.2 a) 8 1 = true), zD 159 32 [l0, l1, l2] (.ref a :: r) h = zD 159 35 [l0, l1, l2] (zfv (h.2.2 a) 1 :: r) h) ∧
  (∀ (l1 l2 : Option Value) (x : Nat) (S : List Value) (h : zH), zD 159 35 [some (.ref x), l1, l2] S h = zD 159 36 [some (.ref x), l1, l2] (.ref x :: S) h) ∧
  (∀ (l0 l1 l2 : Option Value) (a : Nat) (r : List Value) (h : zH) (hx : zfok (h.2.2 a) 8 0 = true), zD 159 36 [l0, l1, l2] (.ref a :: r) h = zD 159 39 [l0, l1, l2] (zfv (h.2.2 a) 0 :: r) h) ∧
  (∀ (l0 l1 l2 : Option Value) (a : Nat) (r : List Value) (h : zH) (hx : zfok (h.2.2 a) 3 2 = true), zD 159 39 [l0, l1, l2] (.ref a :: r) h = zD 159 42 [l0, l1, l2] (zfv (h.2.2 a) 2 :: r) h) ∧
  (∀ (l0 l1 : Option Value) (x : Int32) (S : List Value) (h : zH), zD 159 42 [l0, l1, some (.int x)] S h = zD 159 43 [l0, l1, some (.int x)] (.int x :: S) h) ∧
  (∀ (l0 l1 l2 : Option Value) (p0 : Nat) (p1 : Int32) (p2 : Int32) (a : Nat) (r : List Value) (h : zH) (hcat : zcat r ≤ 8) (hr : zis (h.2.2 a) 0 = true) (hC : (zC 150 (.ref a :: [.ref p0, .int p1, .int p2]) h).isSome = true), zD 159 43 [l0, l1, l2] (.int p2 :: .int p1 :: .ref p0 :: .ref a :: r) h = zD 159 46 [l0, l1, l2] (zgv (zC 150 (.ref a :: [.ref p0, .int p1, .int p2]) h) ++ r) (zgh h (zC 150 (.ref a :: [.ref p0, .int p1, .int p2]) h))) ∧
  (∀ (l0 l1 l2 : Option Value) (v : Nat) (h : zH), zD 159 46 [l0, l1, l2] [.ref v] h = some (some (.ref v), h)) ∧
  (∀ (l0 l1 l2 : Option Value) (h : zH), zD 159 46 [l0, l1, l2] [.null] h = some (some .null, h)) :=
  ⟨fun l0 l2 x S h => zD_op (ins := .iload_n 1) (len := 1) (c := (1, [l0, some (.int x), l2], (.int x :: S), h)) (by decide +kernel) rfl rfl rfl rfl,
  fun l0 l1 l2 S h => zD_icst (n := 1) (by decide +kernel) (by decide +kernel),
  fun l0 l1 l2 x y r h => zD_if (cnd := .ne) (off := 25) (by decide +kernel) (by decide) rfl,
  fun l1 l2 x S h => zD_op (ins := .aload_n 0) (len := 1) (c := (6, [some (.ref x), l1, l2], (.ref x :: S), h)) (by decide +kernel) rfl rfl rfl rfl,
  fun l0 l1 l2 a r h hx => zD_getf (i := 41) (ci := 8) (k := 3) (q := (251, 0)) (by decide +kernel) (by decide +kernel) hx,
  fun l1 l2 x S h => zD_op (ins := .aload_n 0) (len := 1) (c := (10, [some (.ref x), l1, l2], (.ref x :: S), h)) (by decide +kernel) rfl rfl rfl rfl,
  fun l0 l1 l2 a r h hx => zD_getf (i := 19) (ci := 8) (k := 1) (q := (249, 0)) (by decide +kernel) (by decide +kernel) hx,
  fun l1 l2 x S h => zD_op (ins := .aload_n 0) (len := 1) (c := (14, [some (.ref x), l1, l2], (.ref x :: S), h)) (by decide +kernel) rfl rfl rfl rfl,
  fun l0 l1 l2 a r h hx => zD_getf (i := 12) (ci := 8) (k := 0) (q := (248, 0)) (by decide +kernel) (by decide +kernel) hx,
  fun l0 l1 l2 a r h hx => zD_getf (i := 166) (ci := 3) (k := 2) (q := (90, 1)) (by decide +kernel) (by decide +kernel) hx,
  fun l0 l1 x S h => zD_op (ins := .iload_n 2) (len := 1) (c := (21, [l0, l1, some (.int x)], (.int x :: S), h)) (by decide +kernel) rfl rfl rfl rfl,
  fun l0 l1 l2 p0 p1 p2 a r h hcat hr hC => zD_callv (i := 175) (y := 152) (n := 3) (as := [.ref p0, .int p1, .int p2]) (ci := 5) (by decide +kernel) (by decide +kernel) rfl (by decide +kernel) (Nat.le_of_ble_eq_true rfl) (by decide +kernel) hcat hr hC,
  fun l0 l1 l2 S h => zD_goto (off := 22) (by decide +kernel) (by decide),
  fun l1 l2 x S h => zD_op (ins := .aload_n 0) (len := 1) (c := (28, [some (.ref x), l1, l2], (.ref x :: S), h)) (by decide +kernel) rfl rfl rfl rfl,
  fun l0 l1 l2 a r h hx => zD_getf (i := 34) (ci := 8) (k := 2) (q := (250, 0)) (by decide +kernel) (by decide +kernel) hx,
  fun l1 l2 x S h => zD_op (ins := .aload_n 0) (len := 1) (c := (32, [some (.ref x), l1, l2], (.ref x :: S), h)) (by decide +kernel) rfl rfl rfl rfl,
  fun l0 l1 l2 a r h hx => zD_getf (i := 19) (ci := 8) (k := 1) (q := (249, 0)) (by decide +kernel) (by decide +kernel) hx,
  fun l1 l2 x S h => zD_op (ins := .aload_n 0) (len := 1) (c := (36, [some (.ref x), l1, l2], (.ref x :: S), h)) (by decide +kernel) rfl rfl rfl rfl,
  fun l0 l1 l2 a r h hx => zD_getf (i := 12) (ci := 8) (k := 0) (q := (248, 0)) (by decide +kernel) (by decide +kernel) hx,
  fun l0 l1 l2 a r h hx => zD_getf (i := 166) (ci := 3) (k := 2) (q := (90, 1)) (by decide +kernel) (by decide +kernel) hx,
  fun l0 l1 x S h => zD_op (ins := .iload_n 2) (len := 1) (c := (43, [l0, l1, some (.int x)], (.int x :: S), h)) (by decide +kernel) rfl rfl rfl rfl,
  fun l0 l1 l2 p0 p1 p2 a r h hcat hr hC => zD_callv (i := 179) (y := 150) (n := 3) (as := [.ref p0, .int p1, .int p2]) (ci := 0) (by decide +kernel) (by decide +kernel) rfl (by decide +kernel) (Nat.le_of_ble_eq_true rfl) (by decide +kernel) hcat hr hC,
  fun l0 l1 l2 v h => zD_aret (by decide +kernel) rfl,
  fun l0 l1 l2 h => zD_aretn (by decide +kernel) rfl⟩
set_option maxRecDepth 100000 in
theorem I_X9_firstTrees : (∀ (a : Nat) (p0 : Int32) (p1 : Int32) (h : zH), zC 159 [.ref a, .int p0, .int p1] h = zD 159 0 [some (.ref a), some (.int p0), some (.int p1)] [] h) :=
  fun a p0 p1 h => zC_def rfl
set_option maxRecDepth 100000 in
theorem E_X9_searched : (∀ (l1 l2 l3 : Option Value) (x : Nat) (S : List Value) (h : zH), zD 160 0 [some (.ref x), l1, l2, l3] S h = zD 160 1 [some (.ref x), l1, l2, l3] (.ref x :: S) h) ∧
  (∀ (l0 l2 l3 : Option Value) (x : Int32) (S : List Value) (h : zH), zD 160 1 [l0, some (.int x), l2, l3] S h = zD 160 2 [l0, some (.int x), l2, l3] (.int x :: S) h) ∧
  (∀ (l0 l1 l2 l3 : Option Value) (p0 : Int32) (a : Nat) (r : List Value) (h : zH) (hcat : zcat r ≤ 8) (hr : zis (h.2.2 a) 8 = true) (hC : (zC 72 (.ref a :: [.int p0]) h).isSome = true), zD 160 2 [l0, l1, l2, l3] (.int p0 :: .ref a :: r) h = zD 160 5 [l0, l1, l2, l3] (zgv (zC 72 (.ref a :: [.int p0]) h) ++ r) (zgh h (zC 72 (.ref a :: [.int p0]) h))) ∧
  (∀ (l0 l1 l2 l3 : Option Value) (x : Nat) (r : List Value) (h : zH), zD 160 5 [l0, l1, l2, l3] (.ref x :: r) h = zD 160 6 [l0, l1, zclr l2, some (.ref x)] r h) ∧
  (∀ (l0 l1 l2 l3 : Option Value) (r : List Value) (h : zH), zD 160 5 [l0, l1, l2, l3] (.null :: r) h = zD 160 6 [l0, l1, zclr l2, some .null] r h) ∧
  (∀ (l0 l1 l2 : Option Value) (x : Nat) (S : List Value) (h : zH), zD 160 6 [l0, l1, l2, some (.ref x)] S h = zD 160 7 [l0, l1, l2, some (.ref x)] (.ref x :: S) h) ∧
  (∀ (l0 l1 l2 : Option Value) (S : List Value) (h : zH), zD 160 6 [l0, l1, l2, some .null] S h = zD 160 7 [l0, l1, l2, some .null] (.null :: S) h) ∧
  (∀ (l0 l1 l2 l3 : Option Value) (r : List Value) (h : zH), zD 160 7 [l0, l1, l2, l3] (.null :: r) h = zD 160 10 [l0, l1, l2, l3] r h) ∧
  (∀ (l0 l1 l2 l3 : Option Value) (x : Nat) (r : List Value) (h : zH), zD 160 7 [l0, l1, l2, l3] (.ref x :: r) h = zD 160 13 [l0, l1, l2, l3] r h) ∧
  (∀ (l0 l1 l2 l3 : Option Value) (S : List Value) (h : zH), zD 160 10 [l0, l1, l2, l3] S h = zD 160 12 [l0, l1, l2, l3] (.int (-101 : Int32) :: S) h) ∧
  (∀ (l0 l1 l2 l3 : Option Value) (v : Int32) (h : zH), zD 160 12 [l0, l1, l2, l3] [.int v] h = some (some (.int v), h)) ∧
  (∀ (l1 l2 l3 : Option Value) (x : Nat) (S : List Value) (h : zH), zD 160 13 [some (.ref x), l1, l2, l3] S h = zD 160 14 [some (.ref x), l1, l2, l3] (.ref x :: S) h) ∧
  (∀ (l0 l1 l2 l3 : Option Value) (a : Nat) (r : List Value) (h : zH) (hx : zfok (h.2.2 a) 8 6 = true), zD 160 14 [l0, l1, l2, l3] (.ref a :: r) h = zD 160 17 [l0, l1, l2, l3] (zfv (h.2.2 a) 6 :: r) h) ∧
  (∀ (l0 l1 l2 l3 : Option Value) (a : Nat) (r : List Value) (h : zH) (hx : zfok (h.2.2 a) 4 3 = true), zD 160 17 [l0, l1, l2, l3] (.ref a :: r) h = zD 160 20 [l0, l1, l2, l3] (zfv (h.2.2 a) 3 :: r) h) ∧
  (∀ (l0 l1 l2 l3 : Option Value) (x : Int32) (r : List Value) (h : zH), zD 160 20 [l0, l1, l2, l3] (.int x :: r) h = if x = 0 then zD 160 30 [l0, l1, l2, l3] r h else zD 160 23 [l0, l1, l2, l3] r h) ∧
  (∀ (l0 l1 l2 : Option Value) (x : Nat) (S : List Value) (h : zH), zD 160 23 [l0, l1, l2, some (.ref x)] S h = zD 160 24 [l0, l1, l2, some (.ref x)] (.ref x :: S) h) ∧
  (∀ (l0 l1 l2 : Option Value) (S : List Value) (h : zH), zD 160 23 [l0, l1, l2, some .null] S h = zD 160 24 [l0, l1, l2, some .null] (.null :: S) h) ∧
  (∀ (l0 l1 l2 l3 : Option Value) (a : Nat) (r : List Value) (h : zH) (hcat : zcat r ≤ 8) (hr : zis (h.2.2 a) 3 = true) (hC : (zC 92 [.ref a] h).isSome = true), zD 160 24 [l0, l1, l2, l3] (.ref a :: r) h = zD 160 27 [l0, l1, l2, l3] (zgv (zC 92 [.ref a] h) ++ r) (zgh h (zC 92 [.ref a] h))) ∧
  (∀ (l0 l1 l2 l3 : Option Value) (x : Int32) (r : List Value) (h : zH), zD 160 27 [l0, l1, l2, l3] (.int x :: r) h = if ¬ x = 0 then zD 160 33 [l0, l1, l2, l3] r h else zD 160 30 [l0, l1, l2, l3] r h) ∧
  (∀ (l0 l1 l2 l3 : Option Value) (S : List Value) (h : zH), zD 160 30 [l0, l1, l2, l3] S h = zD 160 32 [l0, l1, l2, l3] (.int (-103 : Int32) :: S) h) ∧
  (∀ (l0 l1 l2 l3 : Option Value) (v : Int32) (h : zH), zD 160 32 [l0, l1, l2, l3] [.int v] h = some (some (.int v), h)) ∧
  (∀ (l1 l2 l3 : Option Value) (x : Nat) (S : List Value) (h : zH), zD 160 33 [some (.ref x), l1, l2, l3] S h = zD 160 34 [some (.ref x), l1, l2, l3] (.ref x :: S) h) ∧
  (∀ (l0 l1 l2 l3 : Option Value) (a : Nat) (r : List Value) (h : zH) (hx : zfok (h.2.2 a) 8 6 = true), zD 160 34 [l0, l1, l2, l3] (.ref a :: r) h = zD 160 37 [l0, l1, l2, l3] (zfv (h.2.2 a) 6 :: r) h) ∧
  (∀ (l0 l1 l2 : Option Value) (x : Nat) (S : List Value) (h : zH), zD 160 37 [l0, l1, l2, some (.ref x)] S h = zD 160 38 [l0, l1, l2, some (.ref x)] (.ref x :: S) h) ∧
  (∀ (l0 l1 l2 : Option Value) (S : List Value) (h : zH), zD 160 37 [l0, l1, l2, some .null] S h = zD 160 38 [l0, l1, l2, some .null] (.null :: S) h) ∧
  (∀ (l0 l1 l3 : Option Value) (x : Int32) (S : List Value) (h : zH), zD 160 38 [l0, l1, some (.int x), l3] S h = zD 160 39 [l0, l1, some (.int x), l3] (.int x :: S) h) ∧
  (∀ (l0 l1 l2 l3 : Option Value) (p0 : Nat) (p1 : Int32) (a : Nat) (r : List Value) (h : zH) (hcat : zcat r ≤ 8) (hr : zis (h.2.2 a) 4 = true) (hC : (zC 151 (.ref a :: [.ref p0, .int p1]) h).isSome = true), zD 160 39 [l0, l1, l2, l3] (.int p1 :: .ref p0 :: .ref a :: r) h = zD 160 42 [l0, l1, l2, l3] (zgv (zC 151 (.ref a :: [.ref p0, .int p1]) h) ++ r) (zgh h (zC 151 (.ref a :: [.ref p0, .int p1]) h))) ∧
  (∀ (l0 l1 l2 l3 : Option Value) (v : Int32) (h : zH), zD 160 42 [l0, l1, l2, l3] [.int v] h = some (some (.int v), h)) :=
  ⟨fun l1 l2 l3 x S h => zD_op (ins := .aload_n 0) (len := 1) (c := (1, [some (.ref x), l1, l2, l3], (.ref x :: S), h)) (by decide +kernel) rfl rfl rfl rfl,
  fun l0 l2 l3 x S h => zD_op (ins := .iload_n 1) (len := 1) (c := (2, [l0, some (.int x), l2, l3], (.int x :: S), h)) (by decide +kernel) rfl rfl rfl rfl,
  fun l0 l1 l2 l3 p0 a r h hcat hr hC => zD_callv (i := 222) (y := 72) (n := 1) (as := [.int p0]) (ci := 8) (by decide +kernel) (by decide +kernel) rfl (by decide +kernel) (Nat.le_of_ble_eq_true rfl) (by decide +kernel) hcat hr hC,
  fun l0 l1 l2 l3 x r h => zD_st1 (k := 3) (ins := .astore_n 3) (len := 1) (by decide +kernel) rfl rfl rfl (by decide +kernel) rfl rfl,
  fun l0 l1 l2 l3 r h => zD_st1 (k := 3) (ins := .astore_n 3) (len := 1) (by decide +kernel) rfl rfl rfl (by decide +kernel) rfl rfl,
  fun l0 l1 l2 x S h => zD_op (ins := .aload_n 3) (len := 1) (c := (7, [l0, l1, l2, some (.ref x)], (.ref x :: S), h)) (by decide +kernel) rfl rfl rfl rfl,
  fun l0 l1 l2 S h => zD_op (ins := .aload_n 3) (len := 1) (c := (7, [l0, l1, l2, some .null], (.null :: S), h)) (by decide +kernel) rfl rfl rfl rfl,
  fun l0 l1 l2 l3 r h => zD_nn (off := 6) (t := 13) (by decide +kernel) (by decide),
  fun l0 l1 l2 l3 x r h => zD_nnr (off := 6) (t := 13) (by decide +kernel) (by decide),
  fun l0 l1 l2 l3 S h => zD_bip (n := (-101)) (by decide +kernel) (by decide +kernel),
  fun l0 l1 l2 l3 v h => zD_ireti (by decide +kernel) rfl,
  fun l1 l2 l3 x S h => zD_op (ins := .aload_n 0) (len := 1) (c := (14, [some (.ref x), l1, l2, l3], (.ref x :: S), h)) (by decide +kernel) rfl rfl rfl rfl,
  fun l0 l1 l2 l3 a r h hx => zD_getf (i := 62) (ci := 8) (k := 6) (q := (254, 0)) (by decide +kernel) (by decide +kernel) hx,
  fun l0 l1 l2 l3 a r h hx => zD_getf (i := 215) (ci := 4) (k := 3) (q := (219, 1)) (by decide +kernel) (by decide +kernel) hx,
  fun l0 l1 l2 l3 x r h => zD_if0 (cnd := .eq) (off := 10) (by decide +kernel) (by decide) rfl,
  fun l0 l1 l2 x S h => zD_op (ins := .aload_n 3) (len := 1) (c := (24, [l0, l1, l2, some (.ref x)], (.ref x :: S), h)) (by decide +kernel) rfl rfl rfl rfl,
  fun l0 l1 l2 S h => zD_op (ins := .aload_n 3) (len := 1) (c := (24, [l0, l1, l2, some .null], (.null :: S), h)) (by decide +kernel) rfl rfl rfl rfl,
  fun l0 l1 l2 l3 a r h hcat hr hC => zD_callv (i := 103) (y := 92) (n := 0) (as := []) (ci := 3) (by decide +kernel) (by decide +kernel) rfl (by decide +kernel) (Nat.le_of_ble_eq_true rfl) (by decide +kernel) hcat hr hC,
  fun l0 l1 l2 l3 x r h => zD_if0 (cnd := .ne) (off := 6) (by decide +kernel) (by decide) rfl,
  fun l0 l1 l2 l3 S h => zD_bip (n := (-103)) (by decide +kernel) (by decide +kernel),
  fun l0 l1 l2 l3 v h => zD_ireti (by decide +kernel) rfl,
  fun l1 l2 l3 x S h => zD_op (ins := .aload_n 0) (len := 1) (c := (34, [some (.ref x), l1, l2, l3], (.ref x :: S), h)) (by decide +kernel) rfl rfl rfl rfl,
  fun l0 l1 l2 l3 a r h hx => zD_getf (i := 62) (ci := 8) (k := 6) (q := (254, 0)) (by decide +kernel) (by decide +kernel) hx,
  fun l0 l1 l2 x S h => zD_op (ins := .aload_n 3) (len := 1) (c := (38, [l0, l1, l2, some (.ref x)], (.ref x :: S), h)) (by decide +kernel) rfl rfl rfl rfl,
  fun l0 l1 l2 S h => zD_op (ins := .aload_n 3) (len := 1) (c := (38, [l0, l1, l2, some .null], (.null :: S), h)) (by decide +kernel) rfl rfl rfl rfl,
  fun l0 l1 l3 x S h => zD_op (ins := .iload_n 2) (len := 1) (c := (39, [l0, l1, some (.int x), l3], (.int x :: S), h)) (by decide +kernel) rfl rfl rfl rfl,
  fun l0 l1 l2 l3 p0 p1 a r h hcat hr hC => zD_callv (i := 225) (y := 151) (n := 2) (as := [.ref p0, .int p1]) (ci := 4) (by decide +kernel) (by decide +kernel) rfl (by decide +kernel) (Nat.le_of_ble_eq_true rfl) (by decide +kernel) hcat hr hC,
  fun l0 l1 l2 l3 v h => zD_ireti (by decide +kernel) rfl⟩
set_option maxRecDepth 100000 in
theorem I_X9_searched : (∀ (a : Nat) (p0 : Int32) (p1 : Int32) (h : zH), zC 160 [.ref a, .int p0, .int p1] h = zD 160 0 [some (.ref a), some (.int p0), some (.int p1), none] [] h) :=
  fun a p0 p1 h => zC_def rfl
set_option maxRecDepth 100000 in
theorem E_X9_best : (∀ (l0 l2 l3 l4 l5 : Option Value) (x : Int32) (S : List Value) (h : zH), zD 161 0 [l0, some (.int x), l2, l3, l4, l5] S h = zD 161 1 [l0, some (.int x), l2, l3, l4, l5] (.int x :: S) h) ∧
  (∀ (l0 l1 l2 l3 l4 l5 : Option Value) (p0 : Int32) (r : List Value) (h : zH) (hcat : zcat r ≤ 8) (hC : (zC 24 [.int p0] h).isSome = true), zD 161 1 [l0, l1, l2, l3, l4, l5] (.int p0 :: r) h = zD 161 4 [l0, l1, l2, l3, l4, l5] (zgv (zC 24 [.int p0] h) ++ r) (zgh h (zC 24 [.int p0] h))) ∧
  (∀ (l0 l1 l2 l3 l4 l5 : Option Value) (x : Int32) (r : List Value) (h : zH), zD 161 4 [l0, l1, l2, l3, l4, l5] (.int x :: r) h = if x = 0 then zD 161 17 [l0, l1, l2, l3, l4, l5] r h else zD 161 7 [l0, l1, l2, l3, l4, l5] r h) ∧
  (∀ (l0 l1 l3 l4 l5 : Option Value) (x : Int32) (S : List Value) (h : zH), zD 161 7 [l0, l1, some (.int x), l3, l4, l5] S h = zD 161 8 [l0, l1, some (.int x), l3, l4, l5] (.int x :: S) h) ∧
  (∀ (l0 l1 l2 l3 l4 l5 : Option Value) (x : Int32) (r : List Value) (h : zH), zD 161 8 [l0, l1, l2, l3, l4, l5] (.int x :: r) h = if x < 0 then zD 161 17 [l0, l1, l2, l3, l4, l5] r h else zD 161 11 [l0, l1, l2, l3, l4, l5] r h) ∧
  (∀ (l0 l1 l3 l4 l5 : Option Value) (x : Int32) (S : List Value) (h : zH), zD 161 11 [l0, l1, some (.int x), l3, l4, l5] S h = zD 161 12 [l0, l1, some (.int x), l3, l4, l5] (.int x :: S) h) ∧
  (∀ (l0 l1 l2 l3 l4 l5 : Option Value) (S : List Value) (h : zH), zD 161 12 [l0, l1, l2, l3, l4, l5] S h = zD 161 14 [l0, l1, l2, l3, l4, l5] (.int (31 : Int32) :: S) h) ∧
  (∀ (l0 l1 l2 l3 l4 l5 : Option Value) (x y : Int32) (r : List Value) (h : zH), zD 161 14 [l0, l1, l2, l3, l4, l5] (.int y :: .int x :: r) h = if x < y then zD 161 20 [l0, l1, l2, l3, l4, l5] r h else zD 161 17 [l0, l1, l2, l3, l4, l5] r h) ∧
  (∀ (l0 l1 l2 l3 l4 l5 : Option Value) (S : List Value) (h : zH), zD 161 17 [l0, l1, l2, l3, l4, l5] S h = zD 161 19 [l0, l1, l2, l3, l4, l5] (.int (-100000001 : Int32) :: S) h) ∧
  (∀ (l0 l1 l2 l3 l4 l5 : Option Value) (v : Int32) (h : zH), zD 161 19 [l0, l1, l2, l3, l4, l5] [.int v] h = some (some (.int v), h)) ∧
  (∀ (l1 l2 l3 l4 l5 : Option Value) (x : Nat) (S : List Value) (h : zH), zD 161 20 [some (.ref x), l1, l2, l3, l4, l5] S h = zD 161 21 [some (.ref x), l1, l2, l3, l4, l5] (.ref x :: S) h) ∧
  (∀ (l0 l2 l3 l4 l5 : Option Value) (x : Int32) (S : List Value) (h : zH), zD 161 21 [l0, some (.int x), l2, l3, l4, l5] S h = zD 161 22 [l0, some (.int x), l2, l3, l4, l5] (.int x :: S) h) ∧
  (∀ (l0 l1 l3 l4 l5 : Option Value) (x : Int32) (S : List Value) (h : zH), zD 161 22 [l0, l1, some (.int x), l3, l4, l5] S h = zD 161 23 [l0, l1, some (.int x), l3, l4, l5] (.int x :: S) h) ∧
  (∀ (l0 l1 l2 l3 l4 l5 : Option Value) (S : List Value) (h : zH), zD 161 23 [l0, l1, l2, l3, l4, l5] S h = zD 161 24 [l0, l1, l2, l3, l4, l5] (.int (1 : Int32) :: S) h) ∧
  (∀ (l0 l1 l2 l3 l4 l5 : Option Value) (x y : Int32) (r : List Value) (h : zH), zD 161 24 [l0, l1, l2, l3, l4, l5] (.int y :: .int x :: r) h = zD 161 25 [l0, l1, l2, l3, l4, l5] (.int (x + y) :: r) h) ∧
  (∀ (l0 l1 l2 l3 l4 l5 : Option Value) (p0 : Int32) (p1 : Int32) (a : Nat) (r : List Value) (h : zH) (hcat : zcat r ≤ 8) (hr : zis (h.2.2 a) 8 = true) (hC : (zC 159 (.ref a :: [.int p0, .int p1]) h).isSome = true), zD 161 25 [l0, l1, l2, l3, l4, l5] (.int p1 :: .int p0 :: .ref a :: r) h = zD 161 28 [l0, l1, l2, l3, l4, l5] (zgv (zC 159 (.ref a :: [.int p0, .int p1]) h) ++ r) (zgh h (zC 159 (.ref a :: [.int p0, .int p1]) h))) ∧
  (∀ (l0 l1 l2 l3 l4 l5 : Option Value) (x : Nat) (r : List Value) (h : zH), zD 161 28 [l0, l1, l2, l3, l4, l5] (.ref x :: r) h = zD 161 29 [l0, l1, zclr l2, some (.ref x), l4, l5] r h) ∧
  (∀ (l0 l1 l2 l3 l4 l5 : Option Value) (r : List Value) (h : zH), zD 161 28 [l0, l1, l2, l3, l4, l5] (.null :: r) h = zD 161 29 [l0, l1, zclr l2, some .null, l4, l5] r h) ∧
  (∀ (l0 l1 l3 l4 l5 : Option Value) (x : Int32) (S : List Value) (h : zH), zD 161 29 [l0, l1, some (.int x), l3, l4, l5] S h = zD 161 30 [l0, l1, some (.int x), l3, l4, l5] (.int x :: S) h) ∧
  (∀ (l0 l1 l2 l4 l5 : Option Value) (x : Nat) (S : List Value) (h : zH), zD 161 30 [l0, l1, l2, some (.ref x), l4, l5] S h = zD 161 31 [l0, l1, l2, some (.ref x), l4, l5] (.ref x :: S) h) ∧
  (∀ (l0 l1 l2 l4 l5 : Option Value) (S : List Value) (h : zH), zD 161 30 [l0, l1, l2, some .null, l4, l5] S h = zD 161 31 [l0, l1, l2, some .null, l4, l5] (.null :: S) h) ∧
  (∀ (l0 l1 l2 l3 l4 l5 : Option Value) (a : Nat) (r : List Value) (h : zH) (hx : zfok (h.2.2 a) 7 1 = true), zD 161 31 [l0, l1, l2, l3, l4, l5] (.ref a :: r) h = zD 161 34 [l0, l1, l2, l3, l4, l5] (zfv (h.2.2 a) 1 :: r) h) ∧
  (∀ (l0 l1 l2 l3 l4 l5 : Option Value) (x y : Int32) (r : List Value) (h : zH), zD 161 34 [l0, l1, l2, l3, l4, l5] (.int y :: .int x :: r) h = if x < y then zD 161 40 [l0, l1, l2, l3, l4, l5] r h else zD 161 37 [l0, l1, l2, l3, l4, l5] r h) ∧
  (∀ (l0 l1 l2 l3 l4 l5 : Option Value) (S : List Value) (h : zH), zD 161 37 [l0, l1, l2, l3, l4, l5] S h = zD 161 39 [l0, l1, l2, l3, l4, l5] (.int (-100000000 : Int32) :: S) h) ∧
  (∀ (l0 l1 l2 l3 l4 l5 : Option Value) (v : Int32) (h : zH), zD 161 39 [l0, l1, l2, l3, l4, l5] [.int v] h = some (some (.int v), h)) ∧
  (∀ (l0 l1 l2 l4 l5 : Option Value) (x : Nat) (S : List Value) (h : zH), zD 161 40 [l0, l1, l2, some (.ref x), l4, l5] S h = zD 161 41 [l0, l1, l2, some (.ref x), l4, l5] (.ref x :: S) h) ∧
  (∀ (l0 l1 l2 l4 l5 : Option Value) (S : List Value) (h : zH), zD 161 40 [l0, l1, l2, some .null, l4, l5] S h = zD 161 41 [l0, l1, l2, some .null, l4, l5] (.null :: S) h) ∧
  (∀ (l0 l1 l2 l3 l4 l5 : Option Value) (a : Nat) (r : List Value) (h : zH) (hx : zfok (h.2.2 a) 7 0 = true), zD 161 41 [l0, l1, l2, l3, l4, l5] (.ref a :: r) h = zD 161 44 [l0, l1, l2, l3, l4, l5] (zfv (h.2.2 a) 0 :: r) h) ∧
  (∀ (l0 l1 l3 l4 l5 : Option Value) (x : Int32) (S : List Value) (h : zH), zD 161 44 [l0, l1, some (.int x), l3, l4, l5] S h = zD 161 45 [l0, l1, some (.int x), l3, l4, l5] (.int x :: S) h) ∧
  (∀ (l0 l1 l2 l3 l4 l5 : Option Value) (i : Int32) (a : Nat) (r : List Value) (h : zH) (hx : zlok (h.2.2 a) i = true), zD 161 45 [l0, l1, l2, l3, l4, l5] (.int i :: .ref a :: r) h = zD 161 46 [l0, l1, l2, l3, l4, l5] (.long (zlv' (h.2.2 a) i) :: r) h) ∧
  (∀ (l0 l1 l2 l3 l4 l5 : Option Value) (x : Int64) (r : List Value) (h : zH), zD 161 46 [l0, l1, l2, l3, l4, l5] (.long x :: r) h = zD 161 48 [l0, l1, l2, zclr l3, some (.long x), none] r h) ∧
  (∀ (l1 l2 l3 l4 l5 : Option Value) (x : Nat) (S : List Value) (h : zH), zD 161 48 [some (.ref x), l1, l2, l3, l4, l5] S h = zD 161 49 [some (.ref x), l1, l2, l3, l4, l5] (.ref x :: S) h) ∧
  (∀ (l0 l1 l2 l3 l4 l5 : Option Value) (a : Nat) (r : List Value) (h : zH) (hx : zfok (h.2.2 a) 8 0 = true), zD 161 49 [l0, l1, l2, l3, l4, l5] (.ref a :: r) h = zD 161 52 [l0, l1, l2, l3, l4, l5] (zfv (h.2.2 a) 0 :: r) h) ∧
  (∀ (l0 l1 l2 l3 l5 : Option Value) (x : Int64) (S : List Value) (h : zH), zD 161 52 [l0, l1, l2, l3, some (.long x), l5] S h = zD 161 54 [l0, l1, l2, l3, some (.long x), l5] (.long x :: S) h) ∧
  (∀ (l0 l1 l2 l3 l4 l5 : Option Value) (p0 : Int64) (a : Nat) (r : List Value) (h : zH) (hcat : zcat r ≤ 8) (hr : zis (h.2.2 a) 3 = true) (hC : (zC 91 (.ref a :: [.long p0]) h).isSome = true), zD 161 54 [l0, l1, l2, l3, l4, l5] (.long p0 :: .ref a :: r) h = zD 161 57 [l0, l1, l2, l3, l4, l5] (zgv (zC 91 (.ref a :: [.long p0]) h) ++ r) (zgh h (zC 91 (.ref a :: [.long p0]) h))) ∧
  (∀ (l0 l1 l2 l3 l5 : Option Value) (x : Int64) (S : List Value) (h : zH), zD 161 57 [l0, l1, l2, l3, some (.long x), l5] S h = zD 161 59 [l0, l1, l2, l3, some (.long x), l5] (.long x :: S) h) ∧
  (∀ (l0 l1 l2 l3 l4 l5 : Option Value) (p0 : Int64) (r : List Value) (h : zH) (hcat : zcat r ≤ 8) (hC : (zC 10 [.long p0] h).isSome = true), zD 161 59 [l0, l1, l2, l3, l4, l5] (.long p0 :: r) h = zD 161 62 [l0, l1, l2, l3, l4, l5] (zgv (zC 10 [.long p0] h) ++ r) (zgh h (zC 10 [.long p0] h))) ∧
  (∀ (l0 l1 l2 l3 l4 l5 : Option Value) (v : Int32) (h : zH), zD 161 62 [l0, l1, l2, l3, l4, l5] [.int v] h = some (some (.int v), h)) :=
  ⟨fun l0 l2 l3 l4 l5 x S h => zD_op (ins := .iload_n 1) (len := 1) (c := (1, [l0, some (.int x), l2, l3, l4, l5], (.int x :: S), h)) (by decide +kernel) rfl rfl rfl rfl,
  fun l0 l1 l2 l3 l4 l5 p0 r h hcat hC => zD_calls (i := 143) (y := 24) (n := 1) (as := [.int p0]) (by decide +kernel) (by decide +kernel) rfl (by decide +kernel) (Nat.le_of_ble_eq_true rfl) hcat hC,
  fun l0 l1 l2 l3 l4 l5 x r h => zD_if0 (cnd := .eq) (off := 13) (by decide +kernel) (by decide) rfl,
  fun l0 l1 l3 l4 l5 x S h => zD_op (ins := .iload_n 2) (len := 1) (c := (8, [l0, l1, some (.int x), l3, l4, l5], (.int x :: S), h)) (by decide +kernel) rfl rfl rfl rfl,
  fun l0 l1 l2 l3 l4 l5 x r h => zD_if0 (cnd := .lt) (off := 9) (by decide +kernel) (by decide) rfl,
  fun l0 l1 l3 l4 l5 x S h => zD_op (ins := .iload_n 2) (len := 1) (c := (12, [l0, l1, some (.int x), l3, l4, l5], (.int x :: S), h)) (by decide +kernel) rfl rfl rfl rfl,
  fun l0 l1 l2 l3 l4 l5 S h => zD_bip (n := 31) (by decide +kernel) (by decide +kernel),
  fun l0 l1 l2 l3 l4 l5 x y r h => zD_if (cnd := .lt) (off := 6) (by decide +kernel) (by decide) rfl,
  fun l0 l1 l2 l3 l4 l5 S h => zD_ldc (i := 146) (q := 417) (by decide +kernel) (by decide +kernel),
  fun l0 l1 l2 l3 l4 l5 v h => zD_ireti (by decide +kernel) rfl,
  fun l1 l2 l3 l4 l5 x S h => zD_op (ins := .aload_n 0) (len := 1) (c := (21, [some (.ref x), l1, l2, l3, l4, l5], (.ref x :: S), h)) (by decide +kernel) rfl rfl rfl rfl,
  fun l0 l2 l3 l4 l5 x S h => zD_op (ins := .iload_n 1) (len := 1) (c := (22, [l0, some (.int x), l2, l3, l4, l5], (.int x :: S), h)) (by decide +kernel) rfl rfl rfl rfl,
  fun l0 l1 l3 l4 l5 x S h => zD_op (ins := .iload_n 2) (len := 1) (c := (23, [l0, l1, some (.int x), l3, l4, l5], (.int x :: S), h)) (by decide +kernel) rfl rfl rfl rfl,
  fun l0 l1 l2 l3 l4 l5 S h => zD_icst (n := 1) (by decide +kernel) (by decide +kernel),
  fun l0 l1 l2 l3 l4 l5 x y r h => zD_op (ins := .iadd) (len := 1) (c := (25, [l0, l1, l2, l3, l4, l5], (.int (x + y) :: r), h)) (by decide +kernel) rfl rfl rfl rfl,
  fun l0 l1 l2 l3 l4 l5 p0 p1 a r h hcat hr hC => zD_callv (i := 147) (y := 159) (n := 2) (as := [.int p0, .int p1]) (ci := 8) (by decide +kernel) (by decide +kernel) rfl (by decide +kernel) (Nat.le_of_ble_eq_true rfl) (by decide +kernel) hcat hr hC,
  fun l0 l1 l2 l3 l4 l5 x r h => zD_st1 (k := 3) (ins := .astore_n 3) (len := 1) (by decide +kernel) rfl rfl rfl (by decide +kernel) rfl rfl,
  fun l0 l1 l2 l3 l4 l5 r h => zD_st1 (k := 3) (ins := .astore_n 3) (len := 1) (by decide +kernel) rfl rfl rfl (by decide +kernel) rfl rfl,
  fun l0 l1 l3 l4 l5 x S h => zD_op (ins := .iload_n 2) (len := 1) (c := (30, [l0, l1, some (.int x), l3, l4, l5], (.int x :: S), h)) (by decide +kernel) rfl rfl rfl rfl,
  fun l0 l1 l2 l4 l5 x S h => zD_op (ins := .aload_n 3) (len := 1) (c := (31, [l0, l1, l2, some (.ref x), l4, l5], (.ref x :: S), h)) (by decide +kernel) rfl rfl rfl rfl,
  fun l0 l1 l2 l4 l5 S h => zD_op (ins := .aload_n 3) (len := 1) (c := (31, [l0, l1, l2, some .null, l4, l5], (.null :: S), h)) (by decide +kernel) rfl rfl rfl rfl,
  fun l0 l1 l2 l3 l4 l5 a r h hx => zD_getf (i := 151) (ci := 7) (k := 1) (q := (137, 1)) (by decide +kernel) (by decide +kernel) hx,
  fun l0 l1 l2 l3 l4 l5 x y r h => zD_if (cnd := .lt) (off := 6) (by decide +kernel) (by decide) rfl,
  fun l0 l1 l2 l3 l4 l5 S h => zD_ldc (i := 155) (q := 488) (by decide +kernel) (by decide +kernel),
  fun l0 l1 l2 l3 l4 l5 v h => zD_ireti (by decide +kernel) rfl,
  fun l0 l1 l2 l4 l5 x S h => zD_op (ins := .aload_n 3) (len := 1) (c := (41, [l0, l1, l2, some (.ref x), l4, l5], (.ref x :: S), h)) (by decide +kernel) rfl rfl rfl rfl,
  fun l0 l1 l2 l4 l5 S h => zD_op (ins := .aload_n 3) (len := 1) (c := (41, [l0, l1, l2, some .null, l4, l5], (.null :: S), h)) (by decide +kernel) rfl rfl rfl rfl,
  fun l0 l1 l2 l3 l4 l5 a r h hx => zD_getf (i := 156) (ci := 7) (k := 0) (q := (135, 1)) (by decide +kernel) (by decide +kernel) hx,
  fun l0 l1 l3 l4 l5 x S h => zD_op (ins := .iload_n 2) (len := 1) (c := (45, [l0, l1, some (.int x), l3, l4, l5], (.int x :: S), h)) (by decide +kernel) rfl rfl rfl rfl,
  fun l0 l1 l2 l3 l4 l5 i a r h hx => zD_lald (by decide +kernel) hx,
  fun l0 l1 l2 l3 l4 l5 x r h => zD_st2 (k := 4) (ins := .lstore 4) (len := 2) (by decide +kernel) rfl rfl rfl (by decide +kernel) rfl rfl,
  fun l1 l2 l3 l4 l5 x S h => zD_op (ins := .aload_n 0) (len := 1) (c := (49, [some (.ref x), l1, l2, l3, l4, l5], (.ref x :: S), h)) (by decide +kernel) rfl rfl rfl rfl,
  fun l0 l1 l2 l3 l4 l5 a r h hx => zD_getf (i := 12) (ci := 8) (k := 0) (q := (248, 0)) (by decide +kernel) (by decide +kernel) hx,
  fun l0 l1 l2 l3 l5 x S h => zD_op (ins := .lload 4) (len := 2) (c := (54, [l0, l1, l2, l3, some (.long x), l5], (.long x :: S), h)) (by decide +kernel) rfl rfl rfl rfl,
  fun l0 l1 l2 l3 l4 l5 p0 a r h hcat hr hC => zD_callv (i := 160) (y := 91) (n := 1) (as := [.long p0]) (ci := 3) (by decide +kernel) (by decide +kernel) rfl (by decide +kernel) (Nat.le_of_ble_eq_true rfl) (by decide +kernel) hcat hr hC,
  fun l0 l1 l2 l3 l5 x S h => zD_op (ins := .lload 4) (len := 2) (c := (59, [l0, l1, l2, l3, some (.long x), l5], (.long x :: S), h)) (by decide +kernel) rfl rfl rfl rfl,
  fun l0 l1 l2 l3 l4 l5 p0 r h hcat hC => zD_calls (i := 118) (y := 10) (n := 1) (as := [.long p0]) (by decide +kernel) (by decide +kernel) rfl (by decide +kernel) (Nat.le_of_ble_eq_true rfl) hcat hC,
  fun l0 l1 l2 l3 l4 l5 v h => zD_ireti (by decide +kernel) rfl⟩
set_option maxRecDepth 100000 in
theorem I_X9_best : (∀ (a : Nat) (p0 : Int32) (p1 : Int32) (h : zH), zC 161 [.ref a, .int p0, .int p1] h = zD 161 0 [some (.ref a), some (.int p0), some (.int p1), none, none, none] [] h) :=
  fun a p0 p1 h => zC_def rfl
set_option maxRecDepth 100000 in
theorem E_X9_rank : (∀ (l0 : Option Value) (x : Int32) (S : List Value) (h : zH), zD 162 0 [l0, some (.int x)] S h = zD 162 1 [l0, some (.int x)] (.int x :: S) h) ∧
  (∀ (l0 l1 : Option Value) (p0 : Int32) (r : List Value) (h : zH) (hcat : zcat r ≤ 8) (hC : (zC 24 [.int p0] h).isSome = true), zD 162 1 [l0, l1] (.int p0 :: r) h = zD 162 4 [l0, l1] (zgv (zC 24 [.int p0] h) ++ r) (zgh h (zC 24 [.int p0] h))) ∧
  (∀ (l0 l1 : Option Value) (x : Int32) (r : List Value) (h : zH), zD 162 4 [l0, l1] (.int x :: r) h = if ¬ x = 0 then zD 162 10 [l0, l1] r h else zD 162 7 [l0, l1] r h) ∧
  (∀ (l0 l1 : Option Value) (S : List Value) (h : zH), zD 162 7 [l0, l1] S h = zD 162 9 [l0, l1] (.int (-102 : Int32) :: S) h) ∧
  (∀ (l0 l1 : Option Value) (v : Int32) (h : zH), zD 162 9 [l0, l1] [.int v] h = some (some (.int v), h)) ∧
  (∀ (l1 : Option Value) (x : Nat) (S : List Value) (h : zH), zD 162 10 [some (.ref x), l1] S h = zD 162 11 [some (.ref x), l1] (.ref x :: S) h) ∧
  (∀ (l0 : Option Value) (x : Int32) (S : List Value) (h : zH), zD 162 11 [l0, some (.int x)] S h = zD 162 12 [l0, some (.int x)] (.int x :: S) h) ∧
  (∀ (l0 l1 : Option Value) (S : List Value) (h : zH), zD 162 12 [l0, l1] S h = zD 162 14 [l0, l1] (.int (31 : Int32) :: S) h) ∧
  (∀ (l0 l1 : Option Value) (p0 : Int32) (p1 : Int32) (a : Nat) (r : List Value) (h : zH) (hcat : zcat r ≤ 8) (hr : zis (h.2.2 a) 8 = true) (hC : (zC 159 (.ref a :: [.int p0, .int p1]) h).isSome = true), zD 162 14 [l0, l1] (.int p1 :: .int p0 :: .ref a :: r) h = zD 162 17 [l0, l1] (zgv (zC 159 (.ref a :: [.int p0, .int p1]) h) ++ r) (zgh h (zC 159 (.ref a :: [.int p0, .int p1]) h))) ∧
  (∀ (l1 : Option Value) (x : Nat) (S : List Value) (h : zH), zD 162 17 [some (.ref x), l1] S h = zD 162 18 [some (.ref x), l1] (.ref x :: S) h) ∧
  (∀ (l0 l1 : Option Value) (a : Nat) (r : List Value) (h : zH) (hx : zfok (h.2.2 a) 8 1 = true), zD 162 18 [l0, l1] (.ref a :: r) h = zD 162 21 [l0, l1] (zfv (h.2.2 a) 1 :: r) h) ∧
  (∀ (l1 : Option Value) (x : Nat) (S : List Value) (h : zH), zD 162 21 [some (.ref x), l1] S h = zD 162 22 [some (.ref x), l1] (.ref x :: S) h) ∧
  (∀ (l0 l1 : Option Value) (a : Nat) (r : List Value) (h : zH) (hx : zfok (h.2.2 a) 8 0 = true), zD 162 22 [l0, l1] (.ref a :: r) h = zD 162 25 [l0, l1] (zfv (h.2.2 a) 0 :: r) h) ∧
  (∀ (l0 l1 : Option Value) (p0 : Nat) (a : Nat) (r : List Value) (h : zH) (hcat : zcat r ≤ 8) (hr : zis (h.2.2 a) 2 = true) (hC : (zC 129 (.ref a :: [.ref p0]) h).isSome = true), zD 162 25 [l0, l1] (.ref p0 :: .ref a :: r) h = zD 162 28 [l0, l1] (zgv (zC 129 (.ref a :: [.ref p0]) h) ++ r) (zgh h (zC 129 (.ref a :: [.ref p0]) h))) ∧
  (∀ (l0 l1 : Option Value) (p0 : Int64) (a : Nat) (r : List Value) (h : zH) (hcat : zcat r ≤ 8) (hr : zis (h.2.2 a) 7 = true) (hC : (zC 19 (.ref a :: [.long p0]) h).isSome = true), zD 162 28 [l0, l1] (.long p0 :: .ref a :: r) h = zD 162 31 [l0, l1] (zgv (zC 19 (.ref a :: [.long p0]) h) ++ r) (zgh h (zC 19 (.ref a :: [.long p0]) h))) ∧
  (∀ (l0 l1 : Option Value) (v : Int32) (h : zH), zD 162 31 [l0, l1] [.int v] h = some (some (.int v), h)) :=
  ⟨fun l0 x S h => zD_op (ins := .iload_n 1) (len := 1) (c := (1, [l0, some (.int x)], (.int x :: S), h)) (by decide +kernel) rfl rfl rfl rfl,
  fun l0 l1 p0 r h hcat hC => zD_calls (i := 143) (y := 24) (n := 1) (as := [.int p0]) (by decide +kernel) (by decide +kernel) rfl (by decide +kernel) (Nat.le_of_ble_eq_true rfl) hcat hC,
  fun l0 l1 x r h => zD_if0 (cnd := .ne) (off := 6) (by decide +kernel) (by decide) rfl,
  fun l0 l1 S h => zD_bip (n := (-102)) (by decide +kernel) (by decide +kernel),
  fun l0 l1 v h => zD_ireti (by decide +kernel) rfl,
  fun l1 x S h => zD_op (ins := .aload_n 0) (len := 1) (c := (11, [some (.ref x), l1], (.ref x :: S), h)) (by decide +kernel) rfl rfl rfl rfl,
  fun l0 x S h => zD_op (ins := .iload_n 1) (len := 1) (c := (12, [l0, some (.int x)], (.int x :: S), h)) (by decide +kernel) rfl rfl rfl rfl,
  fun l0 l1 S h => zD_bip (n := 31) (by decide +kernel) (by decide +kernel),
  fun l0 l1 p0 p1 a r h hcat hr hC => zD_callv (i := 147) (y := 159) (n := 2) (as := [.int p0, .int p1]) (ci := 8) (by decide +kernel) (by decide +kernel) rfl (by decide +kernel) (Nat.le_of_ble_eq_true rfl) (by decide +kernel) hcat hr hC,
  fun l1 x S h => zD_op (ins := .aload_n 0) (len := 1) (c := (18, [some (.ref x), l1], (.ref x :: S), h)) (by decide +kernel) rfl rfl rfl rfl,
  fun l0 l1 a r h hx => zD_getf (i := 19) (ci := 8) (k := 1) (q := (249, 0)) (by decide +kernel) (by decide +kernel) hx,
  fun l1 x S h => zD_op (ins := .aload_n 0) (len := 1) (c := (22, [some (.ref x), l1], (.ref x :: S), h)) (by decide +kernel) rfl rfl rfl rfl,
  fun l0 l1 a r h hx => zD_getf (i := 12) (ci := 8) (k := 0) (q := (248, 0)) (by decide +kernel) (by decide +kernel) hx,
  fun l0 l1 p0 a r h hcat hr hC => zD_callv (i := 114) (y := 129) (n := 1) (as := [.ref p0]) (ci := 2) (by decide +kernel) (by decide +kernel) rfl (by decide +kernel) (Nat.le_of_ble_eq_true rfl) (by decide +kernel) hcat hr hC,
  fun l0 l1 p0 a r h hcat hr hC => zD_callv (i := 172) (y := 19) (n := 1) (as := [.long p0]) (ci := 7) (by decide +kernel) (by decide +kernel) rfl (by decide +kernel) (Nat.le_of_ble_eq_true rfl) (by decide +kernel) hcat hr hC,
  fun l0 l1 v h => zD_ireti (by decide +kernel) rfl⟩
set_option maxRecDepth 100000 in
theorem I_X9_rank : (∀ (a : Nat) (p0 : Int32) (h : zH), zC 162 [.ref a, .int p0] h = zD 162 0 [some (.ref a), some (.int p0)] [] h) :=
  fun a p0 h => zC_def rfl
set_option maxRecDepth 100000 in
theorem E_X9_answers : (∀ (l1 : Option Value) (x : Nat) (S : List Value) (h : zH), zD 163 0 [some (.ref x), l1] S h = zD 163 1 [some (.ref x), l1] (.ref x :: S) h) ∧
  (∀ (l0 : Option Value) (x : Int32) (S : List Value) (h : zH), zD 163 1 [l0, some (.int x)] S h = zD 163 2 [l0, some (.int x)] (.int x :: S) h) ∧
  (∀ (l0 l1 : Option Value) (S : List Value) (h : zH), zD 163 2 [l0, l1] S h = zD 163 3 [l0, l1] (.int (-1 : Int32) :: S) h) ∧
  (∀ (l0 l1 : Option Value) (p0 : Int32) (p1 : Int32) (a : Nat) (r : List Value) (h : zH) (hcat : zcat r ≤ 8) (hr : zis (h.2.2 a) 8 = true) (hC : (zC 160 (.ref a :: [.int p0, .int p1]) h).isSome = true), zD 163 3 [l0, l1] (.int p1 :: .int p0 :: .ref a :: r) h = zD 163 6 [l0, l1] (zgv (zC 160 (.ref a :: [.int p0, .int p1]) h) ++ r) (zgh h (zC 160 (.ref a :: [.int p0, .int p1]) h))) ∧
  (∀ (l0 l1 : Option Value) (v : Int32) (h : zH), zD 163 6 [l0, l1] [.int v] h = some (some (.int v), h)) :=
  ⟨fun l1 x S h => zD_op (ins := .aload_n 0) (len := 1) (c := (1, [some (.ref x), l1], (.ref x :: S), h)) (by decide +kernel) rfl rfl rfl rfl,
  fun l0 x S h => zD_op (ins := .iload_n 1) (len := 1) (c := (2, [l0, some (.int x)], (.int x :: S), h)) (by decide +kernel) rfl rfl rfl rfl,
  fun l0 l1 S h => zD_icst (n := (-1)) (by decide +kernel) (by decide +kernel),
  fun l0 l1 p0 p1 a r h hcat hr hC => zD_callv (i := 216) (y := 160) (n := 2) (as := [.int p0, .int p1]) (ci := 8) (by decide +kernel) (by decide +kernel) rfl (by decide +kernel) (Nat.le_of_ble_eq_true rfl) (by decide +kernel) hcat hr hC,
  fun l0 l1 v h => zD_ireti (by decide +kernel) rfl⟩
set_option maxRecDepth 100000 in
theorem I_X9_answers : (∀ (a : Nat) (p0 : Int32) (h : zH), zC 163 [.ref a, .int p0] h = zD 163 0 [some (.ref a), some (.int p0)] [] h) :=
  fun a p0 h => zC_def rfl
set_option maxRecDepth 100000 in
theorem E_X9_answer : (∀ (l1 l2 l3 : Option Value) (x : Nat) (S : List Value) (h : zH), zD 164 0 [some (.ref x), l1, l2, l3] S h = zD 164 1 [some (.ref x), l1, l2, l3] (.ref x :: S) h) ∧
  (∀ (l0 l2 l3 : Option Value) (x : Int32) (S : List Value) (h : zH), zD 164 1 [l0, some (.int x), l2, l3] S h = zD 164 2 [l0, some (.int x), l2, l3] (.int x :: S) h) ∧
  (∀ (l0 l1 l3 : Option Value) (x : Int32) (S : List Value) (h : zH), zD 164 2 [l0, l1, some (.int x), l3] S h = zD 164 3 [l0, l1, some (.int x), l3] (.int x :: S) h) ∧
  (∀ (l0 l1 l2 l3 : Option Value) (p0 : Int32) (p1 : Int32) (a : Nat) (r : List Value) (h : zH) (hcat : zcat r ≤ 8) (hr : zis (h.2.2 a) 8 = true) (hC : (zC 160 (.ref a :: [.int p0, .int p1]) h).isSome = true), zD 164 3 [l0, l1, l2, l3] (.int p1 :: .int p0 :: .ref a :: r) h = zD 164 6 [l0, l1, l2, l3] (zgv (zC 160 (.ref a :: [.int p0, .int p1]) h) ++ r) (zgh h (zC 160 (.ref a :: [.int p0, .int p1]) h))) ∧
  (∀ (l0 l1 l2 l3 : Option Value) (x : Int32) (r : List Value) (h : zH), zD 164 6 [l0, l1, l2, l3] (.int x :: r) h = zD 164 7 [l0, l1, zclr l2, some (.int x)] r h) ∧
  (∀ (l0 l1 l2 : Option Value) (x : Int32) (S : List Value) (h : zH), zD 164 7 [l0, l1, l2, some (.int x)] S h = zD 164 8 [l0, l1, l2, some (.int x)] (.int x :: S) h) ∧
  (∀ (l0 l1 l2 l3 : Option Value) (x : Int32) (r : List Value) (h : zH), zD 164 8 [l0, l1, l2, l3] (.int x :: r) h = if 0 ≤ x then zD 164 15 [l0, l1, l2, l3] r h else zD 164 11 [l0, l1, l2, l3] r h) ∧
  (∀ (l0 l1 l2 : Option Value) (x : Int32) (S : List Value) (h : zH), zD 164 11 [l0, l1, l2, some (.int x)] S h = zD 164 12 [l0, l1, l2, some (.int x)] (.int x :: S) h) ∧
  (∀ (l0 l1 l2 l3 : Option Value) (S : List Value) (h : zH), zD 164 12 [l0, l1, l2, l3] S h = zD 164 22 [l0, l1, l2, l3] S h) ∧
  (∀ (l1 l2 l3 : Option Value) (x : Nat) (S : List Value) (h : zH), zD 164 15 [some (.ref x), l1, l2, l3] S h = zD 164 16 [some (.ref x), l1, l2, l3] (.ref x :: S) h) ∧
  (∀ (l0 l1 l2 l3 : Option Value) (a : Nat) (r : List Value) (h : zH) (hx : zfok (h.2.2 a) 8 6 = true), zD 164 16 [l0, l1, l2, l3] (.ref a :: r) h = zD 164 19 [l0, l1, l2, l3] (zfv (h.2.2 a) 6 :: r) h) ∧
  (∀ (l0 l1 l2 l3 : Option Value) (a : Nat) (r : List Value) (h : zH) (hx : zfok (h.2.2 a) 4 9 = true), zD 164 19 [l0, l1, l2, l3] (.ref a :: r) h = zD 164 22 [l0, l1, l2, l3] (zfv (h.2.2 a) 9 :: r) h) ∧
  (∀ (l0 l1 l2 l3 : Option Value) (v : Int32) (h : zH), zD 164 22 [l0, l1, l2, l3] [.int v] h = some (some (.int v), h)) :=
  ⟨fun l1 l2 l3 x S h => zD_op (ins := .aload_n 0) (len := 1) (c := (1, [some (.ref x), l1, l2, l3], (.ref x :: S), h)) (by decide +kernel) rfl rfl rfl rfl,
  fun l0 l2 l3 x S h => zD_op (ins := .iload_n 1) (len := 1) (c := (2, [l0, some (.int x), l2, l3], (.int x :: S), h)) (by decide +kernel) rfl rfl rfl rfl,
  fun l0 l1 l3 x S h => zD_op (ins := .iload_n 2) (len := 1) (c := (3, [l0, l1, some (.int x), l3], (.int x :: S), h)) (by decide +kernel) rfl rfl rfl rfl,
  fun l0 l1 l2 l3 p0 p1 a r h hcat hr hC => zD_callv (i := 216) (y := 160) (n := 2) (as := [.int p0, .int p1]) (ci := 8) (by decide +kernel) (by decide +kernel) rfl (by decide +kernel) (Nat.le_of_ble_eq_true rfl) (by decide +kernel) hcat hr hC,
  fun l0 l1 l2 l3 x r h => zD_st1 (k := 3) (ins := .istore_n 3) (len := 1) (by decide +kernel) rfl rfl rfl (by decide +kernel) rfl rfl,
  fun l0 l1 l2 x S h => zD_op (ins := .iload_n 3) (len := 1) (c := (8, [l0, l1, l2, some (.int x)], (.int x :: S), h)) (by decide +kernel) rfl rfl rfl rfl,
  fun l0 l1 l2 l3 x r h => zD_if0 (cnd := .ge) (off := 7) (by decide +kernel) (by decide) rfl,
  fun l0 l1 l2 x S h => zD_op (ins := .iload_n 3) (len := 1) (c := (12, [l0, l1, l2, some (.int x)], (.int x :: S), h)) (by decide +kernel) rfl rfl rfl rfl,
  fun l0 l1 l2 l3 S h => zD_goto (off := 10) (by decide +kernel) (by decide),
  fun l1 l2 l3 x S h => zD_op (ins := .aload_n 0) (len := 1) (c := (16, [some (.ref x), l1, l2, l3], (.ref x :: S), h)) (by decide +kernel) rfl rfl rfl rfl,
  fun l0 l1 l2 l3 a r h hx => zD_getf (i := 62) (ci := 8) (k := 6) (q := (254, 0)) (by decide +kernel) (by decide +kernel) hx,
  fun l0 l1 l2 l3 a r h hx => zD_getf (i := 219) (ci := 4) (k := 9) (q := (226, 1)) (by decide +kernel) (by decide +kernel) hx,
  fun l0 l1 l2 l3 v h => zD_ireti (by decide +kernel) rfl⟩
set_option maxRecDepth 100000 in
theorem I_X9_answer : (∀ (a : Nat) (p0 : Int32) (p1 : Int32) (h : zH), zC 164 [.ref a, .int p0, .int p1] h = zD 164 0 [some (.ref a), some (.int p0), some (.int p1), none] [] h) :=
  fun a p0 p1 h => zC_def rfl
