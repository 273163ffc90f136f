set_option maxRecDepth 100000 in
theorem E_X0_fillRow : (∀ (l0 l1 l2 l3 l4 l5 l6 : Option Value) (S : List Value) (h : zH), zD 87 0 [l0, l1, l2, l3, l4, l5, l6] S h = zD 87 1 [l0, l1, l2, l3, l4, l5, l6] (.int (0 : Int32) :: S) h) ∧
  (∀ (l0 l1 l2 l3 l4 l5 l6 : Option Value) (x : Int32) (r : List Value) (h : zH), zD 87 1 [l0, l1, l2, l3, l4, l5, l6] (.int x :: r) h = zD 87 3 [l0, l1, l2, zclr l3, some (.int x), l5, l6] r h) ∧
  (∀ (l0 l1 l2 l3 l4 l5 l6 : Option Value) (S : List Value) (h : zH), zD 87 3 [l0, l1, l2, l3, l4, l5, l6] S h = zD 87 4 [l0, l1, l2, l3, l4, l5, l6] (.int (0 : Int32) :: S) h) ∧
  (∀ (l0 l1 l2 l3 l4 l5 l6 : Option Value) (x : Int32) (r : List Value) (h : zH), zD 87 4 [l0, l1, l2, l3, l4, l5, l6] (.int x :: r) h = zD 87 6 [l0, l1, l2, l3, zclr l4, some (.int x), l6] r h) ∧
  (∀ (l0 l1 l3 l4 l5 l6 : Option Value) (x : Int32) (S : List Value) (h : zH), zD 87 8 [l0, l1, some (.int x), l3, l4, l5, l6] S h = zD 87 9 [l0, l1, some (.int x), l3, l4, l5, l6] (.int x :: S) h) ∧
  (∀ (l0 l1 l2 l3 l4 l5 l6 : Option Value) (x y : Int32) (r : List Value) (h : zH), zD 87 9 [l0, l1, l2, l3, l4, l5, l6] (.int y :: .int x :: r) h = if y < x then zD 87 79 [l0, l1, l2, l3, l4, l5, l6] r h else zD 87 12 [l0, l1, l2, l3, l4, l5, l6] r h) ∧
  (∀ (l0 l1 l2 l3 l4 l6 : Option Value) (x : Int32) (S : List Value) (h : zH), zD 87 12 [l0, l1, l2, l3, l4, some (.int x), l6] S h = zD 87 14 [l0, l1, l2, l3, l4, some (.int x), l6] (.int x :: S) h) ∧
  (∀ (l0 l1 l2 l4 l5 l6 : Option Value) (x : Int32) (S : List Value) (h : zH), zD 87 14 [l0, l1, l2, some (.int x), l4, l5, l6] S h = zD 87 15 [l0, l1, l2, some (.int x), l4, l5, l6] (.int x :: S) h) ∧
  (∀ (l0 l1 l2 l3 l4 l5 l6 : Option Value) (x y : Int32) (r : List Value) (h : zH), zD 87 15 [l0, l1, l2, l3, l4, l5, l6] (.int y :: .int x :: r) h = if x = y then zD 87 32 [l0, l1, l2, l3, l4, l5, l6] r h else zD 87 18 [l0, l1, l2, l3, l4, l5, l6] r h) ∧
  (∀ (l0 l2 l3 l4 l5 l6 : Option Value) (x : Nat) (S : List Value) (h : zH), zD 87 18 [l0, some (.ref x), l2, l3, l4, l5, l6] S h = zD 87 19 [l0, some (.ref x), l2, l3, l4, l5, l6] (.ref x :: S) h) ∧
  (∀ (l0 l2 l3 l4 l5 l6 : Option Value) (S : List Value) (h : zH), zD 87 18 [l0, some .null, l2, l3, l4, l5, l6] S h = zD 87 19 [l0, some .null, l2, l3, l4, l5, l6] (.null :: S) h) ∧
  (∀ (l0 l1 l2 l3 l4 l6 : Option Value) (x : Int32) (S : List Value) (h : zH), zD 87 19 [l0, l1, l2, l3, l4, some (.int x), l6] S h = zD 87 21 [l0, l1, l2, l3, l4, some (.int x), l6] (.int x :: S) h) ∧
  (∀ (l0 l1 l2 l4 l5 l6 : Option Value) (x : Int32) (S : List Value) (h : zH), zD 87 21 [l0, l1, l2, some (.int x), l4, l5, l6] S h = zD 87 22 [l0, l1, l2, some (.int x), l4, l5, l6] (.int x :: S) h) ∧
  (∀ (l0 l1 l2 l3 l4 l5 l6 : Option Value) (p0 : Int32) (p1 : Int32) (a : Nat) (r : List Value) (h : zH) (hcat : zcat r ≤ 8) (hr : zis (h.2.2 a) 2 = true) (hC : (zC 48 (.ref a :: [.int p0, .int p1]) h).isSome = true), zD 87 22 [l0, l1, l2, l3, l4, l5, l6] (.int p1 :: .int p0 :: .ref a :: r) h = zD 87 25 [l0, l1, l2, l3, l4, l5, l6] (zgv (zC 48 (.ref a :: [.int p0, .int p1]) h) ++ r) (zgh h (zC 48 (.ref a :: [.int p0, .int p1]) h))) ∧
  (∀ (l0 l1 l2 l3 l4 l5 l6 : Option Value) (x : Int32) (r : List Value) (h : zH), zD 87 25 [l0, l1, l2, l3, l4, l5, l6] (.int x :: r) h = if x = 0 then zD 87 32 [l0, l1, l2, l3, l4, l5, l6] r h else zD 87 28 [l0, l1, l2, l3, l4, l5, l6] r h) ∧
  (∀ (l0 l1 l2 l3 l4 l5 l6 : Option Value) (S : List Value) (h : zH), zD 87 28 [l0, l1, l2, l3, l4, l5, l6] S h = zD 87 29 [l0, l1, l2, l3, l4, l5, l6] (.int (1 : Int32) :: S) h) ∧
  (∀ (l0 l1 l2 l3 l4 l5 l6 : Option Value) (S : List Value) (h : zH), zD 87 29 [l0, l1, l2, l3, l4, l5, l6] S h = zD 87 33 [l0, l1, l2, l3, l4, l5, l6] S h) ∧
  (∀ (l0 l1 l2 l3 l4 l5 l6 : Option Value) (S : List Value) (h : zH), zD 87 32 [l0, l1, l2, l3, l4, l5, l6] S h = zD 87 33 [l0, l1, l2, l3, l4, l5, l6] (.int (0 : Int32) :: S) h) ∧
  (∀ (l0 l1 l2 l3 l4 l5 l6 : Option Value) (x : Int32) (r : List Value) (h : zH), zD 87 33 [l0, l1, l2, l3, l4, l5, l6] (.int x :: r) h = zD 87 35 [l0, l1, l2, l3, l4, zclr l5, some (.int x)] r h) ∧
  (∀ (l1 l2 l3 l4 l5 l6 : Option Value) (x : Nat) (S : List Value) (h : zH), zD 87 35 [some (.ref x), l1, l2, l3, l4, l5, l6] S h = zD 87 36 [some (.ref x), l1, l2, l3, l4, l5, l6] (.ref x :: S) h) ∧
  (∀ (l0 l1 l2 l3 l4 l5 l6 : Option Value) (a : Nat) (r : List Value) (h : zH) (hx : zfok (h.2.2 a) 0 1 = true), zD 87 36 [l0, l1, l2, l3, l4, l5, l6] (.ref a :: r) h = zD 87 39 [l0, l1, l2, l3, l4, l5, l6] (zfv (h.2.2 a) 1 :: r) h) ∧
  (∀ (l0 l1 l2 l4 l5 l6 : Option Value) (x : Int32) (S : List Value) (h : zH), zD 87 39 [l0, l1, l2, some (.int x), l4, l5, l6] S h = zD 87 40 [l0, l1, l2, some (.int x), l4, l5, l6] (.int x :: S) h) ∧
  (∀ (l0 l1 l2 l3 l4 l6 : Option Value) (x : Int32) (S : List Value) (h : zH), zD 87 40 [l0, l1, l2, l3, l4, some (.int x), l6] S h = zD 87 42 [l0, l1, l2, l3, l4, some (.int x), l6] (.int x :: S) h) ∧
  (∀ (l0 l1 l2 l3 l4 l5 l6 : Option Value) (p0 : Int32) (p1 : Int32) (r : List Value) (h : zH) (hcat : zcat r ≤ 8) (hC : (zC 0 [.int p0, .int p1] h).isSome = true), zD 87 42 [l0, l1, l2, l3, l4, l5, l6] (.int p1 :: .int p0 :: r) h = zD 87 45 [l0, l1, l2, l3, l4, l5, l6] (zgv (zC 0 [.int p0, .int p1] h) ++ r) (zgh h (zC 0 [.int p0, .int p1] h))) ∧
  (∀ (l0 l1 l2 l3 l4 l5 : Option Value) (x : Int32) (S : List Value) (h : zH), zD 87 45 [l0, l1, l2, l3, l4, l5, some (.int x)] S h = zD 87 47 [l0, l1, l2, l3, l4, l5, some (.int x)] (.int x :: S) h) ∧
  (∀ (l0 l1 l2 l3 l4 l5 l6 : Option Value) (x : Int32) (r : List Value) (h : zH), zD 87 47 [l0, l1, l2, l3, l4, l5, l6] (.int x :: r) h = if x = 0 then zD 87 56 [l0, l1, l2, l3, l4, l5, l6] r h else zD 87 50 [l0, l1, l2, l3, l4, l5, l6] r h) ∧
  (∀ (l0 l1 l2 l3 l4 l5 l6 : Option Value) (S : List Value) (h : zH), zD 87 50 [l0, l1, l2, l3, l4, l5, l6] S h = zD 87 53 [l0, l1, l2, l3, l4, l5, l6] (.long (-1 : Int64) :: S) h) ∧
  (∀ (l0 l1 l2 l3 l4 l5 l6 : Option Value) (S : List Value) (h : zH), zD 87 53 [l0, l1, l2, l3, l4, l5, l6] S h = zD 87 57 [l0, l1, l2, l3, l4, l5, l6] S h) ∧
  (∀ (l0 l1 l2 l3 l4 l5 l6 : Option Value) (S : List Value) (h : zH), zD 87 56 [l0, l1, l2, l3, l4, l5, l6] S h = zD 87 57 [l0, l1, l2, l3, l4, l5, l6] (.long (0 : Int64) :: S) h) ∧
  (∀ (l0 l1 l2 l3 l4 l5 l6 : Option Value) (w : Int64) (i : Int32) (a : Nat) (r : List Value) (h : zH) (hx : zlok (h.2.2 a) i = true), zD 87 57 [l0, l1, l2, l3, l4, l5, l6] (.long w :: .int i :: .ref a :: r) h = zD 87 58 [l0, l1, l2, l3, l4, l5, l6] r (zw h a (zls' (h.2.2 a) i w))) ∧
  (∀ (l0 l1 l2 l3 l5 l6 : Option Value) (x : Int32) (S : List Value) (h : zH), zD 87 58 [l0, l1, l2, l3, some (.int x), l5, l6] S h = zD 87 60 [l0, l1, l2, l3, some (.int x), l5, l6] (.int x :: S) h) ∧
  (∀ (l0 l1 l2 l3 l4 l5 : Option Value) (x : Int32) (S : List Value) (h : zH), zD 87 60 [l0, l1, l2, l3, l4, l5, some (.int x)] S h = zD 87 62 [l0, l1, l2, l3, l4, l5, some (.int x)] (.int x :: S) h) ∧
  (∀ (l0 l1 l2 l3 l4 l5 l6 : Option Value) (x : Int32) (r : List Value) (h : zH), zD 87 62 [l0, l1, l2, l3, l4, l5, l6] (.int x :: r) h = if x = 0 then zD 87 69 [l0, l1, l2, l3, l4, l5, l6] r h else zD 87 65 [l0, l1, l2, l3, l4, l5, l6] r h) ∧
  (∀ (l0 l1 l2 l3 l4 l5 l6 : Option Value) (S : List Value) (h : zH), zD 87 65 [l0, l1, l2, l3, l4, l5, l6] S h = zD 87 66 [l0, l1, l2, l3, l4, l5, l6] (.int (1 : Int32) :: S) h) ∧
  (∀ (l0 l1 l2 l3 l4 l5 l6 : Option Value) (S : List Value) (h : zH), zD 87 66 [l0, l1, l2, l3, l4, l5, l6] S h = zD 87 70 [l0, l1, l2, l3, l4, l5, l6] S h) ∧
  (∀ (l0 l1 l2 l3 l4 l5 l6 : Option Value) (S : List Value) (h : zH), zD 87 69 [l0, l1, l2, l3, l4, l5, l6] S h = zD 87 70 [l0, l1, l2, l3, l4, l5, l6] (.int (0 : Int32) :: S) h) ∧
  (∀ (l0 l1 l2 l3 l4 l5 l6 : Option Value) (x y : Int32) (r : List Value) (h : zH), zD 87 70 [l0, l1, l2, l3, l4, l5, l6] (.int y :: .int x :: r) h = zD 87 71 [l0, l1, l2, l3, l4, l5, l6] (.int (x + y) :: r) h) ∧
  (∀ (l0 l1 l2 l3 l4 l5 l6 : Option Value) (x : Int32) (r : List Value) (h : zH), zD 87 71 [l0, l1, l2, l3, l4, l5, l6] (.int x :: r) h = zD 87 73 [l0, l1, l2, zclr l3, some (.int x), l5, l6] r h) ∧
  (∀ (l0 l1 l2 l3 l4 l6 : Option Value) (x : Int32) (S : List Value) (h : zH), zD 87 73 [l0, l1, l2, l3, l4, some (.int x), l6] S h = zD 87 76 [l0, l1, l2, l3, zclr l4, some (.int (x + (1 : Int32))), l6] S h) ∧
  (∀ (l0 l1 l2 l3 l4 l5 l6 : Option Value) (S : List Value) (h : zH), zD 87 76 [l0, l1, l2, l3, l4, l5, l6] S h = zD 87 6 [l0, l1, l2, l3, l4, l5, l6] S h) ∧
  (∀ (l1 l2 l3 l4 l5 l6 : Option Value) (x : Nat) (S : List Value) (h : zH), zD 87 79 [some (.ref x), l1, l2, l3, l4, l5, l6] S h = zD 87 80 [some (.ref x), l1, l2, l3, l4, l5, l6] (.ref x :: S) h) ∧
  (∀ (l0 l1 l2 l3 l4 l5 l6 : Option Value) (a : Nat) (r : List Value) (h : zH) (hx : zfok (h.2.2 a) 0 1 = true), zD 87 80 [l0, l1, l2, l3, l4, l5, l6] (.ref a :: r) h = zD 87 83 [l0, l1, l2, l3, l4, l5, l6] (zfv (h.2.2 a) 1 :: r) h) ∧
  (∀ (l0 l1 l2 l4 l5 l6 : Option Value) (x : Int32) (S : List Value) (h : zH), zD 87 83 [l0, l1, l2, some (.int x), l4, l5, l6] S h = zD 87 84 [l0, l1, l2, some (.int x), l4, l5, l6] (.int x :: S) h) ∧
  (∀ (l0 l1 l2 l4 l5 l6 : Option Value) (x : Int32) (S : List Value) (h : zH), zD 87 84 [l0, l1, l2, some (.int x), l4, l5, l6] S h = zD 87 85 [l0, l1, l2, some (.int x), l4, l5, l6] (.int x :: S) h) ∧
  (∀ (l0 l1 l2 l3 l4 l5 l6 : Option Value) (p0 : Int32) (p1 : Int32) (r : List Value) (h : zH) (hcat : zcat r ≤ 8) (hC : (zC 0 [.int p0, .int p1] h).isSome = true), zD 87 85 [l0, l1, l2, l3, l4, l5, l6] (.int p1 :: .int p0 :: r) h = zD 87 88 [l0, l1, l2, l3, l4, l5, l6] (zgv (zC 0 [.int p0, .int p1] h) ++ r) (zgh h (zC 0 [.int p0, .int p1] h))) ∧
  (∀ (l0 l1 l2 l3 l5 l6 : Option Value) (x : Int32) (S : List Value) (h : zH), zD 87 88 [l0, l1, l2, l3, some (.int x), l5, l6] S h = zD 87 90 [l0, l1, l2, l3, some (.int x), l5, l6] (.int x :: S) h) ∧
  (∀ (l0 l1 l2 l3 l4 l5 l6 : Option Value) (x : Int32) (r : List Value) (h : zH), zD 87 90 [l0, l1, l2, l3, l4, l5, l6] (.int x :: r) h = zD 87 91 [l0, l1, l2, l3, l4, l5, l6] (.long x.toInt64 :: r) h) ∧
  (∀ (l0 l1 l2 l3 l4 l5 l6 : Option Value) (w : Int64) (i : Int32) (a : Nat) (r : List Value) (h : zH) (hx : zlok (h.2.2 a) i = true), zD 87 91 [l0, l1, l2, l3, l4, l5, l6] (.long w :: .int i :: .ref a :: r) h = zD 87 92 [l0, l1, l2, l3, l4, l5, l6] r (zw h a (zls' (h.2.2 a) i w))) ∧
  (∀ (l0 l1 l2 l3 l4 l5 l6 : Option Value) (h : zH), zD 87 92 [l0, l1, l2, l3, l4, l5, l6] [] h = some (none, h)) :=
  ⟨fun l0 l1 l2 l3 l4 l5 l6 S h => zD_icst (n := 0) (by decide +kernel) (by decide +kernel),
  fun l0 l1 l2 l3 l4 l5 l6 x r h => zD_st1 (k := 4) (ins := .istore 4) (len := 2) (by decide +kernel) rfl rfl rfl (by decide +kernel) rfl rfl,
  fun l0 l1 l2 l3 l4 l5 l6 S h => zD_icst (n := 0) (by decide +kernel) (by decide +kernel),
  fun l0 l1 l2 l3 l4 l5 l6 x r h => zD_st1 (k := 5) (ins := .istore 5) (len := 2) (by decide +kernel) rfl rfl rfl (by decide +kernel) rfl rfl,
  fun l0 l1 l3 l4 l5 l6 x S h => zD_op (ins := .iload_n 2) (len := 1) (c := (9, [l0, l1, some (.int x), l3, l4, l5, l6], (.int x :: S), h)) (by decide +kernel) rfl rfl rfl rfl,
  fun l0 l1 l2 l3 l4 l5 l6 x y r h => zD_if (cnd := .gt) (off := 70) (by decide +kernel) (by decide) rfl,
  fun l0 l1 l2 l3 l4 l6 x S h => zD_op (ins := .iload 5) (len := 2) (c := (14, [l0, l1, l2, l3, l4, some (.int x), l6], (.int x :: S), h)) (by decide +kernel) rfl rfl rfl rfl,
  fun l0 l1 l2 l4 l5 l6 x S h => zD_op (ins := .iload_n 3) (len := 1) (c := (15, [l0, l1, l2, some (.int x), l4, l5, l6], (.int x :: S), h)) (by decide +kernel) rfl rfl rfl rfl,
  fun l0 l1 l2 l3 l4 l5 l6 x y r h => zD_if (cnd := .eq) (off := 17) (by decide +kernel) (by decide) rfl,
  fun l0 l2 l3 l4 l5 l6 x S h => zD_op (ins := .aload_n 1) (len := 1) (c := (19, [l0, some (.ref x), l2, l3, l4, l5, l6], (.ref x :: S), h)) (by decide +kernel) rfl rfl rfl rfl,
  fun l0 l2 l3 l4 l5 l6 S h => zD_op (ins := .aload_n 1) (len := 1) (c := (19, [l0, some .null, l2, l3, l4, l5, l6], (.null :: S), h)) (by decide +kernel) rfl rfl rfl rfl,
  fun l0 l1 l2 l3 l4 l6 x S h => zD_op (ins := .iload 5) (len := 2) (c := (21, [l0, l1, l2, l3, l4, some (.int x), l6], (.int x :: S), h)) (by decide +kernel) rfl rfl rfl rfl,
  fun l0 l1 l2 l4 l5 l6 x S h => zD_op (ins := .iload_n 3) (len := 1) (c := (22, [l0, l1, l2, some (.int x), l4, l5, l6], (.int x :: S), h)) (by decide +kernel) rfl rfl rfl rfl,
  fun l0 l1 l2 l3 l4 l5 l6 p0 p1 a r h hcat hr hC => zD_callv (i := 32) (y := 48) (n := 2) (as := [.int p0, .int p1]) (ci := 2) (by decide +kernel) (by decide +kernel) rfl (by decide +kernel) (Nat.le_of_ble_eq_true rfl) (by decide +kernel) hcat hr hC,
  fun l0 l1 l2 l3 l4 l5 l6 x r h => zD_if0 (cnd := .eq) (off := 7) (by decide +kernel) (by decide) rfl,
  fun l0 l1 l2 l3 l4 l5 l6 S h => zD_icst (n := 1) (by decide +kernel) (by decide +kernel),
  fun l0 l1 l2 l3 l4 l5 l6 S h => zD_goto (off := 4) (by decide +kernel) (by decide),
  fun l0 l1 l2 l3 l4 l5 l6 S h => zD_icst (n := 0) (by decide +kernel) (by decide +kernel),
  fun l0 l1 l2 l3 l4 l5 l6 x r h => zD_st1 (k := 6) (ins := .istore 6) (len := 2) (by decide +kernel) rfl rfl rfl (by decide +kernel) rfl rfl,
  fun l1 l2 l3 l4 l5 l6 x S h => zD_op (ins := .aload_n 0) (len := 1) (c := (36, [some (.ref x), l1, l2, l3, l4, l5, l6], (.ref x :: S), h)) (by decide +kernel) rfl rfl rfl rfl,
  fun l0 l1 l2 l3 l4 l5 l6 a r h hx => zD_getf (i := 15) (ci := 0) (k := 1) (q := (154, 0)) (by decide +kernel) (by decide +kernel) hx,
  fun l0 l1 l2 l4 l5 l6 x S h => zD_op (ins := .iload_n 3) (len := 1) (c := (40, [l0, l1, l2, some (.int x), l4, l5, l6], (.int x :: S), h)) (by decide +kernel) rfl rfl rfl rfl,
  fun l0 l1 l2 l3 l4 l6 x S h => zD_op (ins := .iload 5) (len := 2) (c := (42, [l0, l1, l2, l3, l4, some (.int x), l6], (.int x :: S), h)) (by decide +kernel) rfl rfl rfl rfl,
  fun l0 l1 l2 l3 l4 l5 l6 p0 p1 r h hcat hC => zD_calls (i := 49) (y := 0) (n := 2) (as := [.int p0, .int p1]) (by decide +kernel) (by decide +kernel) rfl (by decide +kernel) (Nat.le_of_ble_eq_true rfl) hcat hC,
  fun l0 l1 l2 l3 l4 l5 x S h => zD_op (ins := .iload 6) (len := 2) (c := (47, [l0, l1, l2, l3, l4, l5, some (.int x)], (.int x :: S), h)) (by decide +kernel) rfl rfl rfl rfl,
  fun l0 l1 l2 l3 l4 l5 l6 x r h => zD_if0 (cnd := .eq) (off := 9) (by decide +kernel) (by decide) rfl,
  fun l0 l1 l2 l3 l4 l5 l6 S h => zD_ldc2 (i := 57) (q := 524) (by decide +kernel) (by decide +kernel),
  fun l0 l1 l2 l3 l4 l5 l6 S h => zD_goto (off := 4) (by decide +kernel) (by decide),
  fun l0 l1 l2 l3 l4 l5 l6 S h => zD_op (ins := .lconst 0) (len := 1) (c := (57, [l0, l1, l2, l3, l4, l5, l6], (.long (0 : Int64) :: S), h)) (by decide +kernel) rfl rfl rfl rfl,
  fun l0 l1 l2 l3 l4 l5 l6 w i a r h hx => zD_last (by decide +kernel) hx,
  fun l0 l1 l2 l3 l5 l6 x S h => zD_op (ins := .iload 4) (len := 2) (c := (60, [l0, l1, l2, l3, some (.int x), l5, l6], (.int x :: S), h)) (by decide +kernel) rfl rfl rfl rfl,
  fun l0 l1 l2 l3 l4 l5 x S h => zD_op (ins := .iload 6) (len := 2) (c := (62, [l0, l1, l2, l3, l4, l5, some (.int x)], (.int x :: S), h)) (by decide +kernel) rfl rfl rfl rfl,
  fun l0 l1 l2 l3 l4 l5 l6 x r h => zD_if0 (cnd := .eq) (off := 7) (by decide +kernel) (by decide) rfl,
  fun l0 l1 l2 l3 l4 l5 l6 S h => zD_icst (n := 1) (by decide +kernel) (by decide +kernel),
  fun l0 l1 l2 l3 l4 l5 l6 S h => zD_goto (off := 4) (by decide +kernel) (by decide),
  fun l0 l1 l2 l3 l4 l5 l6 S h => zD_icst (n := 0) (by decide +kernel) (by decide +kernel),
  fun l0 l1 l2 l3 l4 l5 l6 x y r h => zD_op (ins := .iadd) (len := 1) (c := (71, [l0, l1, l2, l3, l4, l5, l6], (.int (x + y) :: r), h)) (by decide +kernel) rfl rfl rfl rfl,
  fun l0 l1 l2 l3 l4 l5 l6 x r h => zD_st1 (k := 4) (ins := .istore 4) (len := 2) (by decide +kernel) rfl rfl rfl (by decide +kernel) rfl rfl,
  fun l0 l1 l2 l3 l4 l6 x S h => zD_iinc (k := 5) (x := x) (c := (1 : Int32)) (n := 1) (by decide +kernel) (by decide +kernel) rfl (by decide +kernel) rfl,
  fun l0 l1 l2 l3 l4 l5 l6 S h => zD_goto (off := (-70)) (by decide +kernel) (by decide),
  fun l1 l2 l3 l4 l5 l6 x S h => zD_op (ins := .aload_n 0) (len := 1) (c := (80, [some (.ref x), l1, l2, l3, l4, l5, l6], (.ref x :: S), h)) (by decide +kernel) rfl rfl rfl rfl,
  fun l0 l1 l2 l3 l4 l5 l6 a r h hx => zD_getf (i := 15) (ci := 0) (k := 1) (q := (154, 0)) (by decide +kernel) (by decide +kernel) hx,
  fun l0 l1 l2 l4 l5 l6 x S h => zD_op (ins := .iload_n 3) (len := 1) (c := (84, [l0, l1, l2, some (.int x), l4, l5, l6], (.int x :: S), h)) (by decide +kernel) rfl rfl rfl rfl,
  fun l0 l1 l2 l4 l5 l6 x S h => zD_op (ins := .iload_n 3) (len := 1) (c := (85, [l0, l1, l2, some (.int x), l4, l5, l6], (.int x :: S), h)) (by decide +kernel) rfl rfl rfl rfl,
  fun l0 l1 l2 l3 l4 l5 l6 p0 p1 r h hcat hC => zD_calls (i := 49) (y := 0) (n := 2) (as := [.int p0, .int p1]) (by decide +kernel) (by decide +kernel) rfl (by decide +kernel) (Nat.le_of_ble_eq_true rfl) hcat hC,
  fun l0 l1 l2 l3 l5 l6 x S h => zD_op (ins := .iload 4) (len := 2) (c := (90, [l0, l1, l2, l3, some (.int x), l5, l6], (.int x :: S), h)) (by decide +kernel) rfl rfl rfl rfl,
  fun l0 l1 l2 l3 l4 l5 l6 x r h => zD_op (ins := .i2l) (len := 1) (c := (91, [l0, l1, l2, l3, l4, l5, l6], (.long x.toInt64 :: r), h)) (by decide +kernel) rfl rfl rfl rfl,
  fun l0 l1 l2 l3 l4 l5 l6 w i a r h hx => zD_last (by decide +kernel) hx,
  fun l0 l1 l2 l3 l4 l5 l6 h => zD_vret (by decide +kernel) rfl⟩
set_option maxRecDepth 100000 in
theorem E_X0_fillRow_h6 : (∀ (l0 l1 l2 l3 l4 l6 : Option Value) (x : Int32) (S : List Value) (h : zH), zD 87 6 [l0, l1, l2, l3, l4, some (.int x), l6] S h = zD 87 8 [l0, l1, l2, l3, l4, some (.int x), l6] (.int x :: S) h) :=
  fun l0 l1 l2 l3 l4 l6 x S h => zD_op (ins := .iload 5) (len := 2) (c := (8, [l0, l1, l2, l3, l4, some (.int x), l6], (.int x :: S), h)) (by decide +kernel) rfl rfl rfl rfl
set_option maxRecDepth 100000 in
theorem I_X0_fillRow : (∀ (a : Nat) (p0 : Nat) (p1 : Int32) (p2 : Int32) (h : zH), zC 87 [.ref a, .ref p0, .int p1, .int p2] h = zD 87 0 [some (.ref a), some (.ref p0), some (.int p1), some (.int p2), none, none, none] [] h) :=
  fun a p0 p1 p2 h => zC_def rfl
set_option maxRecDepth 100000 in
theorem E_X2_allowAll : (∀ (l0 l1 l2 : Option Value) (S : List Value) (h : zH), zD 88 0 [l0, l1, l2] S h = zD 88 1 [l0, l1, l2] (.int (1 : Int32) :: S) h) ∧
  (∀ (l0 l1 l2 : Option Value) (x : Int32) (r : List Value) (h : zH), zD 88 1 [l0, l1, l2] (.int x :: r) h = zD 88 2 [l0, zclr l1, some (.int x)] r h) ∧
  (∀ (l0 l2 : Option Value) (x : Nat) (S : List Value) (h : zH), zD 88 3 [l0, some (.ref x), l2] S h = zD 88 4 [l0, some (.ref x), l2] (.ref x :: S) h) ∧
  (∀ (l0 l2 : Option Value) (S : List Value) (h : zH), zD 88 3 [l0, some .null, l2] S h = zD 88 4 [l0, some .null, l2] (.null :: S) h) ∧
  (∀ (l0 l1 l2 : Option Value) (a : Nat) (r : List Value) (h : zH) (hx : zfok (h.2.2 a) 3 2 = true), zD 88 4 [l0, l1, l2] (.ref a :: r) h = zD 88 7 [l0, l1, l2] (zfv (h.2.2 a) 2 :: r) h) ∧
  (∀ (l0 l1 l2 : Option Value) (x y : Int32) (r : List Value) (h : zH), zD 88 7 [l0, l1, l2] (.int y :: .int x :: r) h = if y < x then zD 88 32 [l0, l1, l2] r h else zD 88 10 [l0, l1, l2] r h) ∧
  (∀ (l1 l2 : Option Value) (x : Nat) (S : List Value) (h : zH), zD 88 10 [some (.ref x), l1, l2] S h = zD 88 11 [some (.ref x), l1, l2] (.ref x :: S) h) ∧
  (∀ (l0 l2 : Option Value) (x : Nat) (S : List Value) (h : zH), zD 88 11 [l0, some (.ref x), l2] S h = zD 88 12 [l0, some (.ref x), l2] (.ref x :: S) h) ∧
  (∀ (l0 l2 : Option Value) (S : List Value) (h : zH), zD 88 11 [l0, some .null, l2] S h = zD 88 12 [l0, some .null, l2] (.null :: S) h) ∧
  (∀ (l0 l1 l2 : Option Value) (a : Nat) (r : List Value) (h : zH) (hx : zfok (h.2.2 a) 3 1 = true), zD 88 12 [l0, l1, l2] (.ref a :: r) h = zD 88 15 [l0, l1, l2] (zfv (h.2.2 a) 1 :: r) h) ∧
  (∀ (l0 l1 : Option Value) (x : Int32) (S : List Value) (h : zH), zD 88 15 [l0, l1, some (.int x)] S h = zD 88 16 [l0, l1, some (.int x)] (.int x :: S) h) ∧
  (∀ (l0 l1 l2 : Option Value) (i : Int32) (a : Nat) (r : List Value) (h : zH) (hx : ziok a (h.2.2 a) i = true), zD 88 16 [l0, l1, l2] (.int i :: .ref a :: r) h = zD 88 17 [l0, l1, l2] (.int (ziv (h.2.2 a) i) :: r) h) ∧
  (∀ (l0 l1 : Option Value) (x : Int32) (S : List Value) (h : zH), zD 88 17 [l0, l1, some (.int x)] S h = zD 88 18 [l0, l1, some (.int x)] (.int x :: S) h) ∧
  (∀ (l0 l1 l2 : Option Value) (p0 : Int32) (p1 : Int32) (a : Nat) (r : List Value) (h : zH) (hcat : zcat r ≤ 8) (hr : zis (h.2.2 a) 2 = true) (hC : (zC 48 (.ref a :: [.int p0, .int p1]) h).isSome = true), zD 88 18 [l0, l1, l2] (.int p1 :: .int p0 :: .ref a :: r) h = zD 88 21 [l0, l1, l2] (zgv (zC 48 (.ref a :: [.int p0, .int p1]) h) ++ r) (zgh h (zC 48 (.ref a :: [.int p0, .int p1]) h))) ∧
  (∀ (l0 l1 l2 : Option Value) (x : Int32) (r : List Value) (h : zH), zD 88 21 [l0, l1, l2] (.int x :: r) h = if ¬ x = 0 then zD 88 26 [l0, l1, l2] r h else zD 88 24 [l0, l1, l2] r h) ∧
  (∀ (l0 l1 l2 : Option Value) (S : List Value) (h : zH), zD 88 24 [l0, l1, l2] S h = zD 88 25 [l0, l1, l2] (.int (0 : Int32) :: S) h) ∧
  (∀ (l0 l1 l2 : Option Value) (v : Int32) (h : zH) (hv : zbv v), zD 88 25 [l0, l1, l2] [.int v] h = some (some (.int v), h)) ∧
  (∀ (l0 l1 : Option Value) (x : Int32) (S : List Value) (h : zH), zD 88 26 [l0, l1, some (.int x)] S h = zD 88 29 [l0, zclr l1, some (.int (x + (1 : Int32)))] S h) ∧
  (∀ (l0 l1 l2 : Option Value) (S : List Value) (h : zH), zD 88 29 [l0, l1, l2] S h = zD 88 2 [l0, l1, l2] S h) ∧
  (∀ (l0 l1 l2 : Option Value) (S : List Value) (h : zH), zD 88 32 [l0, l1, l2] S h = zD 88 33 [l0, l1, l2] (.int (1 : Int32) :: S) h) ∧
  (∀ (l0 l1 l2 : Option Value) (v : Int32) (h : zH) (hv : zbv v), zD 88 33 [l0, l1, l2] [.int v] h = some (some (.int v), h)) :=
  ⟨fun l0 l1 l2 S h => zD_icst (n := 1) (by decide +kernel) (by decide +kernel),
  fun l0 l1 l2 x r h => zD_st1 (k := 2) (ins := .istore_n 2) (len := 1) (by decide +kernel) rfl rfl rfl (by decide +kernel) rfl rfl,
  fun l0 l2 x S h => zD_op (ins := .aload_n 1) (len := 1) (c := (4, [l0, some (.ref x), l2], (.ref x :: S), h)) (by decide +kernel) rfl rfl rfl rfl,
  fun l0 l2 S h => zD_op (ins := .aload_n 1) (len := 1) (c := (4, [l0, some .null, l2], (.null :: S), h)) (by decide +kernel) rfl rfl rfl rfl,
  fun l0 l1 l2 a r h hx => zD_getf (i := 28) (ci := 3) (k := 2) (q := (88, 1)) (by decide +kernel) (by decide +kernel) hx,
  fun l0 l1 l2 x y r h => zD_if (cnd := .gt) (off := 25) (by decide +kernel) (by decide) rfl,
  fun l1 l2 x S h => zD_op (ins := .aload_n 0) (len := 1) (c := (11, [some (.ref x), l1, l2], (.ref x :: S), h)) (by decide +kernel) rfl rfl rfl rfl,
  fun l0 l2 x S h => zD_op (ins := .aload_n 1) (len := 1) (c := (12, [l0, some (.ref x), l2], (.ref x :: S), h)) (by decide +kernel) rfl rfl rfl rfl,
  fun l0 l2 S h => zD_op (ins := .aload_n 1) (len := 1) (c := (12, [l0, some .null, l2], (.null :: S), h)) (by decide +kernel) rfl rfl rfl rfl,
  fun l0 l1 l2 a r h hx => zD_getf (i := 34) (ci := 3) (k := 1) (q := (83, 1)) (by decide +kernel) (by decide +kernel) hx,
  fun l0 l1 x S h => zD_op (ins := .iload_n 2) (len := 1) (c := (16, [l0, l1, some (.int x)], (.int x :: S), h)) (by decide +kernel) rfl rfl rfl rfl,
  fun l0 l1 l2 i a r h hx => zD_iald (by decide +kernel) hx,
  fun l0 l1 x S h => zD_op (ins := .iload_n 2) (len := 1) (c := (18, [l0, l1, some (.int x)], (.int x :: S), h)) (by decide +kernel) rfl rfl rfl rfl,
  fun l0 l1 l2 p0 p1 a r h hcat hr hC => zD_callv (i := 37) (y := 48) (n := 2) (as := [.int p0, .int p1]) (ci := 2) (by decide +kernel) (by decide +kernel) rfl (by decide +kernel) (Nat.le_of_ble_eq_true rfl) (by decide +kernel) hcat hr hC,
  fun l0 l1 l2 x r h => zD_if0 (cnd := .ne) (off := 5) (by decide +kernel) (by decide) rfl,
  fun l0 l1 l2 S h => zD_icst (n := 0) (by decide +kernel) (by decide +kernel),
  fun l0 l1 l2 v h hv => zD_iretz (by decide +kernel) rfl hv,
  fun l0 l1 x S h => zD_iinc (k := 2) (x := x) (c := (1 : Int32)) (n := 1) (by decide +kernel) (by decide +kernel) rfl (by decide +kernel) rfl,
  fun l0 l1 l2 S h => zD_goto (off := (-27)) (by decide +kernel) (by decide),
  fun l0 l1 l2 S h => zD_icst (n := 1) (by decide +kernel) (by decide +kernel),
  fun l0 l1 l2 v h hv => zD_iretz (by decide +kernel) rfl hv⟩
set_option maxRecDepth 100000 in
theorem E_X2_allowAll_h2 : (∀ (l0 l1 : Option Value) (x : Int32) (S : List Value) (h : zH), zD 88 2 [l0, l1, some (.int x)] S h = zD 88 3 [l0, l1, some (.int x)] (.int x :: S) h) :=
  fun l0 l1 x S h => zD_op (ins := .iload_n 2) (len := 1) (c := (3, [l0, l1, some (.int x)], (.int x :: S), h)) (by decide +kernel) rfl rfl rfl rfl
set_option maxRecDepth 100000 in
theorem I_X2_allowAll : (∀ (a : Nat) (p0 : Nat) (h : zH), zC 88 [.ref a, .ref p0] h = zD 88 0 [some (.ref a), some (.ref p0), none] [] h) :=
  fun a p0 h => zC_def rfl
set_option maxRecDepth 100000 in
theorem E_X2_key : (∀ (l1 l2 : Option Value) (x : Nat) (S : List Value) (h : zH), zD 89 0 [some (.ref x), l1, l2] S h = zD 89 1 [some (.ref x), l1, l2] (.ref x :: S) h) ∧
  (∀ (l0 l1 l2 : Option Value) (a : Nat) (r : List Value) (h : zH) (hx : zfok (h.2.2 a) 2 0 = true), zD 89 1 [l0, l1, l2] (.ref a :: r) h = zD 89 4 [l0, l1, l2] (zfv (h.2.2 a) 0 :: r) h) ∧
  (∀ (l0 l2 : Option Value) (x : Int32) (S : List Value) (h : zH), zD 89 4 [l0, some (.int x), l2] S h = zD 89 5 [l0, some (.int x), l2] (.int x :: S) h) ∧
  (∀ (l0 l1 : Option Value) (x : Int32) (S : List Value) (h : zH), zD 89 5 [l0, l1, some (.int x)] S h = zD 89 6 [l0, l1, some (.int x)] (.int x :: S) h) ∧
  (∀ (l0 l1 l2 : Option Value) (p0 : Int32) (p1 : Int32) (r : List Value) (h : zH) (hcat : zcat r ≤ 8) (hC : (zC 3 [.int p0, .int p1] h).isSome = true), zD 89 6 [l0, l1, l2] (.int p1 :: .int p0 :: r) h = zD 89 9 [l0, l1, l2] (zgv (zC 3 [.int p0, .int p1] h) ++ r) (zgh h (zC 3 [.int p0, .int p1] h))) ∧
  (∀ (l0 l1 l2 : Option Value) (i : Int32) (a : Nat) (r : List Value) (h : zH) (hx : ziok a (h.2.2 a) i = true), zD 89 9 [l0, l1, l2] (.int i :: .ref a :: r) h = zD 89 10 [l0, l1, l2] (.int (ziv (h.2.2 a) i) :: r) h) ∧
  (∀ (l0 l2 : Option Value) (x : Int32) (S : List Value) (h : zH), zD 89 10 [l0, some (.int x), l2] S h = zD 89 11 [l0, some (.int x), l2] (.int x :: S) h) ∧
  (∀ (l0 l1 : Option Value) (x : Int32) (S : List Value) (h : zH), zD 89 11 [l0, l1, some (.int x)] S h = zD 89 12 [l0, l1, some (.int x)] (.int x :: S) h) ∧
  (∀ (l0 l1 l2 : Option Value) (p0 : Int32) (p1 : Int32) (p2 : Int32) (r : List Value) (h : zH) (hcat : zcat r ≤ 8) (hC : (zC 54 [.int p0, .int p1, .int p2] h).isSome = true), zD 89 12 [l0, l1, l2] (.int p2 :: .int p1 :: .int p0 :: r) h = zD 89 15 [l0, l1, l2] (zgv (zC 54 [.int p0, .int p1, .int p2] h) ++ r) (zgh h (zC 54 [.int p0, .int p1, .int p2] h))) ∧
  (∀ (l0 l1 l2 : Option Value) (v : Int64) (h : zH), zD 89 15 [l0, l1, l2] [.long v] h = some (some (.long v), h)) :=
  ⟨fun l1 l2 x S h => zD_op (ins := .aload_n 0) (len := 1) (c := (1, [some (.ref x), l1, l2], (.ref x :: S), h)) (by decide +kernel) rfl rfl rfl rfl,
  fun l0 l1 l2 a r h hx => zD_getf (i := 9) (ci := 2) (k := 0) (q := (105, 0)) (by decide +kernel) (by decide +kernel) hx,
  fun l0 l2 x S h => zD_op (ins := .iload_n 1) (len := 1) (c := (5, [l0, some (.int x), l2], (.int x :: S), h)) (by decide +kernel) rfl rfl rfl rfl,
  fun l0 l1 x S h => zD_op (ins := .iload_n 2) (len := 1) (c := (6, [l0, l1, some (.int x)], (.int x :: S), h)) (by decide +kernel) rfl rfl rfl rfl,
  fun l0 l1 l2 p0 p1 r h hcat hC => zD_calls (i := 24) (y := 3) (n := 2) (as := [.int p0, .int p1]) (by decide +kernel) (by decide +kernel) rfl (by decide +kernel) (Nat.le_of_ble_eq_true rfl) hcat hC,
  fun l0 l1 l2 i a r h hx => zD_iald (by decide +kernel) hx,
  fun l0 l2 x S h => zD_op (ins := .iload_n 1) (len := 1) (c := (11, [l0, some (.int x), l2], (.int x :: S), h)) (by decide +kernel) rfl rfl rfl rfl,
  fun l0 l1 x S h => zD_op (ins := .iload_n 2) (len := 1) (c := (12, [l0, l1, some (.int x)], (.int x :: S), h)) (by decide +kernel) rfl rfl rfl rfl,
  fun l0 l1 l2 p0 p1 p2 r h hcat hC => zD_calls (i := 41) (y := 54) (n := 3) (as := [.int p0, .int p1, .int p2]) (by decide +kernel) (by decide +kernel) rfl (by decide +kernel) (Nat.le_of_ble_eq_true rfl) hcat hC,
  fun l0 l1 l2 v h => zD_lret (by decide +kernel) rfl⟩
set_option maxRecDepth 100000 in
theorem I_X2_key : (∀ (a : Nat) (p0 : Int32) (p1 : Int32) (h : zH), zC 89 [.ref a, .int p0, .int p1] h = zD 89 0 [some (.ref a), some (.int p0), some (.int p1)] [] h) :=
  fun a p0 p1 h => zC_def rfl
set_option maxRecDepth 100000 in
theorem E_X3_init : (∀ (x : Nat) (S : List Value) (h : zH), zD 90 0 [some (.ref x)] S h = zD 90 1 [some (.ref x)] (.ref x :: S) h) ∧
  (∀ (l0 : Option Value) (a : Nat) (r : List Value) (h : zH) (hcat : zcat r ≤ 8), zD 90 1 [l0] (.ref a :: r) h = zD 90 4 [l0] r h) ∧
  (∀ (x : Nat) (S : List Value) (h : zH), zD 90 4 [some (.ref x)] S h = zD 90 5 [some (.ref x)] (.ref x :: S) h) ∧
  (∀ (l0 : Option Value) (S : List Value) (h : zH), zD 90 5 [l0] S h = zD 90 7 [l0] (.int (8 : Int32) :: S) h) ∧
  (∀ (l0 : Option Value) (n : Int32) (r : List Value) (h : zH) (hx : znok n = true), zD 90 7 [l0] (.int n :: r) h = zD 90 9 [l0] (.ref h.1 :: r) (znew h n.toNatClampNeg (.inl (0, n.toNatClampNeg, .inl (fun _ => 0))))) ∧
  (∀ (l0 : Option Value) (v : Nat) (a : Nat) (r : List Value) (h : zH) (hx : zfok (h.2.2 a) 3 0 = true), zD 90 9 [l0] (.ref v :: .ref a :: r) h = zD 90 12 [l0] r (zw h a (zfs' (h.2.2 a) 0 (.ref v)))) ∧
  (∀ (x : Nat) (S : List Value) (h : zH), zD 90 12 [some (.ref x)] S h = zD 90 13 [some (.ref x)] (.ref x :: S) h) ∧
  (∀ (l0 : Option Value) (S : List Value) (h : zH), zD 90 13 [l0] S h = zD 90 15 [l0] (.int (8 : Int32) :: S) h) ∧
  (∀ (l0 : Option Value) (n : Int32) (r : List Value) (h : zH) (hx : znok n = true), zD 90 15 [l0] (.int n :: r) h = zD 90 17 [l0] (.ref h.1 :: r) (znew h n.toNatClampNeg (.inl (0, n.toNatClampNeg, .inl (fun _ => 0))))) ∧
  (∀ (l0 : Option Value) (v : Nat) (a : Nat) (r : List Value) (h : zH) (hx : zfok (h.2.2 a) 3 1 = true), zD 90 17 [l0] (.ref v :: .ref a :: r) h = zD 90 20 [l0] r (zw h a (zfs' (h.2.2 a) 1 (.ref v)))) ∧
  (∀ (x : Nat) (S : List Value) (h : zH), zD 90 20 [some (.ref x)] S h = zD 90 21 [some (.ref x)] (.ref x :: S) h) ∧
  (∀ (l0 : Option Value) (S : List Value) (h : zH), zD 90 21 [l0] S h = zD 90 22 [l0] (.int (1 : Int32) :: S) h) ∧
  (∀ (l0 : Option Value) (p0 : Int32) (a : Nat) (r : List Value) (h : zH) (hcat : zcat r ≤ 8) (hr : zis (h.2.2 a) 3 = true) (hC : (zC 49 (.ref a :: [.int p0]) h).isSome = true), zD 90 22 [l0] (.int p0 :: .ref a :: r) h = zD 90 25 [l0] (zgv (zC 49 (.ref a :: [.int p0]) h) ++ r) (zgh h (zC 49 (.ref a :: [.int p0]) h))) ∧
  (∀ (l0 : Option Value) (h : zH), zD 90 25 [l0] [] h = some (none, h)) :=
  ⟨fun x S h => zD_op (ins := .aload_n 0) (len := 1) (c := (1, [some (.ref x)], (.ref x :: S), h)) (by decide +kernel) rfl rfl rfl rfl,
  fun l0 a r h hcat => zD_obj (i := 3) (q := 69) (by decide +kernel) (by decide +kernel) (by decide +kernel) (by decide +kernel) hcat,
  fun x S h => zD_op (ins := .aload_n 0) (len := 1) (c := (5, [some (.ref x)], (.ref x :: S), h)) (by decide +kernel) rfl rfl rfl rfl,
  fun l0 S h => zD_bip (n := 8) (by decide +kernel) (by decide +kernel),
  fun l0 n r h hx => zD_newi (by decide +kernel) hx,
  fun l0 v a r h hx => zD_putf (i := 9) (ci := 3) (k := 0) (q := (77, 0)) (by decide +kernel) (by decide +kernel) (by decide +kernel) hx rfl rfl,
  fun x S h => zD_op (ins := .aload_n 0) (len := 1) (c := (13, [some (.ref x)], (.ref x :: S), h)) (by decide +kernel) rfl rfl rfl rfl,
  fun l0 S h => zD_bip (n := 8) (by decide +kernel) (by decide +kernel),
  fun l0 n r h hx => zD_newi (by decide +kernel) hx,
  fun l0 v a r h hx => zD_putf (i := 15) (ci := 3) (k := 1) (q := (81, 0)) (by decide +kernel) (by decide +kernel) (by decide +kernel) hx rfl rfl,
  fun x S h => zD_op (ins := .aload_n 0) (len := 1) (c := (21, [some (.ref x)], (.ref x :: S), h)) (by decide +kernel) rfl rfl rfl rfl,
  fun l0 S h => zD_icst (n := 1) (by decide +kernel) (by decide +kernel),
  fun l0 p0 a r h hcat hr hC => zD_callv (i := 18) (y := 49) (n := 1) (as := [.int p0]) (ci := 3) (by decide +kernel) (by decide +kernel) rfl (by decide +kernel) (Nat.le_of_ble_eq_true rfl) (by decide +kernel) hcat hr hC,
  fun l0 h => zD_vret (by decide +kernel) rfl⟩
set_option maxRecDepth 100000 in
theorem I_X3_init : (∀ (a : Nat) (h : zH), zC 90 [.ref a] h = zD 90 0 [some (.ref a)] [] h) :=
  fun a h => zC_def rfl
set_option maxRecDepth 100000 in
theorem E_X3_takeHeads : (∀ (l0 l1 l2 l3 : Option Value) (S : List Value) (h : zH), zD 91 0 [l0, l1, l2, l3] S h = zD 91 1 [l0, l1, l2, l3] (.int (1 : Int32) :: S) h) ∧
  (∀ (l0 l1 l2 l3 : Option Value) (x : Int32) (r : List Value) (h : zH), zD 91 1 [l0, l1, l2, l3] (.int x :: r) h = zD 91 2 [l0, l1, zclr l2, some (.int x)] r h) ∧
  (∀ (l1 l2 l3 : Option Value) (x : Nat) (S : List Value) (h : zH), zD 91 3 [some (.ref x), l1, l2, l3] S h = zD 91 4 [some (.ref x), l1, l2, l3] (.ref x :: S) h) ∧
  (∀ (l0 l1 l2 l3 : Option Value) (a : Nat) (r : List Value) (h : zH) (hx : zfok (h.2.2 a) 3 2 = true), zD 91 4 [l0, l1, l2, l3] (.ref a :: r) h = zD 91 7 [l0, l1, l2, l3] (zfv (h.2.2 a) 2 :: r) h) ∧
  (∀ (l0 l1 l2 l3 : Option Value) (x y : Int32) (r : List Value) (h : zH), zD 91 7 [l0, l1, l2, l3] (.int y :: .int x :: r) h = if y < x then zD 91 27 [l0, l1, l2, l3] r h else zD 91 10 [l0, l1, l2, l3] r h) ∧
  (∀ (l1 l2 l3 : Option Value) (x : Nat) (S : List Value) (h : zH), zD 91 10 [some (.ref x), l1, l2, l3] S h = zD 91 11 [some (.ref x), l1, l2, l3] (.ref x :: S) h) ∧
  (∀ (l0 l1 l2 l3 : Option Value) (a : Nat) (r : List Value) (h : zH) (hx : zfok (h.2.2 a) 3 1 = true), zD 91 11 [l0, l1, l2, l3] (.ref a :: r) h = zD 91 14 [l0, l1, l2, l3] (zfv (h.2.2 a) 1 :: r) h) ∧
  (∀ (l0 l1 l2 : Option Value) (x : Int32) (S : List Value) (h : zH), zD 91 14 [l0, l1, l2, some (.int x)] S h = zD 91 15 [l0, l1, l2, some (.int x)] (.int x :: S) h) ∧
  (∀ (l0 l2 l3 : Option Value) (x : Int64) (S : List Value) (h : zH), zD 91 15 [l0, some (.long x), l2, l3] S h = zD 91 16 [l0, some (.long x), l2, l3] (.long x :: S) h) ∧
  (∀ (l0 l1 l2 : Option Value) (x : Int32) (S : List Value) (h : zH), zD 91 16 [l0, l1, l2, some (.int x)] S h = zD 91 17 [l0, l1, l2, some (.int x)] (.int x :: S) h) ∧
  (∀ (l0 l1 l2 l3 : Option Value) (p0 : Int64) (p1 : Int32) (r : List Value) (h : zH) (hcat : zcat r ≤ 8) (hC : (zC 55 [.long p0, .int p1] h).isSome = true), zD 91 17 [l0, l1, l2, l3] (.int p1 :: .long p0 :: r) h = zD 91 20 [l0, l1, l2, l3] (zgv (zC 55 [.long p0, .int p1] h) ++ r) (zgh h (zC 55 [.long p0, .int p1] h))) ∧
  (∀ (l0 l1 l2 l3 : Option Value) (w i : Int32) (a : Nat) (r : List Value) (h : zH) (hx : zpok (h.2.2 a) i = true), zD 91 20 [l0, l1, l2, l3] (.int w :: .int i :: .ref a :: r) h = zD 91 21 [l0, l1, l2, l3] r (zw h a (zis' (h.2.2 a) i w))) ∧
  (∀ (l0 l1 l2 : Option Value) (x : Int32) (S : List Value) (h : zH), zD 91 21 [l0, l1, l2, some (.int x)] S h = zD 91 24 [l0, l1, zclr l2, some (.int (x + (1 : Int32)))] S h) ∧
  (∀ (l0 l1 l2 l3 : Option Value) (S : List Value) (h : zH), zD 91 24 [l0, l1, l2, l3] S h = zD 91 2 [l0, l1, l2, l3] S h) ∧
  (∀ (l0 l1 l2 l3 : Option Value) (h : zH), zD 91 27 [l0, l1, l2, l3] [] h = some (none, h)) :=
  ⟨fun l0 l1 l2 l3 S h => zD_icst (n := 1) (by decide +kernel) (by decide +kernel),
  fun l0 l1 l2 l3 x r h => zD_st1 (k := 3) (ins := .istore_n 3) (len := 1) (by decide +kernel) rfl rfl rfl (by decide +kernel) rfl rfl,
  fun l1 l2 l3 x S h => zD_op (ins := .aload_n 0) (len := 1) (c := (4, [some (.ref x), l1, l2, l3], (.ref x :: S), h)) (by decide +kernel) rfl rfl rfl rfl,
  fun l0 l1 l2 l3 a r h hx => zD_getf (i := 28) (ci := 3) (k := 2) (q := (86, 0)) (by decide +kernel) (by decide +kernel) hx,
  fun l0 l1 l2 l3 x y r h => zD_if (cnd := .gt) (off := 20) (by decide +kernel) (by decide) rfl,
  fun l1 l2 l3 x S h => zD_op (ins := .aload_n 0) (len := 1) (c := (11, [some (.ref x), l1, l2, l3], (.ref x :: S), h)) (by decide +kernel) rfl rfl rfl rfl,
  fun l0 l1 l2 l3 a r h hx => zD_getf (i := 15) (ci := 3) (k := 1) (q := (81, 0)) (by decide +kernel) (by decide +kernel) hx,
  fun l0 l1 l2 x S h => zD_op (ins := .iload_n 3) (len := 1) (c := (15, [l0, l1, l2, some (.int x)], (.int x :: S), h)) (by decide +kernel) rfl rfl rfl rfl,
  fun l0 l2 l3 x S h => zD_op (ins := .lload_n 1) (len := 1) (c := (16, [l0, some (.long x), l2, l3], (.long x :: S), h)) (by decide +kernel) rfl rfl rfl rfl,
  fun l0 l1 l2 x S h => zD_op (ins := .iload_n 3) (len := 1) (c := (17, [l0, l1, l2, some (.int x)], (.int x :: S), h)) (by decide +kernel) rfl rfl rfl rfl,
  fun l0 l1 l2 l3 p0 p1 r h hcat hC => zD_calls (i := 38) (y := 55) (n := 2) (as := [.long p0, .int p1]) (by decide +kernel) (by decide +kernel) rfl (by decide +kernel) (Nat.le_of_ble_eq_true rfl) hcat hC,
  fun l0 l1 l2 l3 w i a r h hx => zD_iast (by decide +kernel) hx,
  fun l0 l1 l2 x S h => zD_iinc (k := 3) (x := x) (c := (1 : Int32)) (n := 1) (by decide +kernel) (by decide +kernel) rfl (by decide +kernel) rfl,
  fun l0 l1 l2 l3 S h => zD_goto (off := (-22)) (by decide +kernel) (by decide),
  fun l0 l1 l2 l3 h => zD_vret (by decide +kernel) rfl⟩
set_option maxRecDepth 100000 in
theorem E_X3_takeHeads_h2 : (∀ (l0 l1 l2 : Option Value) (x : Int32) (S : List Value) (h : zH), zD 91 2 [l0, l1, l2, some (.int x)] S h = zD 91 3 [l0, l1, l2, some (.int x)] (.int x :: S) h) :=
  fun l0 l1 l2 x S h => zD_op (ins := .iload_n 3) (len := 1) (c := (3, [l0, l1, l2, some (.int x)], (.int x :: S), h)) (by decide +kernel) rfl rfl rfl rfl
set_option maxRecDepth 100000 in
theorem I_X3_takeHeads : (∀ (a : Nat) (p0 : Int64) (h : zH), zC 91 [.ref a, .long p0] h = zD 91 0 [some (.ref a), some (.long p0), none, none] [] h) :=
  fun a p0 h => zC_def rfl
set_option maxRecDepth 100000 in
theorem E_X3_isTree : (∀ (l0 l1 : Option Value) (S : List Value) (h : zH), zD 92 0 [l0, l1] S h = zD 92 1 [l0, l1] (.int (1 : Int32) :: S) h) ∧
  (∀ (l0 l1 : Option Value) (x : Int32) (r : List Value) (h : zH), zD 92 1 [l0, l1] (.int x :: r) h = zD 92 2 [zclr l0, some (.int x)] r h) ∧
  (∀ (l1 : Option Value) (x : Nat) (S : List Value) (h : zH), zD 92 3 [some (.ref x), l1] S h = zD 92 4 [some (.ref x), l1] (.ref x :: S) h) ∧
  (∀ (l0 l1 : Option Value) (a : Nat) (r : List Value) (h : zH) (hx : zfok (h.2.2 a) 3 2 = true), zD 92 4 [l0, l1] (.ref a :: r) h = zD 92 7 [l0, l1] (zfv (h.2.2 a) 2 :: r) h) ∧
  (∀ (l0 l1 : Option Value) (x y : Int32) (r : List Value) (h : zH), zD 92 7 [l0, l1] (.int y :: .int x :: r) h = if y < x then zD 92 27 [l0, l1] r h else zD 92 10 [l0, l1] r h) ∧
  (∀ (l1 : Option Value) (x : Nat) (S : List Value) (h : zH), zD 92 10 [some (.ref x), l1] S h = zD 92 11 [some (.ref x), l1] (.ref x :: S) h) ∧
  (∀ (l0 l1 : Option Value) (S : List Value) (h : zH), zD 92 11 [l0, l1] S h = zD 92 12 [l0, l1] (.int (0 : Int32) :: S) h) ∧
  (∀ (l0 : Option Value) (x : Int32) (S : List Value) (h : zH), zD 92 12 [l0, some (.int x)] S h = zD 92 13 [l0, some (.int x)] (.int x :: S) h) ∧
  (∀ (l0 l1 : Option Value) (p0 : Int32) (p1 : Int32) (a : Nat) (r : List Value) (h : zH) (hcat : zcat r ≤ 8) (hr : zis (h.2.2 a) 3 = true) (hC : (zC 52 (.ref a :: [.int p0, .int p1]) h).isSome = true), zD 92 13 [l0, l1] (.int p1 :: .int p0 :: .ref a :: r) h = zD 92 16 [l0, l1] (zgv (zC 52 (.ref a :: [.int p0, .int p1]) h) ++ r) (zgh h (zC 52 (.ref a :: [.int p0, .int p1]) h))) ∧
  (∀ (l0 l1 : Option Value) (x : Int32) (r : List Value) (h : zH), zD 92 16 [l0, l1] (.int x :: r) h = if ¬ x = 0 then zD 92 21 [l0, l1] r h else zD 92 19 [l0, l1] r h) ∧
  (∀ (l0 l1 : Option Value) (S : List Value) (h : zH), zD 92 19 [l0, l1] S h = zD 92 20 [l0, l1] (.int (0 : Int32) :: S) h) ∧
  (∀ (l0 l1 : Option Value) (v : Int32) (h : zH) (hv : zbv v), zD 92 20 [l0, l1] [.int v] h = some (some (.int v), h)) ∧
  (∀ (l0 : Option Value) (x : Int32) (S : List Value) (h : zH), zD 92 21 [l0, some (.int x)] S h = zD 92 24 [zclr l0, some (.int (x + (1 : Int32)))] S h) ∧
  (∀ (l0 l1 : Option Value) (S : List Value) (h : zH), zD 92 24 [l0, l1] S h = zD 92 2 [l0, l1] S h) ∧
  (∀ (l0 l1 : Option Value) (S : List Value) (h : zH), zD 92 27 [l0, l1] S h = zD 92 28 [l0, l1] (.int (1 : Int32) :: S) h) ∧
  (∀ (l0 l1 : Option Value) (v : Int32) (h : zH) (hv : zbv v), zD 92 28 [l0, l1] [.int v] h = some (some (.int v), h)) :=
  ⟨fun l0 l1 S h => zD_icst (n := 1) (by decide +kernel) (by decide +kernel),
  fun l0 l1 x r h => zD_st1 (k := 1) (ins := .istore_n 1) (len := 1) (by decide +kernel) rfl rfl rfl (by decide +kernel) rfl rfl,
  fun l1 x S h => zD_op (ins := .aload_n 0) (len := 1) (c := (4, [some (.ref x), l1], (.ref x :: S), h)) (by decide +kernel) rfl rfl rfl rfl,
  fun l0 l1 a r h hx => zD_getf (i := 28) (ci := 3) (k := 2) (q := (86, 0)) (by decide +kernel) (by decide +kernel) hx,
  fun l0 l1 x y r h => zD_if (cnd := .gt) (off := 20) (by decide +kernel) (by decide) rfl,
  fun l1 x S h => zD_op (ins := .aload_n 0) (len := 1) (c := (11, [some (.ref x), l1], (.ref x :: S), h)) (by decide +kernel) rfl rfl rfl rfl,
  fun l0 l1 S h => zD_icst (n := 0) (by decide +kernel) (by decide +kernel),
  fun l0 x S h => zD_op (ins := .iload_n 1) (len := 1) (c := (13, [l0, some (.int x)], (.int x :: S), h)) (by decide +kernel) rfl rfl rfl rfl,
  fun l0 l1 p0 p1 a r h hcat hr hC => zD_callv (i := 55) (y := 52) (n := 2) (as := [.int p0, .int p1]) (ci := 3) (by decide +kernel) (by decide +kernel) rfl (by decide +kernel) (Nat.le_of_ble_eq_true rfl) (by decide +kernel) hcat hr hC,
  fun l0 l1 x r h => zD_if0 (cnd := .ne) (off := 5) (by decide +kernel) (by decide) rfl,
  fun l0 l1 S h => zD_icst (n := 0) (by decide +kernel) (by decide +kernel),
  fun l0 l1 v h hv => zD_iretz (by decide +kernel) rfl hv,
  fun l0 x S h => zD_iinc (k := 1) (x := x) (c := (1 : Int32)) (n := 1) (by decide +kernel) (by decide +kernel) rfl (by decide +kernel) rfl,
  fun l0 l1 S h => zD_goto (off := (-22)) (by decide +kernel) (by decide),
  fun l0 l1 S h => zD_icst (n := 1) (by decide +kernel) (by decide +kernel),
  fun l0 l1 v h hv => zD_iretz (by decide +kernel) rfl hv⟩
set_option maxRecDepth 100000 in
theorem E_X3_isTree_h2 : (∀ (l0 : Option Value) (x : Int32) (S : List Value) (h : zH), zD 92 2 [l0, some (.int x)] S h = zD 92 3 [l0, some (.int x)] (.int x :: S) h) :=
  fun l0 x S h => zD_op (ins := .iload_n 1) (len := 1) (c := (3, [l0, some (.int x)], (.int x :: S), h)) (by decide +kernel) rfl rfl rfl rfl
set_option maxRecDepth 100000 in
theorem I_X3_isTree : (∀ (a : Nat) (h : zH), zC 92 [.ref a] h = zD 92 0 [some (.ref a), none] [] h) :=
  fun a h => zC_def rfl
set_option maxRecDepth 100000 in
theorem E_X3_isSmooth : (∀ (l0 l1 l2 l3 : Option Value) (S : List Value) (h : zH), zD 93 0 [l0, l1, l2, l3] S h = zD 93 1 [l0, l1, l2, l3] (.int (1 : Int32) :: S) h) ∧
  (∀ (l0 l1 l2 l3 : Option Value) (x : Int32) (r : List Value) (h : zH), zD 93 1 [l0, l1, l2, l3] (.int x :: r) h = zD 93 2 [zclr l0, some (.int x), l2, l3] r h) ∧
  (∀ (l1 l2 l3 : Option Value) (x : Nat) (S : List Value) (h : zH), zD 93 3 [some (.ref x), l1, l2, l3] S h = zD 93 4 [some (.ref x), l1, l2, l3] (.ref x :: S) h) ∧
  (∀ (l0 l1 l2 l3 : Option Value) (a : Nat) (r : List Value) (h : zH) (hx : zfok (h.2.2 a) 3 2 = true), zD 93 4 [l0, l1, l2, l3] (.ref a :: r) h = zD 93 7 [l0, l1, l2, l3] (zfv (h.2.2 a) 2 :: r) h) ∧
  (∀ (l0 l1 l2 l3 : Option Value) (x y : Int32) (r : List Value) (h : zH), zD 93 7 [l0, l1, l2, l3] (.int y :: .int x :: r) h = if y < x then zD 93 57 [l0, l1, l2, l3] r h else zD 93 10 [l0, l1, l2, l3] r h) ∧
  (∀ (l1 l2 l3 : Option Value) (x : Nat) (S : List Value) (h : zH), zD 93 10 [some (.ref x), l1, l2, l3] S h = zD 93 11 [some (.ref x), l1, l2, l3] (.ref x :: S) h) ∧
  (∀ (l0 l1 l2 l3 : Option Value) (a : Nat) (r : List Value) (h : zH) (hx : zfok (h.2.2 a) 3 1 = true), zD 93 11 [l0, l1, l2, l3] (.ref a :: r) h = zD 93 14 [l0, l1, l2, l3] (zfv (h.2.2 a) 1 :: r) h) ∧
  (∀ (l0 l2 l3 : Option Value) (x : Int32) (S : List Value) (h : zH), zD 93 14 [l0, some (.int x), l2, l3] S h = zD 93 15 [l0, some (.int x), l2, l3] (.int x :: S) h) ∧
  (∀ (l0 l1 l2 l3 : Option Value) (i : Int32) (a : Nat) (r : List Value) (h : zH) (hx : ziok a (h.2.2 a) i = true), zD 93 15 [l0, l1, l2, l3] (.int i :: .ref a :: r) h = zD 93 16 [l0, l1, l2, l3] (.int (ziv (h.2.2 a) i) :: r) h) ∧
  (∀ (l0 l1 l2 l3 : Option Value) (x : Int32) (r : List Value) (h : zH), zD 93 16 [l0, l1, l2, l3] (.int x :: r) h = zD 93 17 [l0, zclr l1, some (.int x), l3] r h) ∧
  (∀ (l0 l1 l3 : Option Value) (x : Int32) (S : List Value) (h : zH), zD 93 17 [l0, l1, some (.int x), l3] S h = zD 93 18 [l0, l1, some (.int x), l3] (.int x :: S) h) ∧
  (∀ (l0 l2 l3 : Option Value) (x : Int32) (S : List Value) (h : zH), zD 93 18 [l0, some (.int x), l2, l3] S h = zD 93 19 [l0, some (.int x), l2, l3] (.int x :: S) h) ∧
  (∀ (l0 l1 l2 l3 : Option Value) (x y : Int32) (r : List Value) (h : zH) (hcat : zcat r ≤ 8), zD 93 19 [l0, l1, l2, l3] (.int y :: .int x :: r) h = zD 93 22 [l0, l1, l2, l3] (.int (if y < x then y else x) :: r) h) ∧
  (∀ (l0 l1 l2 l3 : Option Value) (S : List Value) (h : zH), zD 93 22 [l0, l1, l2, l3] S h = zD 93 23 [l0, l1, l2, l3] (.int (1 : Int32) :: S) h) ∧
  (∀ (l0 l1 l2 l3 : Option Value) (x y : Int32) (r : List Value) (h : zH), zD 93 23 [l0, l1, l2, l3] (.int y :: .int x :: r) h = zD 93 24 [l0, l1, l2, l3] (.int (x + y) :: r) h) ∧
  (∀ (l0 l1 l2 l3 : Option Value) (x : Int32) (r : List Value) (h : zH), zD 93 24 [l0, l1, l2, l3] (.int x :: r) h = zD 93 25 [l0, l1, zclr l2, some (.int x)] r h) ∧
  (∀ (l0 l1 l3 : Option Value) (x : Int32) (S : List Value) (h : zH), zD 93 26 [l0, l1, some (.int x), l3] S h = zD 93 27 [l0, l1, some (.int x), l3] (.int x :: S) h) ∧
  (∀ (l0 l2 l3 : Option Value) (x : Int32) (S : List Value) (h : zH), zD 93 27 [l0, some (.int x), l2, l3] S h = zD 93 28 [l0, some (.int x), l2, l3] (.int x :: S) h) ∧
  (∀ (l0 l1 l2 l3 : Option Value) (x y : Int32) (r : List Value) (h : zH) (hcat : zcat r ≤ 8), zD 93 28 [l0, l1, l2, l3] (.int y :: .int x :: r) h = zD 93 31 [l0, l1, l2, l3] (.int (if x < y then y else x) :: r) h) ∧
  (∀ (l0 l1 l2 l3 : Option Value) (x y : Int32) (r : List Value) (h : zH), zD 93 31 [l0, l1, l2, l3] (.int y :: .int x :: r) h = if y ≤ x then zD 93 51 [l0, l1, l2, l3] r h else zD 93 34 [l0, l1, l2, l3] r h) ∧
  (∀ (l1 l2 l3 : Option Value) (x : Nat) (S : List Value) (h : zH), zD 93 34 [some (.ref x), l1, l2, l3] S h = zD 93 35 [some (.ref x), l1, l2, l3] (.ref x :: S) h) ∧
  (∀ (l0 l1 l3 : Option Value) (x : Int32) (S : List Value) (h : zH), zD 93 35 [l0, l1, some (.int x), l3] S h = zD 93 36 [l0, l1, some (.int x), l3] (.int x :: S) h) ∧
  (∀ (l0 l1 l2 : Option Value) (x : Int32) (S : List Value) (h : zH), zD 93 36 [l0, l1, l2, some (.int x)] S h = zD 93 37 [l0, l1, l2, some (.int x)] (.int x :: S) h) ∧
  (∀ (l0 l1 l2 l3 : Option Value) (p0 : Int32) (p1 : Int32) (a : Nat) (r : List Value) (h : zH) (hcat : zcat r ≤ 8) (hr : zis (h.2.2 a) 3 = true) (hC : (zC 52 (.ref a :: [.int p0, .int p1]) h).isSome = true), zD 93 37 [l0, l1, l2, l3] (.int p1 :: .int p0 :: .ref a :: r) h = zD 93 40 [l0, l1, l2, l3] (zgv (zC 52 (.ref a :: [.int p0, .int p1]) h) ++ r) (zgh h (zC 52 (.ref a :: [.int p0, .int p1]) h))) ∧
  (∀ (l0 l1 l2 l3 : Option Value) (x : Int32) (r : List Value) (h : zH), zD 93 40 [l0, l1, l2, l3] (.int x :: r) h = if ¬ x = 0 then zD 93 45 [l0, l1, l2, l3] r h else zD 93 43 [l0, l1, l2, l3] r h) ∧
  (∀ (l0 l1 l2 l3 : Option Value) (S : List Value) (h : zH), zD 93 43 [l0, l1, l2, l3] S h = zD 93 44 [l0, l1, l2, l3] (.int (0 : Int32) :: S) h) ∧
  (∀ (l0 l1 l2 l3 : Option Value) (v : Int32) (h : zH) (hv : zbv v), zD 93 44 [l0, l1, l2, l3] [.int v] h = some (some (.int v), h)) ∧
  (∀ (l0 l1 l2 : Option Value) (x : Int32) (S : List Value) (h : zH), zD 93 45 [l0, l1, l2, some (.int x)] S h = zD 93 48 [l0, l1, zclr l2, some (.int (x + (1 : Int32)))] S h) ∧
  (∀ (l0 l1 l2 l3 : Option Value) (S : List Value) (h : zH), zD 93 48 [l0, l1, l2, l3] S h = zD 93 25 [l0, l1, l2, l3] S h) ∧
  (∀ (l0 l2 l3 : Option Value) (x : Int32) (S : List Value) (h : zH), zD 93 51 [l0, some (.int x), l2, l3] S h = zD 93 54 [zclr l0, some (.int (x + (1 : Int32))), l2, l3] S h) ∧
  (∀ (l0 l1 l2 l3 : Option Value) (S : List Value) (h : zH), zD 93 54 [l0, l1, l2, l3] S h = zD 93 2 [l0, l1, l2, l3] S h) ∧
  (∀ (l0 l1 l2 l3 : Option Value) (S : List Value) (h : zH), zD 93 57 [l0, l1, l2, l3] S h = zD 93 58 [l0, l1, l2, l3] (.int (1 : Int32) :: S) h) ∧
  (∀ (l0 l1 l2 l3 : Option Value) (v : Int32) (h : zH) (hv : zbv v), zD 93 58 [l0, l1, l2, l3] [.int v] h = some (some (.int v), h)) :=
  ⟨fun l0 l1 l2 l3 S h => zD_icst (n := 1) (by decide +kernel) (by decide +kernel),
  fun l0 l1 l2 l3 x r h => zD_st1 (k := 1) (ins := .istore_n 1) (len := 1) (by decide +kernel) rfl rfl rfl (by decide +kernel) rfl rfl,
  fun l1 l2 l3 x S h => zD_op (ins := .aload_n 0) (len := 1) (c := (4, [some (.ref x), l1, l2, l3], (.ref x :: S), h)) (by decide +kernel) rfl rfl rfl rfl,
  fun l0 l1 l2 l3 a r h hx => zD_getf (i := 28) (ci := 3) (k := 2) (q := (86, 0)) (by decide +kernel) (by decide +kernel) hx,
  fun l0 l1 l2 l3 x y r h => zD_if (cnd := .gt) (off := 50) (by decide +kernel) (by decide) rfl,
  fun l1 l2 l3 x S h => zD_op (ins := .aload_n 0) (len := 1) (c := (11, [some (.ref x), l1, l2, l3], (.ref x :: S), h)) (by decide +kernel) rfl rfl rfl rfl,
  fun l0 l1 l2 l3 a r h hx => zD_getf (i := 15) (ci := 3) (k := 1) (q := (81, 0)) (by decide +kernel) (by decide +kernel) hx,
  fun l0 l2 l3 x S h => zD_op (ins := .iload_n 1) (len := 1) (c := (15, [l0, some (.int x), l2, l3], (.int x :: S), h)) (by decide +kernel) rfl rfl rfl rfl,
  fun l0 l1 l2 l3 i a r h hx => zD_iald (by decide +kernel) hx,
  fun l0 l1 l2 l3 x r h => zD_st1 (k := 2) (ins := .istore_n 2) (len := 1) (by decide +kernel) rfl rfl rfl (by decide +kernel) rfl rfl,
  fun l0 l1 l3 x S h => zD_op (ins := .iload_n 2) (len := 1) (c := (18, [l0, l1, some (.int x), l3], (.int x :: S), h)) (by decide +kernel) rfl rfl rfl rfl,
  fun l0 l2 l3 x S h => zD_op (ins := .iload_n 1) (len := 1) (c := (19, [l0, some (.int x), l2, l3], (.int x :: S), h)) (by decide +kernel) rfl rfl rfl rfl,
  fun l0 l1 l2 l3 x y r h hcat => zD_min (i := 59) (q := 346) (by decide +kernel) (by decide +kernel) (by decide +kernel) (by decide +kernel) hcat,
  fun l0 l1 l2 l3 S h => zD_icst (n := 1) (by decide +kernel) (by decide +kernel),
  fun l0 l1 l2 l3 x y r h => zD_op (ins := .iadd) (len := 1) (c := (24, [l0, l1, l2, l3], (.int (x + y) :: r), h)) (by decide +kernel) rfl rfl rfl rfl,
  fun l0 l1 l2 l3 x r h => zD_st1 (k := 3) (ins := .istore_n 3) (len := 1) (by decide +kernel) rfl rfl rfl (by decide +kernel) rfl rfl,
  fun l0 l1 l3 x S h => zD_op (ins := .iload_n 2) (len := 1) (c := (27, [l0, l1, some (.int x), l3], (.int x :: S), h)) (by decide +kernel) rfl rfl rfl rfl,
  fun l0 l2 l3 x S h => zD_op (ins := .iload_n 1) (len := 1) (c := (28, [l0, some (.int x), l2, l3], (.int x :: S), h)) (by decide +kernel) rfl rfl rfl rfl,
  fun l0 l1 l2 l3 x y r h hcat => zD_max (i := 65) (q := 347) (by decide +kernel) (by decide +kernel) (by decide +kernel) (by decide +kernel) hcat,
  fun l0 l1 l2 l3 x y r h => zD_if (cnd := .ge) (off := 20) (by decide +kernel) (by decide) rfl,
  fun l1 l2 l3 x S h => zD_op (ins := .aload_n 0) (len := 1) (c := (35, [some (.ref x), l1, l2, l3], (.ref x :: S), h)) (by decide +kernel) rfl rfl rfl rfl,
  fun l0 l1 l3 x S h => zD_op (ins := .iload_n 2) (len := 1) (c := (36, [l0, l1, some (.int x), l3], (.int x :: S), h)) (by decide +kernel) rfl rfl rfl rfl,
  fun l0 l1 l2 x S h => zD_op (ins := .iload_n 3) (len := 1) (c := (37, [l0, l1, l2, some (.int x)], (.int x :: S), h)) (by decide +kernel) rfl rfl rfl rfl,
  fun l0 l1 l2 l3 p0 p1 a r h hcat hr hC => zD_callv (i := 55) (y := 52) (n := 2) (as := [.int p0, .int p1]) (ci := 3) (by decide +kernel) (by decide +kernel) rfl (by decide +kernel) (Nat.le_of_ble_eq_true rfl) (by decide +kernel) hcat hr hC,
  fun l0 l1 l2 l3 x r h => zD_if0 (cnd := .ne) (off := 5) (by decide +kernel) (by decide) rfl,
  fun l0 l1 l2 l3 S h => zD_icst (n := 0) (by decide +kernel) (by decide +kernel),
  fun l0 l1 l2 l3 v h hv => zD_iretz (by decide +kernel) rfl hv,
  fun l0 l1 l2 x S h => zD_iinc (k := 3) (x := x) (c := (1 : Int32)) (n := 1) (by decide +kernel) (by decide +kernel) rfl (by decide +kernel) rfl,
  fun l0 l1 l2 l3 S h => zD_goto (off := (-23)) (by decide +kernel) (by decide),
  fun l0 l2 l3 x S h => zD_iinc (k := 1) (x := x) (c := (1 : Int32)) (n := 1) (by decide +kernel) (by decide +kernel) rfl (by decide +kernel) rfl,
  fun l0 l1 l2 l3 S h => zD_goto (off := (-52)) (by decide +kernel) (by decide),
  fun l0 l1 l2 l3 S h => zD_icst (n := 1) (by decide +kernel) (by decide +kernel),
  fun l0 l1 l2 l3 v h hv => zD_iretz (by decide +kernel) rfl hv⟩
set_option maxRecDepth 100000 in
theorem E_X3_isSmooth_h2 : (∀ (l0 l2 l3 : Option Value) (x : Int32) (S : List Value) (h : zH), zD 93 2 [l0, some (.int x), l2, l3] S h = zD 93 3 [l0, some (.int x), l2, l3] (.int x :: S) h) :=
  fun l0 l2 l3 x S h => zD_op (ins := .iload_n 1) (len := 1) (c := (3, [l0, some (.int x), l2, l3], (.int x :: S), h)) (by decide +kernel) rfl rfl rfl rfl
set_option maxRecDepth 100000 in
theorem E_X3_isSmooth_h25 : (∀ (l0 l1 l2 : Option Value) (x : Int32) (S : List Value) (h : zH), zD 93 25 [l0, l1, l2, some (.int x)] S h = zD 93 26 [l0, l1, l2, some (.int x)] (.int x :: S) h) :=
  fun l0 l1 l2 x S h => zD_op (ins := .iload_n 3) (len := 1) (c := (26, [l0, l1, l2, some (.int x)], (.int x :: S), h)) (by decide +kernel) rfl rfl rfl rfl
set_option maxRecDepth 100000 in
theorem I_X3_isSmooth : (∀ (a : Nat) (h : zH), zC 93 [.ref a] h = zD 93 0 [some (.ref a), none, none, none] [] h) :=
  fun a h => zC_def rfl
set_option maxRecDepth 100000 in
theorem E_X3_wordsBelow : (∀ (l0 l1 l2 l3 : Option Value) (S : List Value) (h : zH), zD 94 0 [l0, l1, l2, l3] S h = zD 94 1 [l0, l1, l2, l3] (.int (0 : Int32) :: S) h) ∧
  (∀ (l0 l1 l2 l3 : Option Value) (x : Int32) (r : List Value) (h : zH), zD 94 1 [l0, l1, l2, l3] (.int x :: r) h = zD 94 2 [l0, zclr l1, some (.int x), l3] r h) ∧
  (∀ (l0 l1 l2 l3 : Option Value) (S : List Value) (h : zH), zD 94 2 [l0, l1, l2, l3] S h = zD 94 3 [l0, l1, l2, l3] (.int (1 : Int32) :: S) h) ∧
  (∀ (l0 l1 l2 l3 : Option Value) (x : Int32) (r : List Value) (h : zH), zD 94 3 [l0, l1, l2, l3] (.int x :: r) h = zD 94 4 [l0, l1, zclr l2, some (.int x)] r h) ∧
  (∀ (l1 l2 l3 : Option Value) (x : Nat) (S : List Value) (h : zH), zD 94 5 [some (.ref x), l1, l2, l3] S h = zD 94 6 [some (.ref x), l1, l2, l3] (.ref x :: S) h) ∧
  (∀ (l0 l1 l2 l3 : Option Value) (a : Nat) (r : List Value) (h : zH) (hx : zfok (h.2.2 a) 3 2 = true), zD 94 6 [l0, l1, l2, l3] (.ref a :: r) h = zD 94 9 [l0, l1, l2, l3] (zfv (h.2.2 a) 2 :: r) h) ∧
  (∀ (l0 l1 l2 l3 : Option Value) (x y : Int32) (r : List Value) (h : zH), zD 94 9 [l0, l1, l2, l3] (.int y :: .int x :: r) h = if y < x then zD 94 30 [l0, l1, l2, l3] r h else zD 94 12 [l0, l1, l2, l3] r h) ∧
  (∀ (l1 l2 l3 : Option Value) (x : Nat) (S : List Value) (h : zH), zD 94 12 [some (.ref x), l1, l2, l3] S h = zD 94 13 [some (.ref x), l1, l2, l3] (.ref x :: S) h) ∧
  (∀ (l0 l2 l3 : Option Value) (x : Int32) (S : List Value) (h : zH), zD 94 13 [l0, some (.int x), l2, l3] S h = zD 94 14 [l0, some (.int x), l2, l3] (.int x :: S) h) ∧
  (∀ (l0 l1 l2 : Option Value) (x : Int32) (S : List Value) (h : zH), zD 94 14 [l0, l1, l2, some (.int x)] S h = zD 94 15 [l0, l1, l2, some (.int x)] (.int x :: S) h) ∧
  (∀ (l0 l1 l2 l3 : Option Value) (p0 : Int32) (p1 : Int32) (a : Nat) (r : List Value) (h : zH) (hcat : zcat r ≤ 8) (hr : zis (h.2.2 a) 3 = true) (hC : (zC 52 (.ref a :: [.int p0, .int p1]) h).isSome = true), zD 94 15 [l0, l1, l2, l3] (.int p1 :: .int p0 :: .ref a :: r) h = zD 94 18 [l0, l1, l2, l3] (zgv (zC 52 (.ref a :: [.int p0, .int p1]) h) ++ r) (zgh h (zC 52 (.ref a :: [.int p0, .int p1]) h))) ∧
  (∀ (l0 l1 l2 l3 : Option Value) (x : Int32) (r : List Value) (h : zH), zD 94 18 [l0, l1, l2, l3] (.int x :: r) h = if x = 0 then zD 94 24 [l0, l1, l2, l3] r h else zD 94 21 [l0, l1, l2, l3] r h) ∧
  (∀ (l0 l1 l3 : Option Value) (x : Int32) (S : List Value) (h : zH), zD 94 21 [l0, l1, some (.int x), l3] S h = zD 94 24 [l0, zclr l1, some (.int (x + (1 : Int32))), l3] S h) ∧
  (∀ (l0 l1 l2 : Option Value) (x : Int32) (S : List Value) (h : zH), zD 94 24 [l0, l1, l2, some (.int x)] S h = zD 94 27 [l0, l1, zclr l2, some (.int (x + (1 : Int32)))] S h) ∧
  (∀ (l0 l1 l2 l3 : Option Value) (S : List Value) (h : zH), zD 94 27 [l0, l1, l2, l3] S h = zD 94 4 [l0, l1, l2, l3] S h) ∧
  (∀ (l0 l1 l3 : Option Value) (x : Int32) (S : List Value) (h : zH), zD 94 30 [l0, l1, some (.int x), l3] S h = zD 94 31 [l0, l1, some (.int x), l3] (.int x :: S) h) ∧
  (∀ (l0 l1 l2 l3 : Option Value) (v : Int32) (h : zH), zD 94 31 [l0, l1, l2, l3] [.int v] h = some (some (.int v), h)) :=
  ⟨fun l0 l1 l2 l3 S h => zD_icst (n := 0) (by decide +kernel) (by decide +kernel),
  fun l0 l1 l2 l3 x r h => zD_st1 (k := 2) (ins := .istore_n 2) (len := 1) (by decide +kernel) rfl rfl rfl (by decide +kernel) rfl rfl,
  fun l0 l1 l2 l3 S h => zD_icst (n := 1) (by decide +kernel) (by decide +kernel),
  fun l0 l1 l2 l3 x r h => zD_st1 (k := 3) (ins := .istore_n 3) (len := 1) (by decide +kernel) rfl rfl rfl (by decide +kernel) rfl rfl,
  fun l1 l2 l3 x S h => zD_op (ins := .aload_n 0) (len := 1) (c := (6, [some (.ref x), l1, l2, l3], (.ref x :: S), h)) (by decide +kernel) rfl rfl rfl rfl,
  fun l0 l1 l2 l3 a r h hx => zD_getf (i := 28) (ci := 3) (k := 2) (q := (86, 0)) (by decide +kernel) (by decide +kernel) hx,
  fun l0 l1 l2 l3 x y r h => zD_if (cnd := .gt) (off := 21) (by decide +kernel) (by decide) rfl,
  fun l1 l2 l3 x S h => zD_op (ins := .aload_n 0) (len := 1) (c := (13, [some (.ref x), l1, l2, l3], (.ref x :: S), h)) (by decide +kernel) rfl rfl rfl rfl,
  fun l0 l2 l3 x S h => zD_op (ins := .iload_n 1) (len := 1) (c := (14, [l0, some (.int x), l2, l3], (.int x :: S), h)) (by decide +kernel) rfl rfl rfl rfl,
  fun l0 l1 l2 x S h => zD_op (ins := .iload_n 3) (len := 1) (c := (15, [l0, l1, l2, some (.int x)], (.int x :: S), h)) (by decide +kernel) rfl rfl rfl rfl,
  fun l0 l1 l2 l3 p0 p1 a r h hcat hr hC => zD_callv (i := 55) (y := 52) (n := 2) (as := [.int p0, .int p1]) (ci := 3) (by decide +kernel) (by decide +kernel) rfl (by decide +kernel) (Nat.le_of_ble_eq_true rfl) (by decide +kernel) hcat hr hC,
  fun l0 l1 l2 l3 x r h => zD_if0 (cnd := .eq) (off := 6) (by decide +kernel) (by decide) rfl,
  fun l0 l1 l3 x S h => zD_iinc (k := 2) (x := x) (c := (1 : Int32)) (n := 1) (by decide +kernel) (by decide +kernel) rfl (by decide +kernel) rfl,
  fun l0 l1 l2 x S h => zD_iinc (k := 3) (x := x) (c := (1 : Int32)) (n := 1) (by decide +kernel) (by decide +kernel) rfl (by decide +kernel) rfl,
  fun l0 l1 l2 l3 S h => zD_goto (off := (-23)) (by decide +kernel) (by decide),
  fun l0 l1 l3 x S h => zD_op (ins := .iload_n 2) (len := 1) (c := (31, [l0, l1, some (.int x), l3], (.int x :: S), h)) (by decide +kernel) rfl rfl rfl rfl,
  fun l0 l1 l2 l3 v h => zD_ireti (by decide +kernel) rfl⟩
set_option maxRecDepth 100000 in
theorem E_X3_wordsBelow_h4 : (∀ (l0 l1 l2 : Option Value) (x : Int32) (S : List Value) (h : zH), zD 94 4 [l0, l1, l2, some (.int x)] S h = zD 94 5 [l0, l1, l2, some (.int x)] (.int x :: S) h) :=
  fun l0 l1 l2 x S h => zD_op (ins := .iload_n 3) (len := 1) (c := (5, [l0, l1, l2, some (.int x)], (.int x :: S), h)) (by decide +kernel) rfl rfl rfl rfl
set_option maxRecDepth 100000 in
theorem I_X3_wordsBelow : (∀ (a : Nat) (p0 : Int32) (h : zH), zC 94 [.ref a, .int p0] h = zD 94 0 [some (.ref a), some (.int p0), none, none] [] h) :=
  fun a p0 h => zC_def rfl
set_option maxRecDepth 100000 in
theorem E_X3_firstWithin : (∀ (l0 l1 l2 : Option Value) (S : List Value) (h : zH), zD 95 0 [l0, l1, l2] S h = zD 95 1 [l0, l1, l2] (.int (1 : Int32) :: S) h) ∧
  (∀ (l0 l1 l2 : Option Value) (x : Int32) (r : List Value) (h : zH), zD 95 1 [l0, l1, l2] (.int x :: r) h = zD 95 2 [l0, zclr l1, some (.int x)] r h) ∧
  (∀ (l0 l2 : Option Value) (x : Int32) (S : List Value) (h : zH), zD 95 3 [l0, some (.int x), l2] S h = zD 95 4 [l0, some (.int x), l2] (.int x :: S) h) ∧
  (∀ (l0 l1 l2 : Option Value) (x y : Int32) (r : List Value) (h : zH), zD 95 4 [l0, l1, l2] (.int y :: .int x :: r) h = if y ≤ x then zD 95 24 [l0, l1, l2] r h else zD 95 7 [l0, l1, l2] r h) ∧
  (∀ (l1 l2 : Option Value) (x : Nat) (S : List Value) (h : zH), zD 95 7 [some (.ref x), l1, l2] S h = zD 95 8 [some (.ref x), l1, l2] (.ref x :: S) h) ∧
  (∀ (l0 l2 : Option Value) (x : Int32) (S : List Value) (h : zH), zD 95 8 [l0, some (.int x), l2] S h = zD 95 9 [l0, some (.int x), l2] (.int x :: S) h) ∧
  (∀ (l0 l1 : Option Value) (x : Int32) (S : List Value) (h : zH), zD 95 9 [l0, l1, some (.int x)] S h = zD 95 10 [l0, l1, some (.int x)] (.int x :: S) h) ∧
  (∀ (l0 l1 l2 : Option Value) (p0 : Int32) (p1 : Int32) (a : Nat) (r : List Value) (h : zH) (hcat : zcat r ≤ 8) (hr : zis (h.2.2 a) 3 = true) (hC : (zC 52 (.ref a :: [.int p0, .int p1]) h).isSome = true), zD 95 10 [l0, l1, l2] (.int p1 :: .int p0 :: .ref a :: r) h = zD 95 13 [l0, l1, l2] (zgv (zC 52 (.ref a :: [.int p0, .int p1]) h) ++ r) (zgh h (zC 52 (.ref a :: [.int p0, .int p1]) h))) ∧
  (∀ (l0 l1 l2 : Option Value) (x : Int32) (r : List Value) (h : zH), zD 95 13 [l0, l1, l2] (.int x :: r) h = if x = 0 then zD 95 18 [l0, l1, l2] r h else zD 95 16 [l0, l1, l2] r h) ∧
  (∀ (l0 l1 : Option Value) (x : Int32) (S : List Value) (h : zH), zD 95 16 [l0, l1, some (.int x)] S h = zD 95 17 [l0, l1, some (.int x)] (.int x :: S) h) ∧
  (∀ (l0 l1 l2 : Option Value) (v : Int32) (h : zH), zD 95 17 [l0, l1, l2] [.int v] h = some (some (.int v), h)) ∧
  (∀ (l0 l1 : Option Value) (x : Int32) (S : List Value) (h : zH), zD 95 18 [l0, l1, some (.int x)] S h = zD 95 21 [l0, zclr l1, some (.int (x + (1 : Int32)))] S h) ∧
  (∀ (l0 l1 l2 : Option Value) (S : List Value) (h : zH), zD 95 21 [l0, l1, l2] S h = zD 95 2 [l0, l1, l2] S h) ∧
  (∀ (l0 l2 : Option Value) (x : Int32) (S : List Value) (h : zH), zD 95 24 [l0, some (.int x), l2] S h = zD 95 25 [l0, some (.int x), l2] (.int x :: S) h) ∧
  (∀ (l0 l1 l2 : Option Value) (v : Int32) (h : zH), zD 95 25 [l0, l1, l2] [.int v] h = some (some (.int v), h)) :=
  ⟨fun l0 l1 l2 S h => zD_icst (n := 1) (by decide +kernel) (by decide +kernel),
  fun l0 l1 l2 x r h => zD_st1 (k := 2) (ins := .istore_n 2) (len := 1) (by decide +kernel) rfl rfl rfl (by decide +kernel) rfl rfl,
  fun l0 l2 x S h => zD_op (ins := .iload_n 1) (len := 1) (c := (4, [l0, some (.int x), l2], (.int x :: S), h)) (by decide +kernel) rfl rfl rfl rfl,
  fun l0 l1 l2 x y r h => zD_if (cnd := .ge) (off := 20) (by decide +kernel) (by decide) rfl,
  fun l1 l2 x S h => zD_op (ins := .aload_n 0) (len := 1) (c := (8, [some (.ref x), l1, l2], (.ref x :: S), h)) (by decide +kernel) rfl rfl rfl rfl,
  fun l0 l2 x S h => zD_op (ins := .iload_n 1) (len := 1) (c := (9, [l0, some (.int x), l2], (.int x :: S), h)) (by decide +kernel) rfl rfl rfl rfl,
  fun l0 l1 x S h => zD_op (ins := .iload_n 2) (len := 1) (c := (10, [l0, l1, some (.int x)], (.int x :: S), h)) (by decide +kernel) rfl rfl rfl rfl,
  fun l0 l1 l2 p0 p1 a r h hcat hr hC => zD_callv (i := 55) (y := 52) (n := 2) (as := [.int p0, .int p1]) (ci := 3) (by decide +kernel) (by decide +kernel) rfl (by decide +kernel) (Nat.le_of_ble_eq_true rfl) (by decide +kernel) hcat hr hC,
  fun l0 l1 l2 x r h => zD_if0 (cnd := .eq) (off := 5) (by decide +kernel) (by decide) rfl,
  fun l0 l1 x S h => zD_op (ins := .iload_n 2) (len := 1) (c := (17, [l0, l1, some (.int x)], (.int x :: S), h)) (by decide +kernel) rfl rfl rfl rfl,
  fun l0 l1 l2 v h => zD_ireti (by decide +kernel) rfl,
  fun l0 l1 x S h => zD_iinc (k := 2) (x := x) (c := (1 : Int32)) (n := 1) (by decide +kernel) (by decide +kernel) rfl (by decide +kernel) rfl,
  fun l0 l1 l2 S h => zD_goto (off := (-19)) (by decide +kernel) (by decide),
  fun l0 l2 x S h => zD_op (ins := .iload_n 1) (len := 1) (c := (25, [l0, some (.int x), l2], (.int x :: S), h)) (by decide +kernel) rfl rfl rfl rfl,
  fun l0 l1 l2 v h => zD_ireti (by decide +kernel) rfl⟩
set_option maxRecDepth 100000 in
theorem E_X3_firstWithin_h2 : (∀ (l0 l1 : Option Value) (x : Int32) (S : List Value) (h : zH), zD 95 2 [l0, l1, some (.int x)] S h = zD 95 3 [l0, l1, some (.int x)] (.int x :: S) h) :=
  fun l0 l1 x S h => zD_op (ins := .iload_n 2) (len := 1) (c := (3, [l0, l1, some (.int x)], (.int x :: S), h)) (by decide +kernel) rfl rfl rfl rfl
set_option maxRecDepth 100000 in
theorem I_X3_firstWithin : (∀ (a : Nat) (p0 : Int32) (h : zH), zC 95 [.ref a, .int p0] h = zD 95 0 [some (.ref a), some (.int p0), none] [] h) :=
  fun a p0 h => zC_def rfl
set_option maxRecDepth 100000 in
theorem E_X3_lastWithin : (∀ (l1 l2 : Option Value) (x : Nat) (S : List Value) (h : zH), zD 96 0 [some (.ref x), l1, l2] S h = zD 96 1 [some (.ref x), l1, l2] (.ref x :: S) h) ∧
  (∀ (l0 l1 l2 : Option Value) (a : Nat) (r : List Value) (h : zH) (hx : zfok (h.2.2 a) 3 2 = true), zD 96 1 [l0, l1, l2] (.ref a :: r) h = zD 96 4 [l0, l1, l2] (zfv (h.2.2 a) 2 :: r) h) ∧
  (∀ (l0 l1 l2 : Option Value) (x : Int32) (r : List Value) (h : zH), zD 96 4 [l0, l1, l2] (.int x :: r) h = zD 96 5 [l0, zclr l1, some (.int x)] r h) ∧
  (∀ (l0 l2 : Option Value) (x : Int32) (S : List Value) (h : zH), zD 96 6 [l0, some (.int x), l2] S h = zD 96 7 [l0, some (.int x), l2] (.int x :: S) h) ∧
  (∀ (l0 l1 l2 : Option Value) (x y : Int32) (r : List Value) (h : zH), zD 96 7 [l0, l1, l2] (.int y :: .int x :: r) h = if x ≤ y then zD 96 27 [l0, l1, l2] r h else zD 96 10 [l0, l1, l2] r h) ∧
  (∀ (l1 l2 : Option Value) (x : Nat) (S : List Value) (h : zH), zD 96 10 [some (.ref x), l1, l2] S h = zD 96 11 [some (.ref x), l1, l2] (.ref x :: S) h) ∧
  (∀ (l0 l2 : Option Value) (x : Int32) (S : List Value) (h : zH), zD 96 11 [l0, some (.int x), l2] S h = zD 96 12 [l0, some (.int x), l2] (.int x :: S) h) ∧
  (∀ (l0 l1 : Option Value) (x : Int32) (S : List Value) (h : zH), zD 96 12 [l0, l1, some (.int x)] S h = zD 96 13 [l0, l1, some (.int x)] (.int x :: S) h) ∧
  (∀ (l0 l1 l2 : Option Value) (p0 : Int32) (p1 : Int32) (a : Nat) (r : List Value) (h : zH) (hcat : zcat r ≤ 8) (hr : zis (h.2.2 a) 3 = true) (hC : (zC 52 (.ref a :: [.int p0, .int p1]) h).isSome = true), zD 96 13 [l0, l1, l2] (.int p1 :: .int p0 :: .ref a :: r) h = zD 96 16 [l0, l1, l2] (zgv (zC 52 (.ref a :: [.int p0, .int p1]) h) ++ r) (zgh h (zC 52 (.ref a :: [.int p0, .int p1]) h))) ∧
  (∀ (l0 l1 l2 : Option Value) (x : Int32) (r : List Value) (h : zH), zD 96 16 [l0, l1, l2] (.int x :: r) h = if x = 0 then zD 96 21 [l0, l1, l2] r h else zD 96 19 [l0, l1, l2] r h) ∧
  (∀ (l0 l1 : Option Value) (x : Int32) (S : List Value) (h : zH), zD 96 19 [l0, l1, some (.int x)] S h = zD 96 20 [l0, l1, some (.int x)] (.int x :: S) h) ∧
  (∀ (l0 l1 l2 : Option Value) (v : Int32) (h : zH), zD 96 20 [l0, l1, l2] [.int v] h = some (some (.int v), h)) ∧
  (∀ (l0 l1 : Option Value) (x : Int32) (S : List Value) (h : zH), zD 96 21 [l0, l1, some (.int x)] S h = zD 96 24 [l0, zclr l1, some (.int (x + (-1 : Int32)))] S h) ∧
  (∀ (l0 l1 l2 : Option Value) (S : List Value) (h : zH), zD 96 24 [l0, l1, l2] S h = zD 96 5 [l0, l1, l2] S h) ∧
  (∀ (l0 l2 : Option Value) (x : Int32) (S : List Value) (h : zH), zD 96 27 [l0, some (.int x), l2] S h = zD 96 28 [l0, some (.int x), l2] (.int x :: S) h) ∧
  (∀ (l0 l1 l2 : Option Value) (v : Int32) (h : zH), zD 96 28 [l0, l1, l2] [.int v] h = some (some (.int v), h)) :=
  ⟨fun l1 l2 x S h => zD_op (ins := .aload_n 0) (len := 1) (c := (1, [some (.ref x), l1, l2], (.ref x :: S), h)) (by decide +kernel) rfl rfl rfl rfl,
  fun l0 l1 l2 a r h hx => zD_getf (i := 28) (ci := 3) (k := 2) (q := (86, 0)) (by decide +kernel) (by decide +kernel) hx,
  fun l0 l1 l2 x r h => zD_st1 (k := 2) (ins := .istore_n 2) (len := 1) (by decide +kernel) rfl rfl rfl (by decide +kernel) rfl rfl,
  fun l0 l2 x S h => zD_op (ins := .iload_n 1) (len := 1) (c := (7, [l0, some (.int x), l2], (.int x :: S), h)) (by decide +kernel) rfl rfl rfl rfl,
  fun l0 l1 l2 x y r h => zD_if (cnd := .le) (off := 20) (by decide +kernel) (by decide) rfl,
  fun l1 l2 x S h => zD_op (ins := .aload_n 0) (len := 1) (c := (11, [some (.ref x), l1, l2], (.ref x :: S), h)) (by decide +kernel) rfl rfl rfl rfl,
  fun l0 l2 x S h => zD_op (ins := .iload_n 1) (len := 1) (c := (12, [l0, some (.int x), l2], (.int x :: S), h)) (by decide +kernel) rfl rfl rfl rfl,
  fun l0 l1 x S h => zD_op (ins := .iload_n 2) (len := 1) (c := (13, [l0, l1, some (.int x)], (.int x :: S), h)) (by decide +kernel) rfl rfl rfl rfl,
  fun l0 l1 l2 p0 p1 a r h hcat hr hC => zD_callv (i := 55) (y := 52) (n := 2) (as := [.int p0, .int p1]) (ci := 3) (by decide +kernel) (by decide +kernel) rfl (by decide +kernel) (Nat.le_of_ble_eq_true rfl) (by decide +kernel) hcat hr hC,
  fun l0 l1 l2 x r h => zD_if0 (cnd := .eq) (off := 5) (by decide +kernel) (by decide) rfl,
  fun l0 l1 x S h => zD_op (ins := .iload_n 2) (len := 1) (c := (20, [l0, l1, some (.int x)], (.int x :: S), h)) (by decide +kernel) rfl rfl rfl rfl,
  fun l0 l1 l2 v h => zD_ireti (by decide +kernel) rfl,
  fun l0 l1 x S h => zD_iinc (k := 2) (x := x) (c := (-1 : Int32)) (n := (-1)) (by decide +kernel) (by decide +kernel) rfl (by decide +kernel) rfl,
  fun l0 l1 l2 S h => zD_goto (off := (-19)) (by decide +kernel) (by decide),
  fun l0 l2 x S h => zD_op (ins := .iload_n 1) (len := 1) (c := (28, [l0, some (.int x), l2], (.int x :: S), h)) (by decide +kernel) rfl rfl rfl rfl,
  fun l0 l1 l2 v h => zD_ireti (by decide +kernel) rfl⟩
set_option maxRecDepth 100000 in
theorem E_X3_lastWithin_h5 : (∀ (l0 l1 : Option Value) (x : Int32) (S : List Value) (h : zH), zD 96 5 [l0, l1, some (.int x)] S h = zD 96 6 [l0, l1, some (.int x)] (.int x :: S) h) :=
  fun l0 l1 x S h => zD_op (ins := .iload_n 2) (len := 1) (c := (6, [l0, l1, some (.int x)], (.int x :: S), h)) (by decide +kernel) rfl rfl rfl rfl
set_option maxRecDepth 100000 in
theorem I_X3_lastWithin : (∀ (a : Nat) (p0 : Int32) (h : zH), zC 96 [.ref a, .int p0] h = zD 96 0 [some (.ref a), some (.int p0), none] [] h) :=
  fun a p0 h => zC_def rfl
set_option maxRecDepth 100000 in
theorem E_X3_likePairs : (∀ (l0 l1 l2 l3 l4 : Option Value) (S : List Value) (h : zH), zD 97 0 [l0, l1, l2, l3, l4] S h = zD 97 1 [l0, l1, l2, l3, l4] (.int (0 : Int32) :: S) h) ∧
  (∀ (l0 l1 l2 l3 l4 : Option Value) (x : Int32) (r : List Value) (h : zH), zD 97 1 [l0, l1, l2, l3, l4] (.int x :: r) h = zD 97 2 [l0, zclr l1, some (.int x), l3, l4] r h) ∧
  (∀ (l0 l1 l2 l3 l4 : Option Value) (S : List Value) (h : zH), zD 97 2 [l0, l1, l2, l3, l4] S h = zD 97 3 [l0, l1, l2, l3, l4] (.int (2 : Int32) :: S) h) ∧
  (∀ (l0 l1 l2 l3 l4 : Option Value) (x : Int32) (r : List Value) (h : zH), zD 97 3 [l0, l1, l2, l3, l4] (.int x :: r) h = zD 97 4 [l0, l1, zclr l2, some (.int x), l4] r h) ∧
  (∀ (l1 l2 l3 l4 : Option Value) (x : Nat) (S : List Value) (h : zH), zD 97 5 [some (.ref x), l1, l2, l3, l4] S h = zD 97 6 [some (.ref x), l1, l2, l3, l4] (.ref x :: S) h) ∧
  (∀ (l0 l1 l2 l3 l4 : Option Value) (a : Nat) (r : List Value) (h : zH) (hx : zfok (h.2.2 a) 3 2 = true), zD 97 6 [l0, l1, l2, l3, l4] (.ref a :: r) h = zD 97 9 [l0, l1, l2, l3, l4] (zfv (h.2.2 a) 2 :: r) h) ∧
  (∀ (l0 l1 l2 l3 l4 : Option Value) (x y : Int32) (r : List Value) (h : zH), zD 97 9 [l0, l1, l2, l3, l4] (.int y :: .int x :: r) h = if y < x then zD 97 70 [l0, l1, l2, l3, l4] r h else zD 97 12 [l0, l1, l2, l3, l4] r h) ∧
  (∀ (l0 l1 l2 l3 l4 : Option Value) (S : List Value) (h : zH), zD 97 12 [l0, l1, l2, l3, l4] S h = zD 97 13 [l0, l1, l2, l3, l4] (.int (1 : Int32) :: S) h) ∧
  (∀ (l0 l1 l2 l3 l4 : Option Value) (x : Int32) (r : List Value) (h : zH), zD 97 13 [l0, l1, l2, l3, l4] (.int x :: r) h = zD 97 15 [l0, l1, l2, zclr l3, some (.int x)] r h) ∧
  (∀ (l0 l1 l2 l4 : Option Value) (x : Int32) (S : List Value) (h : zH), zD 97 17 [l0, l1, l2, some (.int x), l4] S h = zD 97 18 [l0, l1, l2, some (.int x), l4] (.int x :: S) h) ∧
  (∀ (l0 l1 l2 l3 l4 : Option Value) (x y : Int32) (r : List Value) (h : zH), zD 97 18 [l0, l1, l2, l3, l4] (.int y :: .int x :: r) h = if y ≤ x then zD 97 64 [l0, l1, l2, l3, l4] r h else zD 97 21 [l0, l1, l2, l3, l4] r h) ∧
  (∀ (l1 l2 l3 l4 : Option Value) (x : Nat) (S : List Value) (h : zH), zD 97 21 [some (.ref x), l1, l2, l3, l4] S h = zD 97 22 [some (.ref x), l1, l2, l3, l4] (.ref x :: S) h) ∧
  (∀ (l0 l1 l2 l3 : Option Value) (x : Int32) (S : List Value) (h : zH), zD 97 22 [l0, l1, l2, l3, some (.int x)] S h = zD 97 24 [l0, l1, l2, l3, some (.int x)] (.int x :: S) h) ∧
  (∀ (l0 l1 l2 l4 : Option Value) (x : Int32) (S : List Value) (h : zH), zD 97 24 [l0, l1, l2, some (.int x), l4] S h = zD 97 25 [l0, l1, l2, some (.int x), l4] (.int x :: S) h) ∧
  (∀ (l0 l1 l2 l3 l4 : Option Value) (p0 : Int32) (p1 : Int32) (a : Nat) (r : List Value) (h : zH) (hcat : zcat r ≤ 8) (hr : zis (h.2.2 a) 3 = true) (hC : (zC 52 (.ref a :: [.int p0, .int p1]) h).isSome = true), zD 97 25 [l0, l1, l2, l3, l4] (.int p1 :: .int p0 :: .ref a :: r) h = zD 97 28 [l0, l1, l2, l3, l4] (zgv (zC 52 (.ref a :: [.int p0, .int p1]) h) ++ r) (zgh h (zC 52 (.ref a :: [.int p0, .int p1]) h))) ∧
  (∀ (l0 l2 l3 l4 : Option Value) (x : Nat) (S : List Value) (h : zH), zD 97 28 [l0, some (.ref x), l2, l3, l4] S h = zD 97 29 [l0, some (.ref x), l2, l3, l4] (.ref x :: S) h) ∧
  (∀ (l0 l2 l3 l4 : Option Value) (S : List Value) (h : zH), zD 97 28 [l0, some .null, l2, l3, l4] S h = zD 97 29 [l0, some .null, l2, l3, l4] (.null :: S) h) ∧
  (∀ (l0 l1 l2 l3 : Option Value) (x : Int32) (S : List Value) (h : zH), zD 97 29 [l0, l1, l2, l3, some (.int x)] S h = zD 97 31 [l0, l1, l2, l3, some (.int x)] (.int x :: S) h) ∧
  (∀ (l0 l1 l2 l4 : Option Value) (x : Int32) (S : List Value) (h : zH), zD 97 31 [l0, l1, l2, some (.int x), l4] S h = zD 97 32 [l0, l1, l2, some (.int x), l4] (.int x :: S) h) ∧
  (∀ (l0 l1 l2 l3 l4 : Option Value) (p0 : Int32) (p1 : Int32) (a : Nat) (r : List Value) (h : zH) (hcat : zcat r ≤ 8) (hr : zis (h.2.2 a) 3 = true) (hC : (zC 52 (.ref a :: [.int p0, .int p1]) h).isSome = true), zD 97 32 [l0, l1, l2, l3, l4] (.int p1 :: .int p0 :: .ref a :: r) h = zD 97 35 [l0, l1, l2, l3, l4] (zgv (zC 52 (.ref a :: [.int p0, .int p1]) h) ++ r) (zgh h (zC 52 (.ref a :: [.int p0, .int p1]) h))) ∧
  (∀ (l0 l1 l2 l3 l4 : Option Value) (x y : Int32) (r : List Value) (h : zH), zD 97 35 [l0, l1, l2, l3, l4] (.int y :: .int x :: r) h = if ¬ x = y then zD 97 58 [l0, l1, l2, l3, l4] r h else zD 97 38 [l0, l1, l2, l3, l4] r h) ∧
  (∀ (l1 l2 l3 l4 : Option Value) (x : Nat) (S : List Value) (h : zH), zD 97 38 [some (.ref x), l1, l2, l3, l4] S h = zD 97 39 [some (.ref x), l1, l2, l3, l4] (.ref x :: S) h) ∧
  (∀ (l0 l1 l2 l4 : Option Value) (x : Int32) (S : List Value) (h : zH), zD 97 39 [l0, l1, l2, some (.int x), l4] S h = zD 97 40 [l0, l1, l2, some (.int x), l4] (.int x :: S) h) ∧
  (∀ (l0 l1 l2 l3 : Option Value) (x : Int32) (S : List Value) (h : zH), zD 97 40 [l0, l1, l2, l3, some (.int x)] S h = zD 97 42 [l0, l1, l2, l3, some (.int x)] (.int x :: S) h) ∧
  (∀ (l0 l1 l2 l3 l4 : Option Value) (p0 : Int32) (p1 : Int32) (a : Nat) (r : List Value) (h : zH) (hcat : zcat r ≤ 8) (hr : zis (h.2.2 a) 3 = true) (hC : (zC 52 (.ref a :: [.int p0, .int p1]) h).isSome = true), zD 97 42 [l0, l1, l2, l3, l4] (.int p1 :: .int p0 :: .ref a :: r) h = zD 97 45 [l0, l1, l2, l3, l4] (zgv (zC 52 (.ref a :: [.int p0, .int p1]) h) ++ r) (zgh h (zC 52 (.ref a :: [.int p0, .int p1]) h))) ∧
  (∀ (l0 l2 l3 l4 : Option Value) (x : Nat) (S : List Value) (h : zH), zD 97 45 [l0, some (.ref x), l2, l3, l4] S h = zD 97 46 [l0, some (.ref x), l2, l3, l4] (.ref x :: S) h) ∧
  (∀ (l0 l2 l3 l4 : Option Value) (S : List Value) (h : zH), zD 97 45 [l0, some .null, l2, l3, l4] S h = zD 97 46 [l0, some .null, l2, l3, l4] (.null :: S) h) ∧
  (∀ (l0 l1 l2 l4 : Option Value) (x : Int32) (S : List Value) (h : zH), zD 97 46 [l0, l1, l2, some (.int x), l4] S h = zD 97 47 [l0, l1, l2, some (.int x), l4] (.int x :: S) h) ∧
  (∀ (l0 l1 l2 l3 : Option Value) (x : Int32) (S : List Value) (h : zH), zD 97 47 [l0, l1, l2, l3, some (.int x)] S h = zD 97 49 [l0, l1, l2, l3, some (.int x)] (.int x :: S) h) ∧
  (∀ (l0 l1 l2 l3 l4 : Option Value) (p0 : Int32) (p1 : Int32) (a : Nat) (r : List Value) (h : zH) (hcat : zcat r ≤ 8) (hr : zis (h.2.2 a) 3 = true) (hC : (zC 52 (.ref a :: [.int p0, .int p1]) h).isSome = true), zD 97 49 [l0, l1, l2, l3, l4] (.int p1 :: .int p0 :: .ref a :: r) h = zD 97 52 [l0, l1, l2, l3, l4] (zgv (zC 52 (.ref a :: [.int p0, .int p1]) h) ++ r) (zgh h (zC 52 (.ref a :: [.int p0, .int p1]) h))) ∧
  (∀ (l0 l1 l2 l3 l4 : Option Value) (x y : Int32) (r : List Value) (h : zH), zD 97 52 [l0, l1, l2, l3, l4] (.int y :: .int x :: r) h = if ¬ x = y then zD 97 58 [l0, l1, l2, l3, l4] r h else zD 97 55 [l0, l1, l2, l3, l4] r h) ∧
  (∀ (l0 l1 l3 l4 : Option Value) (x : Int32) (S : List Value) (h : zH), zD 97 55 [l0, l1, some (.int x), l3, l4] S h = zD 97 58 [l0, zclr l1, some (.int (x + (1 : Int32))), l3, l4] S h) ∧
  (∀ (l0 l1 l2 l3 : Option Value) (x : Int32) (S : List Value) (h : zH), zD 97 58 [l0, l1, l2, l3, some (.int x)] S h = zD 97 61 [l0, l1, l2, zclr l3, some (.int (x + (1 : Int32)))] S h) ∧
  (∀ (l0 l1 l2 l3 l4 : Option Value) (S : List Value) (h : zH), zD 97 61 [l0, l1, l2, l3, l4] S h = zD 97 15 [l0, l1, l2, l3, l4] S h) ∧
  (∀ (l0 l1 l2 l4 : Option Value) (x : Int32) (S : List Value) (h : zH), zD 97 64 [l0, l1, l2, some (.int x), l4] S h = zD 97 67 [l0, l1, zclr l2, some (.int (x + (1 : Int32))), l4] S h) ∧
  (∀ (l0 l1 l2 l3 l4 : Option Value) (S : List Value) (h : zH), zD 97 67 [l0, l1, l2, l3, l4] S h = zD 97 4 [l0, l1, l2, l3, l4] S h) ∧
  (∀ (l0 l1 l3 l4 : Option Value) (x : Int32) (S : List Value) (h : zH), zD 97 70 [l0, l1, some (.int x), l3, l4] S h = zD 97 71 [l0, l1, some (.int x), l3, l4] (.int x :: S) h) ∧
  (∀ (l0 l1 l2 l3 l4 : Option Value) (v : Int32) (h : zH), zD 97 71 [l0, l1, l2, l3, l4] [.int v] h = some (some (.int v), h)) :=
  ⟨fun l0 l1 l2 l3 l4 S h => zD_icst (n := 0) (by decide +kernel) (by decide +kernel),
  fun l0 l1 l2 l3 l4 x r h => zD_st1 (k := 2) (ins := .istore_n 2) (len := 1) (by decide +kernel) rfl rfl rfl (by decide +kernel) rfl rfl,
  fun l0 l1 l2 l3 l4 S h => zD_icst (n := 2) (by decide +kernel) (by decide +kernel),
  fun l0 l1 l2 l3 l4 x r h => zD_st1 (k := 3) (ins := .istore_n 3) (len := 1) (by decide +kernel) rfl rfl rfl (by decide +kernel) rfl rfl,
  fun l1 l2 l3 l4 x S h => zD_op (ins := .aload_n 0) (len := 1) (c := (6, [some (.ref x), l1, l2, l3, l4], (.ref x :: S), h)) (by decide +kernel) rfl rfl rfl rfl,
  fun l0 l1 l2 l3 l4 a r h hx => zD_getf (i := 28) (ci := 3) (k := 2) (q := (86, 0)) (by decide +kernel) (by decide +kernel) hx,
  fun l0 l1 l2 l3 l4 x y r h => zD_if (cnd := .gt) (off := 61) (by decide +kernel) (by decide) rfl,
  fun l0 l1 l2 l3 l4 S h => zD_icst (n := 1) (by decide +kernel) (by decide +kernel),
  fun l0 l1 l2 l3 l4 x r h => zD_st1 (k := 4) (ins := .istore 4) (len := 2) (by decide +kernel) rfl rfl rfl (by decide +kernel) rfl rfl,
  fun l0 l1 l2 l4 x S h => zD_op (ins := .iload_n 3) (len := 1) (c := (18, [l0, l1, l2, some (.int x), l4], (.int x :: S), h)) (by decide +kernel) rfl rfl rfl rfl,
  fun l0 l1 l2 l3 l4 x y r h => zD_if (cnd := .ge) (off := 46) (by decide +kernel) (by decide) rfl,
  fun l1 l2 l3 l4 x S h => zD_op (ins := .aload_n 0) (len := 1) (c := (22, [some (.ref x), l1, l2, l3, l4], (.ref x :: S), h)) (by decide +kernel) rfl rfl rfl rfl,
  fun l0 l1 l2 l3 x S h => zD_op (ins := .iload 4) (len := 2) (c := (24, [l0, l1, l2, l3, some (.int x)], (.int x :: S), h)) (by decide +kernel) rfl rfl rfl rfl,
  fun l0 l1 l2 l4 x S h => zD_op (ins := .iload_n 3) (len := 1) (c := (25, [l0, l1, l2, some (.int x), l4], (.int x :: S), h)) (by decide +kernel) rfl rfl rfl rfl,
  fun l0 l1 l2 l3 l4 p0 p1 a r h hcat hr hC => zD_callv (i := 55) (y := 52) (n := 2) (as := [.int p0, .int p1]) (ci := 3) (by decide +kernel) (by decide +kernel) rfl (by decide +kernel) (Nat.le_of_ble_eq_true rfl) (by decide +kernel) hcat hr hC,
  fun l0 l2 l3 l4 x S h => zD_op (ins := .aload_n 1) (len := 1) (c := (29, [l0, some (.ref x), l2, l3, l4], (.ref x :: S), h)) (by decide +kernel) rfl rfl rfl rfl,
  fun l0 l2 l3 l4 S h => zD_op (ins := .aload_n 1) (len := 1) (c := (29, [l0, some .null, l2, l3, l4], (.null :: S), h)) (by decide +kernel) rfl rfl rfl rfl,
  fun l0 l1 l2 l3 x S h => zD_op (ins := .iload 4) (len := 2) (c := (31, [l0, l1, l2, l3, some (.int x)], (.int x :: S), h)) (by decide +kernel) rfl rfl rfl rfl,
  fun l0 l1 l2 l4 x S h => zD_op (ins := .iload_n 3) (len := 1) (c := (32, [l0, l1, l2, some (.int x), l4], (.int x :: S), h)) (by decide +kernel) rfl rfl rfl rfl,
  fun l0 l1 l2 l3 l4 p0 p1 a r h hcat hr hC => zD_callv (i := 55) (y := 52) (n := 2) (as := [.int p0, .int p1]) (ci := 3) (by decide +kernel) (by decide +kernel) rfl (by decide +kernel) (Nat.le_of_ble_eq_true rfl) (by decide +kernel) hcat hr hC,
  fun l0 l1 l2 l3 l4 x y r h => zD_if (cnd := .ne) (off := 23) (by decide +kernel) (by decide) rfl,
  fun l1 l2 l3 l4 x S h => zD_op (ins := .aload_n 0) (len := 1) (c := (39, [some (.ref x), l1, l2, l3, l4], (.ref x :: S), h)) (by decide +kernel) rfl rfl rfl rfl,
  fun l0 l1 l2 l4 x S h => zD_op (ins := .iload_n 3) (len := 1) (c := (40, [l0, l1, l2, some (.int x), l4], (.int x :: S), h)) (by decide +kernel) rfl rfl rfl rfl,
  fun l0 l1 l2 l3 x S h => zD_op (ins := .iload 4) (len := 2) (c := (42, [l0, l1, l2, l3, some (.int x)], (.int x :: S), h)) (by decide +kernel) rfl rfl rfl rfl,
  fun l0 l1 l2 l3 l4 p0 p1 a r h hcat hr hC => zD_callv (i := 55) (y := 52) (n := 2) (as := [.int p0, .int p1]) (ci := 3) (by decide +kernel) (by decide +kernel) rfl (by decide +kernel) (Nat.le_of_ble_eq_true rfl) (by decide +kernel) hcat hr hC,
  fun l0 l2 l3 l4 x S h => zD_op (ins := .aload_n 1) (len := 1) (c := (46, [l0, some (.ref x), l2, l3, l4], (.ref x :: S), h)) (by decide +kernel) rfl rfl rfl rfl,
  fun l0 l2 l3 l4 S h => zD_op (ins := .aload_n 1) (len := 1) (c := (46, [l0, some .null, l2, l3, l4], (.null :: S), h)) (by decide +kernel) rfl rfl rfl rfl,
  fun l0 l1 l2 l4 x S h => zD_op (ins := .iload_n 3) (len := 1) (c := (47, [l0, l1, l2, some (.int x), l4], (.int x :: S), h)) (by decide +kernel) rfl rfl rfl rfl,
  fun l0 l1 l2 l3 x S h => zD_op (ins := .iload 4) (len := 2) (c := (49, [l0, l1, l2, l3, some (.int x)], (.int x :: S), h)) (by decide +kernel) rfl rfl rfl rfl,
  fun l0 l1 l2 l3 l4 p0 p1 a r h hcat hr hC => zD_callv (i := 55) (y := 52) (n := 2) (as := [.int p0, .int p1]) (ci := 3) (by decide +kernel) (by decide +kernel) rfl (by decide +kernel) (Nat.le_of_ble_eq_true rfl) (by decide +kernel) hcat hr hC,
  fun l0 l1 l2 l3 l4 x y r h => zD_if (cnd := .ne) (off := 6) (by decide +kernel) (by decide) rfl,
  fun l0 l1 l3 l4 x S h => zD_iinc (k := 2) (x := x) (c := (1 : Int32)) (n := 1) (by decide +kernel) (by decide +kernel) rfl (by decide +kernel) rfl,
  fun l0 l1 l2 l3 x S h => zD_iinc (k := 4) (x := x) (c := (1 : Int32)) (n := 1) (by decide +kernel) (by decide +kernel) rfl (by decide +kernel) rfl,
  fun l0 l1 l2 l3 l4 S h => zD_goto (off := (-46)) (by decide +kernel) (by decide),
  fun l0 l1 l2 l4 x S h => zD_iinc (k := 3) (x := x) (c := (1 : Int32)) (n := 1) (by decide +kernel) (by decide +kernel) rfl (by decide +kernel) rfl,
  fun l0 l1 l2 l3 l4 S h => zD_goto (off := (-63)) (by decide +kernel) (by decide),
  fun l0 l1 l3 l4 x S h => zD_op (ins := .iload_n 2) (len := 1) (c := (71, [l0, l1, some (.int x), l3, l4], (.int x :: S), h)) (by decide +kernel) rfl rfl rfl rfl,
  fun l0 l1 l2 l3 l4 v h => zD_ireti (by decide +kernel) rfl⟩
set_option maxRecDepth 100000 in
theorem E_X3_likePairs_h4 : (∀ (l0 l1 l2 l4 : Option Value) (x : Int32) (S : List Value) (h : zH), zD 97 4 [l0, l1, l2, some (.int x), l4] S h = zD 97 5 [l0, l1, l2, some (.int x), l4] (.int x :: S) h) :=
  fun l0 l1 l2 l4 x S h => zD_op (ins := .iload_n 3) (len := 1) (c := (5, [l0, l1, l2, some (.int x), l4], (.int x :: S), h)) (by decide +kernel) rfl rfl rfl rfl
set_option maxRecDepth 100000 in
theorem E_X3_likePairs_h15 : (∀ (l0 l1 l2 l3 : Option Value) (x : Int32) (S : List Value) (h : zH), zD 97 15 [l0, l1, l2, l3, some (.int x)] S h = zD 97 17 [l0, l1, l2, l3, some (.int x)] (.int x :: S) h) :=
  fun l0 l1 l2 l3 x S h => zD_op (ins := .iload 4) (len := 2) (c := (17, [l0, l1, l2, l3, some (.int x)], (.int x :: S), h)) (by decide +kernel) rfl rfl rfl rfl
set_option maxRecDepth 100000 in
theorem I_X3_likePairs : (∀ (p0 : Nat) (p1 : Nat) (h : zH), zC 97 [.ref p0, .ref p1] h = zD 97 0 [some (.ref p0), some (.ref p1), none, none, none] [] h) :=
  fun p0 p1 h => zC_def rfl
set_option maxRecDepth 100000 in
theorem E_X5_isFit : (∀ (l1 l2 l3 l4 : Option Value) (x : Nat) (S : List Value) (h : zH), zD 98 0 [some (.ref x), l1, l2, l3, l4] S h = zD 98 1 [some (.ref x), l1, l2, l3, l4] (.ref x :: S) h) ∧
  (∀ (l0 l1 l2 l3 l4 : Option Value) (a : Nat) (r : List Value) (h : zH) (hx : zfok (h.2.2 a) 4 4 = true), zD 98 1 [l0, l1, l2, l3, l4] (.ref a :: r) h = zD 98 4 [l0, l1, l2, l3, l4] (zfv (h.2.2 a) 4 :: r) h) ∧
  (∀ (l0 l1 l3 l4 : Option Value) (x : Int32) (S : List Value) (h : zH), zD 98 4 [l0, l1, some (.int x), l3, l4] S h = zD 98 5 [l0, l1, some (.int x), l3, l4] (.int x :: S) h) ∧
  (∀ (l0 l1 l2 l4 : Option Value) (x : Int32) (S : List Value) (h : zH), zD 98 5 [l0, l1, l2, some (.int x), l4] S h = zD 98 6 [l0, l1, l2, some (.int x), l4] (.int x :: S) h) ∧
  (∀ (l0 l1 l2 l3 l4 : Option Value) (w i : Int32) (a : Nat) (r : List Value) (h : zH) (hx : zpok (h.2.2 a) i = true), zD 98 6 [l0, l1, l2, l3, l4] (.int w :: .int i :: .ref a :: r) h = zD 98 7 [l0, l1, l2, l3, l4] r (zw h a (zis' (h.2.2 a) i w))) ∧
  (∀ (l0 l1 l2 l3 l4 : Option Value) (S : List Value) (h : zH), zD 98 7 [l0, l1, l2, l3, l4] S h = zD 98 8 [l0, l1, l2, l3, l4] (.int (0 : Int32) :: S) h) ∧
  (∀ (l0 l1 l2 l3 l4 : Option Value) (x : Int32) (r : List Value) (h : zH), zD 98 8 [l0, l1, l2, l3, l4] (.int x :: r) h = zD 98 10 [l0, l1, l2, zclr l3, some (.int x)] r h) ∧
  (∀ (l1 l2 l3 l4 : Option Value) (x : Nat) (S : List Value) (h : zH), zD 98 12 [some (.ref x), l1, l2, l3, l4] S h = zD 98 13 [some (.ref x), l1, l2, l3, l4] (.ref x :: S) h) ∧
  (∀ (l0 l1 l2 l3 l4 : Option Value) (a : Nat) (r : List Value) (h : zH) (hx : zfok (h.2.2 a) 4 3 = true), zD 98 13 [l0, l1, l2, l3, l4] (.ref a :: r) h = zD 98 16 [l0, l1, l2, l3, l4] (zfv (h.2.2 a) 3 :: r) h) ∧
  (∀ (l0 l1 l2 l3 l4 : Option Value) (x y : Int32) (r : List Value) (h : zH), zD 98 16 [l0, l1, l2, l3, l4] (.int y :: .int x :: r) h = if y ≤ x then zD 98 47 [l0, l1, l2, l3, l4] r h else zD 98 19 [l0, l1, l2, l3, l4] r h) ∧
  (∀ (l1 l2 l3 l4 : Option Value) (x : Nat) (S : List Value) (h : zH), zD 98 19 [some (.ref x), l1, l2, l3, l4] S h = zD 98 20 [some (.ref x), l1, l2, l3, l4] (.ref x :: S) h) ∧
  (∀ (l0 l1 l2 l3 : Option Value) (x : Int32) (S : List Value) (h : zH), zD 98 20 [l0, l1, l2, l3, some (.int x)] S h = zD 98 22 [l0, l1, l2, l3, some (.int x)] (.int x :: S) h) ∧
  (∀ (l0 l1 l2 l3 l4 : Option Value) (p0 : Int32) (a : Nat) (r : List Value) (h : zH) (hcat : zcat r ≤ 8) (hr : zis (h.2.2 a) 4 = true) (hC : (zC 58 (.ref a :: [.int p0]) h).isSome = true), zD 98 22 [l0, l1, l2, l3, l4] (.int p0 :: .ref a :: r) h = zD 98 25 [l0, l1, l2, l3, l4] (zgv (zC 58 (.ref a :: [.int p0]) h) ++ r) (zgh h (zC 58 (.ref a :: [.int p0]) h))) ∧
  (∀ (l0 l1 l3 l4 : Option Value) (x : Int32) (S : List Value) (h : zH), zD 98 25 [l0, l1, some (.int x), l3, l4] S h = zD 98 26 [l0, l1, some (.int x), l3, l4] (.int x :: S) h) ∧
  (∀ (l0 l1 l2 l3 l4 : Option Value) (x y : Int32) (r : List Value) (h : zH), zD 98 26 [l0, l1, l2, l3, l4] (.int y :: .int x :: r) h = if ¬ x = y then zD 98 41 [l0, l1, l2, l3, l4] r h else zD 98 29 [l0, l1, l2, l3, l4] r h) ∧
  (∀ (l1 l2 l3 l4 : Option Value) (x : Nat) (S : List Value) (h : zH), zD 98 29 [some (.ref x), l1, l2, l3, l4] S h = zD 98 30 [some (.ref x), l1, l2, l3, l4] (.ref x :: S) h) ∧
  (∀ (l0 l2 l3 l4 : Option Value) (x : Nat) (S : List Value) (h : zH), zD 98 30 [l0, some (.ref x), l2, l3, l4] S h = zD 98 31 [l0, some (.ref x), l2, l3, l4] (.ref x :: S) h) ∧
  (∀ (l0 l2 l3 l4 : Option Value) (S : List Value) (h : zH), zD 98 30 [l0, some .null, l2, l3, l4] S h = zD 98 31 [l0, some .null, l2, l3, l4] (.null :: S) h) ∧
  (∀ (l0 l1 l2 l3 : Option Value) (x : Int32) (S : List Value) (h : zH), zD 98 31 [l0, l1, l2, l3, some (.int x)] S h = zD 98 33 [l0, l1, l2, l3, some (.int x)] (.int x :: S) h) ∧
  (∀ (l0 l1 l2 l3 l4 : Option Value) (p0 : Nat) (p1 : Int32) (a : Nat) (r : List Value) (h : zH) (hcat : zcat r ≤ 8) (hr : zis (h.2.2 a) 4 = true) (hC : (zC 15 (.ref a :: [.ref p0, .int p1]) h).isSome = true), zD 98 33 [l0, l1, l2, l3, l4] (.int p1 :: .ref p0 :: .ref a :: r) h = zD 98 36 [l0, l1, l2, l3, l4] (zgv (zC 15 (.ref a :: [.ref p0, .int p1]) h) ++ r) (zgh h (zC 15 (.ref a :: [.ref p0, .int p1]) h))) ∧
  (∀ (l0 l1 l2 l3 l4 : Option Value) (x : Int32) (r : List Value) (h : zH), zD 98 36 [l0, l1, l2, l3, l4] (.int x :: r) h = if ¬ x = 0 then zD 98 41 [l0, l1, l2, l3, l4] r h else zD 98 39 [l0, l1, l2, l3, l4] r h) ∧
  (∀ (l0 l1 l2 l3 l4 : Option Value) (S : List Value) (h : zH), zD 98 39 [l0, l1, l2, l3, l4] S h = zD 98 40 [l0, l1, l2, l3, l4] (.int (0 : Int32) :: S) h) ∧
  (∀ (l0 l1 l2 l3 l4 : Option Value) (v : Int32) (h : zH) (hv : zbv v), zD 98 40 [l0, l1, l2, l3, l4] [.int v] h = some (some (.int v), h)) ∧
  (∀ (l0 l1 l2 l3 : Option Value) (x : Int32) (S : List Value) (h : zH), zD 98 41 [l0, l1, l2, l3, some (.int x)] S h = zD 98 44 [l0, l1, l2, zclr l3, some (.int (x + (1 : Int32)))] S h) ∧
  (∀ (l0 l1 l2 l3 l4 : Option Value) (S : List Value) (h : zH), zD 98 44 [l0, l1, l2, l3, l4] S h = zD 98 10 [l0, l1, l2, l3, l4] S h) ∧
  (∀ (l0 l1 l2 l3 l4 : Option Value) (S : List Value) (h : zH), zD 98 47 [l0, l1, l2, l3, l4] S h = zD 98 48 [l0, l1, l2, l3, l4] (.int (1 : Int32) :: S) h) ∧
  (∀ (l0 l1 l2 l3 l4 : Option Value) (v : Int32) (h : zH) (hv : zbv v), zD 98 48 [l0, l1, l2, l3, l4] [.int v] h = some (some (.int v), h)) :=
  ⟨fun l1 l2 l3 l4 x S h => zD_op (ins := .aload_n 0) (len := 1) (c := (1, [some (.ref x), l1, l2, l3, l4], (.ref x :: S), h)) (by decide +kernel) rfl rfl rfl rfl,
  fun l0 l1 l2 l3 l4 a r h hx => zD_getf (i := 21) (ci := 4) (k := 4) (q := (220, 0)) (by decide +kernel) (by decide +kernel) hx,
  fun l0 l1 l3 l4 x S h => zD_op (ins := .iload_n 2) (len := 1) (c := (5, [l0, l1, some (.int x), l3, l4], (.int x :: S), h)) (by decide +kernel) rfl rfl rfl rfl,
  fun l0 l1 l2 l4 x S h => zD_op (ins := .iload_n 3) (len := 1) (c := (6, [l0, l1, l2, some (.int x), l4], (.int x :: S), h)) (by decide +kernel) rfl rfl rfl rfl,
  fun l0 l1 l2 l3 l4 w i a r h hx => zD_iast (by decide +kernel) hx,
  fun l0 l1 l2 l3 l4 S h => zD_icst (n := 0) (by decide +kernel) (by decide +kernel),
  fun l0 l1 l2 l3 l4 x r h => zD_st1 (k := 4) (ins := .istore 4) (len := 2) (by decide +kernel) rfl rfl rfl (by decide +kernel) rfl rfl,
  fun l1 l2 l3 l4 x S h => zD_op (ins := .aload_n 0) (len := 1) (c := (13, [some (.ref x), l1, l2, l3, l4], (.ref x :: S), h)) (by decide +kernel) rfl rfl rfl rfl,
  fun l0 l1 l2 l3 l4 a r h hx => zD_getf (i := 33) (ci := 4) (k := 3) (q := (218, 0)) (by decide +kernel) (by decide +kernel) hx,
  fun l0 l1 l2 l3 l4 x y r h => zD_if (cnd := .ge) (off := 31) (by decide +kernel) (by decide) rfl,
  fun l1 l2 l3 l4 x S h => zD_op (ins := .aload_n 0) (len := 1) (c := (20, [some (.ref x), l1, l2, l3, l4], (.ref x :: S), h)) (by decide +kernel) rfl rfl rfl rfl,
  fun l0 l1 l2 l3 x S h => zD_op (ins := .iload 4) (len := 2) (c := (22, [l0, l1, l2, l3, some (.int x)], (.int x :: S), h)) (by decide +kernel) rfl rfl rfl rfl,
  fun l0 l1 l2 l3 l4 p0 a r h hcat hr hC => zD_callv (i := 70) (y := 58) (n := 1) (as := [.int p0]) (ci := 4) (by decide +kernel) (by decide +kernel) rfl (by decide +kernel) (Nat.le_of_ble_eq_true rfl) (by decide +kernel) hcat hr hC,
  fun l0 l1 l3 l4 x S h => zD_op (ins := .iload_n 2) (len := 1) (c := (26, [l0, l1, some (.int x), l3, l4], (.int x :: S), h)) (by decide +kernel) rfl rfl rfl rfl,
  fun l0 l1 l2 l3 l4 x y r h => zD_if (cnd := .ne) (off := 15) (by decide +kernel) (by decide) rfl,
  fun l1 l2 l3 l4 x S h => zD_op (ins := .aload_n 0) (len := 1) (c := (30, [some (.ref x), l1, l2, l3, l4], (.ref x :: S), h)) (by decide +kernel) rfl rfl rfl rfl,
  fun l0 l2 l3 l4 x S h => zD_op (ins := .aload_n 1) (len := 1) (c := (31, [l0, some (.ref x), l2, l3, l4], (.ref x :: S), h)) (by decide +kernel) rfl rfl rfl rfl,
  fun l0 l2 l3 l4 S h => zD_op (ins := .aload_n 1) (len := 1) (c := (31, [l0, some .null, l2, l3, l4], (.null :: S), h)) (by decide +kernel) rfl rfl rfl rfl,
  fun l0 l1 l2 l3 x S h => zD_op (ins := .iload 4) (len := 2) (c := (33, [l0, l1, l2, l3, some (.int x)], (.int x :: S), h)) (by decide +kernel) rfl rfl rfl rfl,
  fun l0 l1 l2 l3 l4 p0 p1 a r h hcat hr hC => zD_callv (i := 73) (y := 15) (n := 2) (as := [.ref p0, .int p1]) (ci := 4) (by decide +kernel) (by decide +kernel) rfl (by decide +kernel) (Nat.le_of_ble_eq_true rfl) (by decide +kernel) hcat hr hC,
  fun l0 l1 l2 l3 l4 x r h => zD_if0 (cnd := .ne) (off := 5) (by decide +kernel) (by decide) rfl,
  fun l0 l1 l2 l3 l4 S h => zD_icst (n := 0) (by decide +kernel) (by decide +kernel),
  fun l0 l1 l2 l3 l4 v h hv => zD_iretz (by decide +kernel) rfl hv,
  fun l0 l1 l2 l3 x S h => zD_iinc (k := 4) (x := x) (c := (1 : Int32)) (n := 1) (by decide +kernel) (by decide +kernel) rfl (by decide +kernel) rfl,
  fun l0 l1 l2 l3 l4 S h => zD_goto (off := (-34)) (by decide +kernel) (by decide),
  fun l0 l1 l2 l3 l4 S h => zD_icst (n := 1) (by decide +kernel) (by decide +kernel),
  fun l0 l1 l2 l3 l4 v h hv => zD_iretz (by decide +kernel) rfl hv⟩
set_option maxRecDepth 100000 in
theorem E_X5_isFit_h10 : (∀ (l0 l1 l2 l3 : Option Value) (x : Int32) (S : List Value) (h : zH), zD 98 10 [l0, l1, l2, l3, some (.int x)] S h = zD 98 12 [l0, l1, l2, l3, some (.int x)] (.int x :: S) h) :=
  fun l0 l1 l2 l3 x S h => zD_op (ins := .iload 4) (len := 2) (c := (12, [l0, l1, l2, l3, some (.int x)], (.int x :: S), h)) (by decide +kernel) rfl rfl rfl rfl
set_option maxRecDepth 100000 in
theorem I_X5_isFit : (∀ (a : Nat) (p0 : Nat) (p1 : Int32) (p2 : Int32) (h : zH), zC 98 [.ref a, .ref p0, .int p1, .int p2] h = zD 98 0 [some (.ref a), some (.ref p0), some (.int p1), some (.int p2), none] [] h) :=
  fun a p0 p1 p2 h => zC_def rfl
set_option maxRecDepth 100000 in
theorem E_X6_waysToSpread : (∀ (l0 l1 l2 l3 l4 l5 l6 l7 : Option Value) (S : List Value) (h : zH), zD 99 0 [l0, l1, l2, l3, l4, l5, l6, l7] S h = zD 99 1 [l0, l1, l2, l3, l4, l5, l6, l7] (.long (0 : Int64) :: S) h) ∧
  (∀ (l0 l1 l2 l3 l4 l5 l6 l7 : Option Value) (x : Int64) (r : List Value) (h : zH), zD 99 1 [l0, l1, l2, l3, l4, l5, l6, l7] (.long x :: r) h = zD 99 3 [l0, l1, l2, zclr l3, some (.long x), none, l6, l7] r h) ∧
  (∀ (l0 l1 l2 l3 l4 l5 l6 l7 : Option Value) (S : List Value) (h : zH), zD 99 3 [l0, l1, l2, l3, l4, l5, l6, l7] S h = zD 99 4 [l0, l1, l2, l3, l4, l5, l6, l7] (.int (1 : Int32) :: S) h) ∧
  (∀ (l0 l1 l2 l3 l4 l5 l6 l7 : Option Value) (x : Int32) (r : List Value) (h : zH), zD 99 4 [l0, l1, l2, l3, l4, l5, l6, l7] (.int x :: r) h = zD 99 6 [l0, l1, l2, l3, l4, zclr l5, some (.int x), l7] r h) ∧
  (∀ (l0 l1 l2 l4 l5 l6 l7 : Option Value) (x : Int32) (S : List Value) (h : zH), zD 99 8 [l0, l1, l2, some (.int x), l4, l5, l6, l7] S h = zD 99 9 [l0, l1, l2, some (.int x), l4, l5, l6, l7] (.int x :: S) h) ∧
  (∀ (l0 l1 l3 l4 l5 l6 l7 : Option Value) (x : Int32) (S : List Value) (h : zH), zD 99 9 [l0, l1, some (.int x), l3, l4, l5, l6, l7] S h = zD 99 10 [l0, l1, some (.int x), l3, l4, l5, l6, l7] (.int x :: S) h) ∧
  (∀ (l0 l1 l2 l3 l4 l5 l6 l7 : Option Value) (x y : Int32) (r : List Value) (h : zH), zD 99 10 [l0, l1, l2, l3, l4, l5, l6, l7] (.int y :: .int x :: r) h = zD 99 11 [l0, l1, l2, l3, l4, l5, l6, l7] (.int (x - y) :: r) h) ∧
  (∀ (l0 l1 l2 l3 l4 l5 l6 l7 : Option Value) (x : Int32) (r : List Value) (h : zH) (hcat : zcat r ≤ 8), zD 99 11 [l0, l1, l2, l3, l4, l5, l6, l7] (.int x :: r) h = zD 99 14 [l0, l1, l2, l3, l4, l5, l6, l7] (.int (if 0 ≤ x then x else 0 - x) :: r) h) ∧
  (∀ (l0 l1 l2 l3 l4 l5 l6 l7 : Option Value) (x y : Int32) (r : List Value) (h : zH), zD 99 14 [l0, l1, l2, l3, l4, l5, l6, l7] (.int y :: .int x :: r) h = if y < x then zD 99 70 [l0, l1, l2, l3, l4, l5, l6, l7] r h else zD 99 17 [l0, l1, l2, l3, l4, l5, l6, l7] r h) ∧
  (∀ (l0 l1 l3 l4 l5 l6 l7 : Option Value) (x : Int32) (S : List Value) (h : zH), zD 99 17 [l0, l1, some (.int x), l3, l4, l5, l6, l7] S h = zD 99 18 [l0, l1, some (.int x), l3, l4, l5, l6, l7] (.int x :: S) h) ∧
  (∀ (l0 l1 l2 l4 l5 l6 l7 : Option Value) (x : Int32) (S : List Value) (h : zH), zD 99 18 [l0, l1, l2, some (.int x), l4, l5, l6, l7] S h = zD 99 19 [l0, l1, l2, some (.int x), l4, l5, l6, l7] (.int x :: S) h) ∧
  (∀ (l0 l1 l2 l3 l4 l5 l7 : Option Value) (x : Int32) (S : List Value) (h : zH), zD 99 19 [l0, l1, l2, l3, l4, l5, some (.int x), l7] S h = zD 99 21 [l0, l1, l2, l3, l4, l5, some (.int x), l7] (.int x :: S) h) ∧
  (∀ (l0 l1 l2 l3 l4 l5 l6 l7 : Option Value) (p0 : Int32) (p1 : Int32) (p2 : Int32) (r : List Value) (h : zH) (hcat : zcat r ≤ 8) (hC : (zC 16 [.int p0, .int p1, .int p2] h).isSome = true), zD 99 21 [l0, l1, l2, l3, l4, l5, l6, l7] (.int p2 :: .int p1 :: .int p0 :: r) h = zD 99 24 [l0, l1, l2, l3, l4, l5, l6, l7] (zgv (zC 16 [.int p0, .int p1, .int p2] h) ++ r) (zgh h (zC 16 [.int p0, .int p1, .int p2] h))) ∧
  (∀ (l0 l1 l2 l3 l4 l5 l6 l7 : Option Value) (x : Int32) (r : List Value) (h : zH), zD 99 24 [l0, l1, l2, l3, l4, l5, l6, l7] (.int x :: r) h = zD 99 26 [l0, l1, l2, l3, l4, l5, zclr l6, some (.int x)] r h) ∧
  (∀ (l0 l2 l3 l4 l5 l6 l7 : Option Value) (x : Nat) (S : List Value) (h : zH), zD 99 26 [l0, some (.ref x), l2, l3, l4, l5, l6, l7] S h = zD 99 27 [l0, some (.ref x), l2, l3, l4, l5, l6, l7] (.ref x :: S) h) ∧
  (∀ (l0 l2 l3 l4 l5 l6 l7 : Option Value) (S : List Value) (h : zH), zD 99 26 [l0, some .null, l2, l3, l4, l5, l6, l7] S h = zD 99 27 [l0, some .null, l2, l3, l4, l5, l6, l7] (.null :: S) h) ∧
  (∀ (l0 l1 l3 l4 l5 l6 l7 : Option Value) (x : Int32) (S : List Value) (h : zH), zD 99 27 [l0, l1, some (.int x), l3, l4, l5, l6, l7] S h = zD 99 28 [l0, l1, some (.int x), l3, l4, l5, l6, l7] (.int x :: S) h) ∧
  (∀ (l0 l1 l2 l3 l4 l5 l6 : Option Value) (x : Int32) (S : List Value) (h : zH), zD 99 28 [l0, l1, l2, l3, l4, l5, l6, some (.int x)] S h = zD 99 30 [l0, l1, l2, l3, l4, l5, l6, some (.int x)] (.int x :: S) h) ∧
  (∀ (l0 l1 l2 l3 l4 l5 l6 l7 : Option Value) (p0 : Int32) (p1 : Int32) (a : Nat) (r : List Value) (h : zH) (hcat : zcat r ≤ 8) (hr : zis (h.2.2 a) 2 = true) (hC : (zC 48 (.ref a :: [.int p0, .int p1]) h).isSome = true), zD 99 30 [l0, l1, l2, l3, l4, l5, l6, l7] (.int p1 :: .int p0 :: .ref a :: r) h = zD 99 33 [l0, l1, l2, l3, l4, l5, l6, l7] (zgv (zC 48 (.ref a :: [.int p0, .int p1]) h) ++ r) (zgh h (zC 48 (.ref a :: [.int p0, .int p1]) h))) ∧
  (∀ (l0 l1 l2 l3 l4 l5 l6 l7 : Option Value) (x : Int32) (r : List Value) (h : zH), zD 99 33 [l0, l1, l2, l3, l4, l5, l6, l7] (.int x :: r) h = if x = 0 then zD 99 64 [l0, l1, l2, l3, l4, l5, l6, l7] r h else zD 99 36 [l0, l1, l2, l3, l4, l5, l6, l7] r h) ∧
  (∀ (l0 l1 l2 l3 l5 l6 l7 : Option Value) (x : Int64) (S : List Value) (h : zH), zD 99 36 [l0, l1, l2, l3, some (.long x), l5, l6, l7] S h = zD 99 38 [l0, l1, l2, l3, some (.long x), l5, l6, l7] (.long x :: S) h) ∧
  (∀ (l1 l2 l3 l4 l5 l6 l7 : Option Value) (x : Nat) (S : List Value) (h : zH), zD 99 38 [some (.ref x), l1, l2, l3, l4, l5, l6, l7] S h = zD 99 39 [some (.ref x), l1, l2, l3, l4, l5, l6, l7] (.ref x :: S) h) ∧
  (∀ (l0 l1 l2 l3 l4 l5 l6 l7 : Option Value) (a : Nat) (r : List Value) (h : zH) (hx : zfok (h.2.2 a) 5 2 = true), zD 99 39 [l0, l1, l2, l3, l4, l5, l6, l7] (.ref a :: r) h = zD 99 42 [l0, l1, l2, l3, l4, l5, l6, l7] (zfv (h.2.2 a) 2 :: r) h) ∧
  (∀ (l0 l1 l3 l4 l5 l6 l7 : Option Value) (x : Int32) (S : List Value) (h : zH), zD 99 42 [l0, l1, some (.int x), l3, l4, l5, l6, l7] S h = zD 99 43 [l0, l1, some (.int x), l3, l4, l5, l6, l7] (.int x :: S) h) ∧
  (∀ (l0 l1 l2 l3 l4 l5 l6 : Option Value) (x : Int32) (S : List Value) (h : zH), zD 99 43 [l0, l1, l2, l3, l4, l5, l6, some (.int x)] S h = zD 99 45 [l0, l1, l2, l3, l4, l5, l6, some (.int x)] (.int x :: S) h) ∧
  (∀ (l0 l1 l2 l3 l4 l5 l6 l7 : Option Value) (p0 : Int32) (p1 : Int32) (r : List Value) (h : zH) (hcat : zcat r ≤ 8) (hC : (zC 62 [.int p0, .int p1] h).isSome = true), zD 99 45 [l0, l1, l2, l3, l4, l5, l6, l7] (.int p1 :: .int p0 :: r) h = zD 99 48 [l0, l1, l2, l3, l4, l5, l6, l7] (zgv (zC 62 [.int p0, .int p1] h) ++ r) (zgh h (zC 62 [.int p0, .int p1] h))) ∧
  (∀ (l0 l1 l2 l3 l4 l5 l6 l7 : Option Value) (i : Int32) (a : Nat) (r : List Value) (h : zH) (hx : zlok (h.2.2 a) i = true), zD 99 48 [l0, l1, l2, l3, l4, l5, l6, l7] (.int i :: .ref a :: r) h = zD 99 49 [l0, l1, l2, l3, l4, l5, l6, l7] (.long (zlv' (h.2.2 a) i) :: r) h) ∧
  (∀ (l1 l2 l3 l4 l5 l6 l7 : Option Value) (x : Nat) (S : List Value) (h : zH), zD 99 49 [some (.ref x), l1, l2, l3, l4, l5, l6, l7] S h = zD 99 50 [some (.ref x), l1, l2, l3, l4, l5, l6, l7] (.ref x :: S) h) ∧
  (∀ (l0 l1 l2 l3 l4 l5 l6 l7 : Option Value) (a : Nat) (r : List Value) (h : zH) (hx : zfok (h.2.2 a) 5 1 = true), zD 99 50 [l0, l1, l2, l3, l4, l5, l6, l7] (.ref a :: r) h = zD 99 53 [l0, l1, l2, l3, l4, l5, l6, l7] (zfv (h.2.2 a) 1 :: r) h) ∧
  (∀ (l0 l1 l2 l3 l4 l5 l6 : Option Value) (x : Int32) (S : List Value) (h : zH), zD 99 53 [l0, l1, l2, l3, l4, l5, l6, some (.int x)] S h = zD 99 55 [l0, l1, l2, l3, l4, l5, l6, some (.int x)] (.int x :: S) h) ∧
  (∀ (l0 l1 l2 l4 l5 l6 l7 : Option Value) (x : Int32) (S : List Value) (h : zH), zD 99 55 [l0, l1, l2, some (.int x), l4, l5, l6, l7] S h = zD 99 56 [l0, l1, l2, some (.int x), l4, l5, l6, l7] (.int x :: S) h) ∧
  (∀ (l0 l1 l2 l3 l4 l5 l6 l7 : Option Value) (p0 : Int32) (p1 : Int32) (r : List Value) (h : zH) (hcat : zcat r ≤ 8) (hC : (zC 17 [.int p0, .int p1] h).isSome = true), zD 99 56 [l0, l1, l2, l3, l4, l5, l6, l7] (.int p1 :: .int p0 :: r) h = zD 99 59 [l0, l1, l2, l3, l4, l5, l6, l7] (zgv (zC 17 [.int p0, .int p1] h) ++ r) (zgh h (zC 17 [.int p0, .int p1] h))) ∧
  (∀ (l0 l1 l2 l3 l4 l5 l6 l7 : Option Value) (i : Int32) (a : Nat) (r : List Value) (h : zH) (hx : zlok (h.2.2 a) i = true), zD 99 59 [l0, l1, l2, l3, l4, l5, l6, l7] (.int i :: .ref a :: r) h = zD 99 60 [l0, l1, l2, l3, l4, l5, l6, l7] (.long (zlv' (h.2.2 a) i) :: r) h) ∧
  (∀ (l0 l1 l2 l3 l4 l5 l6 l7 : Option Value) (x y : Int64) (r : List Value) (h : zH), zD 99 60 [l0, l1, l2, l3, l4, l5, l6, l7] (.long y :: .long x :: r) h = zD 99 61 [l0, l1, l2, l3, l4, l5, l6, l7] (.long (x * y) :: r) h) ∧
  (∀ (l0 l1 l2 l3 l4 l5 l6 l7 : Option Value) (x y : Int64) (r : List Value) (h : zH), zD 99 61 [l0, l1, l2, l3, l4, l5, l6, l7] (.long y :: .long x :: r) h = zD 99 62 [l0, l1, l2, l3, l4, l5, l6, l7] (.long (x + y) :: r) h) ∧
  (∀ (l0 l1 l2 l3 l4 l5 l6 l7 : Option Value) (x : Int64) (r : List Value) (h : zH), zD 99 62 [l0, l1, l2, l3, l4, l5, l6, l7] (.long x :: r) h = zD 99 64 [l0, l1, l2, zclr l3, some (.long x), none, l6, l7] r h) ∧
  (∀ (l0 l1 l2 l3 l4 l5 l7 : Option Value) (x : Int32) (S : List Value) (h : zH), zD 99 64 [l0, l1, l2, l3, l4, l5, some (.int x), l7] S h = zD 99 67 [l0, l1, l2, l3, l4, zclr l5, some (.int (x + (1 : Int32))), l7] S h) ∧
  (∀ (l0 l1 l2 l3 l4 l5 l6 l7 : Option Value) (S : List Value) (h : zH), zD 99 67 [l0, l1, l2, l3, l4, l5, l6, l7] S h = zD 99 6 [l0, l1, l2, l3, l4, l5, l6, l7] S h) ∧
  (∀ (l0 l1 l2 l3 l5 l6 l7 : Option Value) (x : Int64) (S : List Value) (h : zH), zD 99 70 [l0, l1, l2, l3, some (.long x), l5, l6, l7] S h = zD 99 72 [l0, l1, l2, l3, some (.long x), l5, l6, l7] (.long x :: S) h) ∧
  (∀ (l0 l1 l2 l3 l4 l5 l6 l7 : Option Value) (v : Int64) (h : zH), zD 99 72 [l0, l1, l2, l3, l4, l5, l6, l7] [.long v] h = some (some (.long v), h)) :=
  ⟨fun l0 l1 l2 l3 l4 l5 l6 l7 S h => zD_op (ins := .lconst 0) (len := 1) (c := (1, [l0, l1, l2, l3, l4, l5, l6, l7], (.long (0 : Int64) :: S), h)) (by decide +kernel) rfl rfl rfl rfl,
  fun l0 l1 l2 l3 l4 l5 l6 l7 x r h => zD_st2 (k := 4) (ins := .lstore 4) (len := 2) (by decide +kernel) rfl rfl rfl (by decide +kernel) rfl rfl,
  fun l0 l1 l2 l3 l4 l5 l6 l7 S h => zD_icst (n := 1) (by decide +kernel) (by decide +kernel),
  fun l0 l1 l2 l3 l4 l5 l6 l7 x r h => zD_st1 (k := 6) (ins := .istore 6) (len := 2) (by decide +kernel) rfl rfl rfl (by decide +kernel) rfl rfl,
  fun l0 l1 l2 l4 l5 l6 l7 x S h => zD_op (ins := .iload_n 3) (len := 1) (c := (9, [l0, l1, l2, some (.int x), l4, l5, l6, l7], (.int x :: S), h)) (by decide +kernel) rfl rfl rfl rfl,
  fun l0 l1 l3 l4 l5 l6 l7 x S h => zD_op (ins := .iload_n 2) (len := 1) (c := (10, [l0, l1, some (.int x), l3, l4, l5, l6, l7], (.int x :: S), h)) (by decide +kernel) rfl rfl rfl rfl,
  fun l0 l1 l2 l3 l4 l5 l6 l7 x y r h => zD_op (ins := .isub) (len := 1) (c := (11, [l0, l1, l2, l3, l4, l5, l6, l7], (.int (x - y) :: r), h)) (by decide +kernel) rfl rfl rfl rfl,
  fun l0 l1 l2 l3 l4 l5 l6 l7 x r h hcat => zD_abs (i := 50) (q := 467) (by decide +kernel) (by decide +kernel) (by decide +kernel) (by decide +kernel) hcat,
  fun l0 l1 l2 l3 l4 l5 l6 l7 x y r h => zD_if (cnd := .gt) (off := 56) (by decide +kernel) (by decide) rfl,
  fun l0 l1 l3 l4 l5 l6 l7 x S h => zD_op (ins := .iload_n 2) (len := 1) (c := (18, [l0, l1, some (.int x), l3, l4, l5, l6, l7], (.int x :: S), h)) (by decide +kernel) rfl rfl rfl rfl,
  fun l0 l1 l2 l4 l5 l6 l7 x S h => zD_op (ins := .iload_n 3) (len := 1) (c := (19, [l0, l1, l2, some (.int x), l4, l5, l6, l7], (.int x :: S), h)) (by decide +kernel) rfl rfl rfl rfl,
  fun l0 l1 l2 l3 l4 l5 l7 x S h => zD_op (ins := .iload 6) (len := 2) (c := (21, [l0, l1, l2, l3, l4, l5, some (.int x), l7], (.int x :: S), h)) (by decide +kernel) rfl rfl rfl rfl,
  fun l0 l1 l2 l3 l4 l5 l6 l7 p0 p1 p2 r h hcat hC => zD_calls (i := 56) (y := 16) (n := 3) (as := [.int p0, .int p1, .int p2]) (by decide +kernel) (by decide +kernel) rfl (by decide +kernel) (Nat.le_of_ble_eq_true rfl) hcat hC,
  fun l0 l1 l2 l3 l4 l5 l6 l7 x r h => zD_st1 (k := 7) (ins := .istore 7) (len := 2) (by decide +kernel) rfl rfl rfl (by decide +kernel) rfl rfl,
  fun l0 l2 l3 l4 l5 l6 l7 x S h => zD_op (ins := .aload_n 1) (len := 1) (c := (27, [l0, some (.ref x), l2, l3, l4, l5, l6, l7], (.ref x :: S), h)) (by decide +kernel) rfl rfl rfl rfl,
  fun l0 l2 l3 l4 l5 l6 l7 S h => zD_op (ins := .aload_n 1) (len := 1) (c := (27, [l0, some .null, l2, l3, l4, l5, l6, l7], (.null :: S), h)) (by decide +kernel) rfl rfl rfl rfl,
  fun l0 l1 l3 l4 l5 l6 l7 x S h => zD_op (ins := .iload_n 2) (len := 1) (c := (28, [l0, l1, some (.int x), l3, l4, l5, l6, l7], (.int x :: S), h)) (by decide +kernel) rfl rfl rfl rfl,
  fun l0 l1 l2 l3 l4 l5 l6 x S h => zD_op (ins := .iload 7) (len := 2) (c := (30, [l0, l1, l2, l3, l4, l5, l6, some (.int x)], (.int x :: S), h)) (by decide +kernel) rfl rfl rfl rfl,
  fun l0 l1 l2 l3 l4 l5 l6 l7 p0 p1 a r h hcat hr hC => zD_callv (i := 60) (y := 48) (n := 2) (as := [.int p0, .int p1]) (ci := 2) (by decide +kernel) (by decide +kernel) rfl (by decide +kernel) (Nat.le_of_ble_eq_true rfl) (by decide +kernel) hcat hr hC,
  fun l0 l1 l2 l3 l4 l5 l6 l7 x r h => zD_if0 (cnd := .eq) (off := 31) (by decide +kernel) (by decide) rfl,
  fun l0 l1 l2 l3 l5 l6 l7 x S h => zD_op (ins := .lload 4) (len := 2) (c := (38, [l0, l1, l2, l3, some (.long x), l5, l6, l7], (.long x :: S), h)) (by decide +kernel) rfl rfl rfl rfl,
  fun l1 l2 l3 l4 l5 l6 l7 x S h => zD_op (ins := .aload_n 0) (len := 1) (c := (39, [some (.ref x), l1, l2, l3, l4, l5, l6, l7], (.ref x :: S), h)) (by decide +kernel) rfl rfl rfl rfl,
  fun l0 l1 l2 l3 l4 l5 l6 l7 a r h hx => zD_getf (i := 19) (ci := 5) (k := 2) (q := (168, 0)) (by decide +kernel) (by decide +kernel) hx,
  fun l0 l1 l3 l4 l5 l6 l7 x S h => zD_op (ins := .iload_n 2) (len := 1) (c := (43, [l0, l1, some (.int x), l3, l4, l5, l6, l7], (.int x :: S), h)) (by decide +kernel) rfl rfl rfl rfl,
  fun l0 l1 l2 l3 l4 l5 l6 x S h => zD_op (ins := .iload 7) (len := 2) (c := (45, [l0, l1, l2, l3, l4, l5, l6, some (.int x)], (.int x :: S), h)) (by decide +kernel) rfl rfl rfl rfl,
  fun l0 l1 l2 l3 l4 l5 l6 l7 p0 p1 r h hcat hC => zD_calls (i := 74) (y := 62) (n := 2) (as := [.int p0, .int p1]) (by decide +kernel) (by decide +kernel) rfl (by decide +kernel) (Nat.le_of_ble_eq_true rfl) hcat hC,
  fun l0 l1 l2 l3 l4 l5 l6 l7 i a r h hx => zD_lald (by decide +kernel) hx,
  fun l1 l2 l3 l4 l5 l6 l7 x S h => zD_op (ins := .aload_n 0) (len := 1) (c := (50, [some (.ref x), l1, l2, l3, l4, l5, l6, l7], (.ref x :: S), h)) (by decide +kernel) rfl rfl rfl rfl,
  fun l0 l1 l2 l3 l4 l5 l6 l7 a r h hx => zD_getf (i := 15) (ci := 5) (k := 1) (q := (167, 0)) (by decide +kernel) (by decide +kernel) hx,
  fun l0 l1 l2 l3 l4 l5 l6 x S h => zD_op (ins := .iload 7) (len := 2) (c := (55, [l0, l1, l2, l3, l4, l5, l6, some (.int x)], (.int x :: S), h)) (by decide +kernel) rfl rfl rfl rfl,
  fun l0 l1 l2 l4 l5 l6 l7 x S h => zD_op (ins := .iload_n 3) (len := 1) (c := (56, [l0, l1, l2, some (.int x), l4, l5, l6, l7], (.int x :: S), h)) (by decide +kernel) rfl rfl rfl rfl,
  fun l0 l1 l2 l3 l4 l5 l6 l7 p0 p1 r h hcat hC => zD_calls (i := 70) (y := 17) (n := 2) (as := [.int p0, .int p1]) (by decide +kernel) (by decide +kernel) rfl (by decide +kernel) (Nat.le_of_ble_eq_true rfl) hcat hC,
  fun l0 l1 l2 l3 l4 l5 l6 l7 i a r h hx => zD_lald (by decide +kernel) hx,
  fun l0 l1 l2 l3 l4 l5 l6 l7 x y r h => zD_op (ins := .lmul) (len := 1) (c := (61, [l0, l1, l2, l3, l4, l5, l6, l7], (.long (x * y) :: r), h)) (by decide +kernel) rfl rfl rfl rfl,
  fun l0 l1 l2 l3 l4 l5 l6 l7 x y r h => zD_op (ins := .ladd) (len := 1) (c := (62, [l0, l1, l2, l3, l4, l5, l6, l7], (.long (x + y) :: r), h)) (by decide +kernel) rfl rfl rfl rfl,
  fun l0 l1 l2 l3 l4 l5 l6 l7 x r h => zD_st2 (k := 4) (ins := .lstore 4) (len := 2) (by decide +kernel) rfl rfl rfl (by decide +kernel) rfl rfl,
  fun l0 l1 l2 l3 l4 l5 l7 x S h => zD_iinc (k := 6) (x := x) (c := (1 : Int32)) (n := 1) (by decide +kernel) (by decide +kernel) rfl (by decide +kernel) rfl,
  fun l0 l1 l2 l3 l4 l5 l6 l7 S h => zD_goto (off := (-61)) (by decide +kernel) (by decide),
  fun l0 l1 l2 l3 l5 l6 l7 x S h => zD_op (ins := .lload 4) (len := 2) (c := (72, [l0, l1, l2, l3, some (.long x), l5, l6, l7], (.long x :: S), h)) (by decide +kernel) rfl rfl rfl rfl,
  fun l0 l1 l2 l3 l4 l5 l6 l7 v h => zD_lret (by decide +kernel) rfl⟩
set_option maxRecDepth 100000 in
theorem E_X6_waysToSpread_h6 : (∀ (l0 l1 l2 l3 l4 l5 l7 : Option Value) (x : Int32) (S : List Value) (h : zH), zD 99 6 [l0, l1, l2, l3, l4, l5, some (.int x), l7] S h = zD 99 8 [l0, l1, l2, l3, l4, l5, some (.int x), l7] (.int x :: S) h) :=
  fun l0 l1 l2 l3 l4 l5 l7 x S h => zD_op (ins := .iload 6) (len := 2) (c := (8, [l0, l1, l2, l3, l4, l5, some (.int x), l7], (.int x :: S), h)) (by decide +kernel) rfl rfl rfl rfl
set_option maxRecDepth 100000 in
theorem I_X6_waysToSpread : (∀ (a : Nat) (p0 : Nat) (p1 : Int32) (p2 : Int32) (h : zH), zC 99 [.ref a, .ref p0, .int p1, .int p2] h = zD 99 0 [some (.ref a), some (.ref p0), some (.int p1), some (.int p2), none, none, none, none] [] h) :=
  fun a p0 p1 p2 h => zC_def rfl
set_option maxRecDepth 100000 in
theorem E_X6_meeting : (∀ (l1 l2 : Option Value) (x : Nat) (S : List Value) (h : zH), zD 100 0 [some (.ref x), l1, l2] S h = zD 100 1 [some (.ref x), l1, l2] (.ref x :: S) h) ∧
  (∀ (l0 l1 l2 : Option Value) (a : Nat) (r : List Value) (h : zH) (hx : zfok (h.2.2 a) 5 0 = true), zD 100 1 [l0, l1, l2] (.ref a :: r) h = zD 100 4 [l0, l1, l2] (zfv (h.2.2 a) 0 :: r) h) ∧
  (∀ (l0 l1 l2 : Option Value) (S : List Value) (h : zH), zD 100 4 [l0, l1, l2] S h = zD 100 6 [l0, l1, l2] (.int (64 : Int32) :: S) h) ∧
  (∀ (l0 l2 : Option Value) (x : Int32) (S : List Value) (h : zH), zD 100 6 [l0, some (.int x), l2] S h = zD 100 7 [l0, some (.int x), l2] (.int x :: S) h) ∧
  (∀ (l0 l1 : Option Value) (x : Int32) (S : List Value) (h : zH), zD 100 7 [l0, l1, some (.int x)] S h = zD 100 8 [l0, l1, some (.int x)] (.int x :: S) h) ∧
  (∀ (l0 l1 l2 : Option Value) (p0 : Int32) (p1 : Int32) (r : List Value) (h : zH) (hcat : zcat r ≤ 8) (hC : (zC 62 [.int p0, .int p1] h).isSome = true), zD 100 8 [l0, l1, l2] (.int p1 :: .int p0 :: r) h = zD 100 11 [l0, l1, l2] (zgv (zC 62 [.int p0, .int p1] h) ++ r) (zgh h (zC 62 [.int p0, .int p1] h))) ∧
  (∀ (l0 l1 l2 : Option Value) (x y : Int32) (r : List Value) (h : zH), zD 100 11 [l0, l1, l2] (.int y :: .int x :: r) h = zD 100 12 [l0, l1, l2] (.int (x + y) :: r) h) ∧
  (∀ (l0 l1 l2 : Option Value) (i : Int32) (a : Nat) (r : List Value) (h : zH) (hx : zrok (h.2.2 a) i = true), zD 100 12 [l0, l1, l2] (.int i :: .ref a :: r) h = zD 100 13 [l0, l1, l2] (zrv' (h.2.2 a) i :: r) h) ∧
  (∀ (l0 l1 l2 : Option Value) (v : Nat) (h : zH), zD 100 13 [l0, l1, l2] [.ref v] h = some (some (.ref v), h)) ∧
  (∀ (l0 l1 l2 : Option Value) (h : zH), zD 100 13 [l0, l1, l2] [.null] h = some (some .null, h)) :=
  ⟨fun l1 l2 x S h => zD_op (ins := .aload_n 0) (len := 1) (c := (1, [some (.ref x), l1, l2], (.ref x :: S), h)) (by decide +kernel) rfl rfl rfl rfl,
  fun l0 l1 l2 a r h hx => zD_getf (i := 9) (ci := 5) (k := 0) (q := (166, 0)) (by decide +kernel) (by decide +kernel) hx,
  fun l0 l1 l2 S h => zD_bip (n := 64) (by decide +kernel) (by decide +kernel),
  fun l0 l2 x S h => zD_op (ins := .iload_n 1) (len := 1) (c := (7, [l0, some (.int x), l2], (.int x :: S), h)) (by decide +kernel) rfl rfl rfl rfl,
  fun l0 l1 x S h => zD_op (ins := .iload_n 2) (len := 1) (c := (8, [l0, l1, some (.int x)], (.int x :: S), h)) (by decide +kernel) rfl rfl rfl rfl,
  fun l0 l1 l2 p0 p1 r h hcat hC => zD_calls (i := 74) (y := 62) (n := 2) (as := [.int p0, .int p1]) (by decide +kernel) (by decide +kernel) rfl (by decide +kernel) (Nat.le_of_ble_eq_true rfl) hcat hC,
  fun l0 l1 l2 x y r h => zD_op (ins := .iadd) (len := 1) (c := (12, [l0, l1, l2], (.int (x + y) :: r), h)) (by decide +kernel) rfl rfl rfl rfl,
  fun l0 l1 l2 i a r h hx => zD_aald (by decide +kernel) hx,
  fun l0 l1 l2 v h => zD_aret (by decide +kernel) rfl,
  fun l0 l1 l2 h => zD_aretn (by decide +kernel) rfl⟩
set_option maxRecDepth 100000 in
theorem I_X6_meeting : (∀ (a : Nat) (p0 : Int32) (p1 : Int32) (h : zH), zC 100 [.ref a, .int p0, .int p1] h = zD 100 0 [some (.ref a), some (.int p0), some (.int p1)] [] h) :=
  fun a p0 p1 h => zC_def rfl
set_option maxRecDepth 100000 in
theorem E_X8_init : (∀ (x : Nat) (S : List Value) (h : zH), zD 101 0 [some (.ref x)] S h = zD 101 1 [some (.ref x)] (.ref x :: S) h) ∧
  (∀ (l0 : Option Value) (a : Nat) (r : List Value) (h : zH) (hcat : zcat r ≤ 8), zD 101 1 [l0] (.ref a :: r) h = zD 101 4 [l0] r h) ∧
  (∀ (x : Nat) (S : List Value) (h : zH), zD 101 4 [some (.ref x)] S h = zD 101 5 [some (.ref x)] (.ref x :: S) h) ∧
  (∀ (l0 : Option Value) (S : List Value) (h : zH), zD 101 5 [l0] S h = zD 101 7 [l0] (.int (31 : Int32) :: S) h) ∧
  (∀ (l0 : Option Value) (n : Int32) (r : List Value) (h : zH) (hx : znok n = true), zD 101 7 [l0] (.int n :: r) h = zD 101 9 [l0] (.ref h.1 :: r) (znew h n.toNatClampNeg (.inl (1, n.toNatClampNeg, .inr (.inl (fun _ => 0)))))) ∧
  (∀ (l0 : Option Value) (v : Nat) (a : Nat) (r : List Value) (h : zH) (hx : zfok (h.2.2 a) 7 0 = true), zD 101 9 [l0] (.ref v :: .ref a :: r) h = zD 101 12 [l0] r (zw h a (zfs' (h.2.2 a) 0 (.ref v)))) ∧
  (∀ (x : Nat) (S : List Value) (h : zH), zD 101 12 [some (.ref x)] S h = zD 101 13 [some (.ref x)] (.ref x :: S) h) ∧
  (∀ (l0 : Option Value) (S : List Value) (h : zH), zD 101 13 [l0] S h = zD 101 15 [l0] (.int (31 : Int32) :: S) h) ∧
  (∀ (l0 : Option Value) (p0 : Int32) (a : Nat) (r : List Value) (h : zH) (hcat : zcat r ≤ 8) (hr : zis (h.2.2 a) 7 = true) (hC : (zC 66 (.ref a :: [.int p0]) h).isSome = true), zD 101 15 [l0] (.int p0 :: .ref a :: r) h = zD 101 18 [l0] (zgv (zC 66 (.ref a :: [.int p0]) h) ++ r) (zgh h (zC 66 (.ref a :: [.int p0]) h))) ∧
  (∀ (l0 : Option Value) (h : zH), zD 101 18 [l0] [] h = some (none, h)) :=
  ⟨fun x S h => zD_op (ins := .aload_n 0) (len := 1) (c := (1, [some (.ref x)], (.ref x :: S), h)) (by decide +kernel) rfl rfl rfl rfl,
  fun l0 a r h hcat => zD_obj (i := 3) (q := 123) (by decide +kernel) (by decide +kernel) (by decide +kernel) (by decide +kernel) hcat,
  fun x S h => zD_op (ins := .aload_n 0) (len := 1) (c := (5, [some (.ref x)], (.ref x :: S), h)) (by decide +kernel) rfl rfl rfl rfl,
  fun l0 S h => zD_bip (n := 31) (by decide +kernel) (by decide +kernel),
  fun l0 n r h hx => zD_newl (by decide +kernel) hx,
  fun l0 v a r h hx => zD_putf (i := 9) (ci := 7) (k := 0) (q := (134, 0)) (by decide +kernel) (by decide +kernel) (by decide +kernel) hx rfl rfl,
  fun x S h => zD_op (ins := .aload_n 0) (len := 1) (c := (13, [some (.ref x)], (.ref x :: S), h)) (by decide +kernel) rfl rfl rfl rfl,
  fun l0 S h => zD_bip (n := 31) (by decide +kernel) (by decide +kernel),
  fun l0 p0 a r h hcat hr hC => zD_callv (i := 15) (y := 66) (n := 1) (as := [.int p0]) (ci := 7) (by decide +kernel) (by decide +kernel) rfl (by decide +kernel) (Nat.le_of_ble_eq_true rfl) (by decide +kernel) hcat hr hC,
  fun l0 h => zD_vret (by decide +kernel) rfl⟩
set_option maxRecDepth 100000 in
theorem I_X8_init : (∀ (a : Nat) (h : zH), zC 101 [.ref a] h = zD 101 0 [some (.ref a)] [] h) :=
  fun a h => zC_def rfl
set_option maxRecDepth 100000 in
theorem E_X8_restartBare : (∀ (l1 : Option Value) (x : Nat) (S : List Value) (h : zH), zD 102 0 [some (.ref x), l1] S h = zD 102 1 [some (.ref x), l1] (.ref x :: S) h) ∧
  (∀ (l0 : Option Value) (x : Int32) (S : List Value) (h : zH), zD 102 1 [l0, some (.int x)] S h = zD 102 2 [l0, some (.int x)] (.int x :: S) h) ∧
  (∀ (l0 l1 : Option Value) (p0 : Int32) (a : Nat) (r : List Value) (h : zH) (hcat : zcat r ≤ 8) (hr : zis (h.2.2 a) 7 = true) (hC : (zC 66 (.ref a :: [.int p0]) h).isSome = true), zD 102 2 [l0, l1] (.int p0 :: .ref a :: r) h = zD 102 5 [l0, l1] (zgv (zC 66 (.ref a :: [.int p0]) h) ++ r) (zgh h (zC 66 (.ref a :: [.int p0]) h))) ∧
  (∀ (l1 : Option Value) (x : Nat) (S : List Value) (h : zH), zD 102 5 [some (.ref x), l1] S h = zD 102 6 [some (.ref x), l1] (.ref x :: S) h) ∧
  (∀ (l0 l1 : Option Value) (S : List Value) (h : zH), zD 102 6 [l0, l1] S h = zD 102 7 [l0, l1] (.long (0 : Int64) :: S) h) ∧
  (∀ (l0 l1 : Option Value) (p0 : Int64) (a : Nat) (r : List Value) (h : zH) (hcat : zcat r ≤ 8) (hr : zis (h.2.2 a) 7 = true) (hC : (zC 20 (.ref a :: [.long p0]) h).isSome = true), zD 102 7 [l0, l1] (.long p0 :: .ref a :: r) h = zD 102 10 [l0, l1] (zgv (zC 20 (.ref a :: [.long p0]) h) ++ r) (zgh h (zC 20 (.ref a :: [.long p0]) h))) ∧
  (∀ (l0 l1 : Option Value) (x : Int32) (r : List Value) (h : zH), zD 102 10 [l0, l1] (.int x :: r) h = zD 102 11 [l0, l1] r h) ∧
  (∀ (l0 l1 : Option Value) (x : Nat) (r : List Value) (h : zH), zD 102 10 [l0, l1] (.ref x :: r) h = zD 102 11 [l0, l1] r h) ∧
  (∀ (l0 l1 : Option Value) (h : zH), zD 102 11 [l0, l1] [] h = some (none, h)) :=
  ⟨fun l1 x S h => zD_op (ins := .aload_n 0) (len := 1) (c := (1, [some (.ref x), l1], (.ref x :: S), h)) (by decide +kernel) rfl rfl rfl rfl,
  fun l0 x S h => zD_op (ins := .iload_n 1) (len := 1) (c := (2, [l0, some (.int x)], (.int x :: S), h)) (by decide +kernel) rfl rfl rfl rfl,
  fun l0 l1 p0 a r h hcat hr hC => zD_callv (i := 15) (y := 66) (n := 1) (as := [.int p0]) (ci := 7) (by decide +kernel) (by decide +kernel) rfl (by decide +kernel) (Nat.le_of_ble_eq_true rfl) (by decide +kernel) hcat hr hC,
  fun l1 x S h => zD_op (ins := .aload_n 0) (len := 1) (c := (6, [some (.ref x), l1], (.ref x :: S), h)) (by decide +kernel) rfl rfl rfl rfl,
  fun l0 l1 S h => zD_op (ins := .lconst 0) (len := 1) (c := (7, [l0, l1], (.long (0 : Int64) :: S), h)) (by decide +kernel) rfl rfl rfl rfl,
  fun l0 l1 p0 a r h hcat hr hC => zD_callv (i := 36) (y := 20) (n := 1) (as := [.long p0]) (ci := 7) (by decide +kernel) (by decide +kernel) rfl (by decide +kernel) (Nat.le_of_ble_eq_true rfl) (by decide +kernel) hcat hr hC,
  fun l0 l1 x r h => zD_op (ins := .pop) (len := 1) (c := (11, [l0, l1], r, h)) (by decide +kernel) rfl rfl rfl rfl,
  fun l0 l1 x r h => zD_op (ins := .pop) (len := 1) (c := (11, [l0, l1], r, h)) (by decide +kernel) rfl rfl rfl rfl,
  fun l0 l1 h => zD_vret (by decide +kernel) rfl⟩
set_option maxRecDepth 100000 in
theorem I_X8_restartBare : (∀ (a : Nat) (p0 : Int32) (h : zH), zC 102 [.ref a, .int p0] h = zD 102 0 [some (.ref a), some (.int p0)] [] h) :=
  fun a p0 h => zC_def rfl
set_option maxRecDepth 100000 in
theorem E_X8_offerPairs : (∀ (l0 l1 l2 l3 l4 l5 : Option Value) (S : List Value) (h : zH), zD 103 0 [l0, l1, l2, l3, l4, l5] S h = zD 103 1 [l0, l1, l2, l3, l4, l5] (.int (0 : Int32) :: S) h) ∧
  (∀ (l0 l1 l2 l3 l4 l5 : Option Value) (x : Int32) (r : List Value) (h : zH), zD 103 1 [l0, l1, l2, l3, l4, l5] (.int x :: r) h = zD 103 3 [l0, l1, l2, l3, zclr l4, some (.int x)] r h) ∧
  (∀ (l0 l2 l3 l4 l5 : Option Value) (x : Nat) (S : List Value) (h : zH), zD 103 5 [l0, some (.ref x), l2, l3, l4, l5] S h = zD 103 6 [l0, some (.ref x), l2, l3, l4, l5] (.ref x :: S) h) ∧
  (∀ (l0 l2 l3 l4 l5 : Option Value) (S : List Value) (h : zH), zD 103 5 [l0, some .null, l2, l3, l4, l5] S h = zD 103 6 [l0, some .null, l2, l3, l4, l5] (.null :: S) h) ∧
  (∀ (l0 l1 l2 l3 l4 l5 : Option Value) (a : Nat) (r : List Value) (h : zH) (hx : zfok (h.2.2 a) 7 1 = true), zD 103 6 [l0, l1, l2, l3, l4, l5] (.ref a :: r) h = zD 103 9 [l0, l1, l2, l3, l4, l5] (zfv (h.2.2 a) 1 :: r) h) ∧
  (∀ (l0 l1 l2 l3 l4 l5 : Option Value) (x y : Int32) (r : List Value) (h : zH), zD 103 9 [l0, l1, l2, l3, l4, l5] (.int y :: .int x :: r) h = if y ≤ x then zD 103 44 [l0, l1, l2, l3, l4, l5] r h else zD 103 12 [l0, l1, l2, l3, l4, l5] r h) ∧
  (∀ (l1 l2 l3 l4 l5 : Option Value) (x : Nat) (S : List Value) (h : zH), zD 103 12 [some (.ref x), l1, l2, l3, l4, l5] S h = zD 103 13 [some (.ref x), l1, l2, l3, l4, l5] (.ref x :: S) h) ∧
  (∀ (l0 l1 l3 l4 l5 : Option Value) (x : Nat) (S : List Value) (h : zH), zD 103 13 [l0, l1, some (.ref x), l3, l4, l5] S h = zD 103 14 [l0, l1, some (.ref x), l3, l4, l5] (.ref x :: S) h) ∧
  (∀ (l0 l1 l3 l4 l5 : Option Value) (S : List Value) (h : zH), zD 103 13 [l0, l1, some .null, l3, l4, l5] S h = zD 103 14 [l0, l1, some .null, l3, l4, l5] (.null :: S) h) ∧
  (∀ (l1 l2 l3 l4 l5 : Option Value) (x : Nat) (S : List Value) (h : zH), zD 103 14 [some (.ref x), l1, l2, l3, l4, l5] S h = zD 103 15 [some (.ref x), l1, l2, l3, l4, l5] (.ref x :: S) h) ∧
  (∀ (l0 l1 l2 l3 l4 l5 : Option Value) (a : Nat) (r : List Value) (h : zH) (hx : zfok (h.2.2 a) 7 2 = true), zD 103 15 [l0, l1, l2, l3, l4, l5] (.ref a :: r) h = zD 103 18 [l0, l1, l2, l3, l4, l5] (zfv (h.2.2 a) 2 :: r) h) ∧
  (∀ (l0 l1 l2 l3 l4 : Option Value) (x : Int32) (S : List Value) (h : zH), zD 103 18 [l0, l1, l2, l3, l4, some (.int x)] S h = zD 103 20 [l0, l1, l2, l3, l4, some (.int x)] (.int x :: S) h) ∧
  (∀ (l0 l1 l2 l3 l4 l5 : Option Value) (S : List Value) (h : zH), zD 103 20 [l0, l1, l2, l3, l4, l5] S h = zD 103 21 [l0, l1, l2, l3, l4, l5] (.int (1 : Int32) :: S) h) ∧
  (∀ (l0 l1 l2 l3 l4 l5 : Option Value) (x y : Int32) (r : List Value) (h : zH), zD 103 21 [l0, l1, l2, l3, l4, l5] (.int y :: .int x :: r) h = zD 103 22 [l0, l1, l2, l3, l4, l5] (.int (x + y) :: r) h) ∧
  (∀ (l0 l1 l2 l3 l4 l5 : Option Value) (x y : Int32) (r : List Value) (h : zH) (hy : ¬ y = 0), zD 103 22 [l0, l1, l2, l3, l4, l5] (.int y :: .int x :: r) h = zD 103 23 [l0, l1, l2, l3, l4, l5] (.int (x / y) :: r) h) ∧
  (∀ (l0 l2 l3 l4 l5 : Option Value) (x : Nat) (S : List Value) (h : zH), zD 103 23 [l0, some (.ref x), l2, l3, l4, l5] S h = zD 103 24 [l0, some (.ref x), l2, l3, l4, l5] (.ref x :: S) h) ∧
  (∀ (l0 l2 l3 l4 l5 : Option Value) (S : List Value) (h : zH), zD 103 23 [l0, some .null, l2, l3, l4, l5] S h = zD 103 24 [l0, some .null, l2, l3, l4, l5] (.null :: S) h) ∧
  (∀ (l0 l1 l2 l3 l4 l5 : Option Value) (a : Nat) (r : List Value) (h : zH) (hx : zfok (h.2.2 a) 7 0 = true), zD 103 24 [l0, l1, l2, l3, l4, l5] (.ref a :: r) h = zD 103 27 [l0, l1, l2, l3, l4, l5] (zfv (h.2.2 a) 0 :: r) h) ∧
  (∀ (l0 l1 l2 l3 l4 : Option Value) (x : Int32) (S : List Value) (h : zH), zD 103 27 [l0, l1, l2, l3, l4, some (.int x)] S h = zD 103 29 [l0, l1, l2, l3, l4, some (.int x)] (.int x :: S) h) ∧
  (∀ (l0 l1 l2 l3 l4 l5 : Option Value) (i : Int32) (a : Nat) (r : List Value) (h : zH) (hx : zlok (h.2.2 a) i = true), zD 103 29 [l0, l1, l2, l3, l4, l5] (.int i :: .ref a :: r) h = zD 103 30 [l0, l1, l2, l3, l4, l5] (.long (zlv' (h.2.2 a) i) :: r) h) ∧
  (∀ (l0 l1 l2 l4 l5 : Option Value) (x : Int64) (S : List Value) (h : zH), zD 103 30 [l0, l1, l2, some (.long x), l4, l5] S h = zD 103 31 [l0, l1, l2, some (.long x), l4, l5] (.long x :: S) h) ∧
  (∀ (l0 l1 l2 l3 l4 l5 : Option Value) (x y : Int64) (r : List Value) (h : zH), zD 103 31 [l0, l1, l2, l3, l4, l5] (.long y :: .long x :: r) h = zD 103 32 [l0, l1, l2, l3, l4, l5] (.long (x + y) :: r) h) ∧
  (∀ (l0 l1 l2 l3 l4 l5 : Option Value) (p0 : Nat) (p1 : Int32) (p2 : Int64) (a : Nat) (r : List Value) (h : zH) (hcat : zcat r ≤ 8) (hr : zis (h.2.2 a) 7 = true) (hC : (zC 67 (.ref a :: [.ref p0, .int p1, .long p2]) h).isSome = true), zD 103 32 [l0, l1, l2, l3, l4, l5] (.long p2 :: .int p1 :: .ref p0 :: .ref a :: r) h = zD 103 35 [l0, l1, l2, l3, l4, l5] (zgv (zC 67 (.ref a :: [.ref p0, .int p1, .long p2]) h) ++ r) (zgh h (zC 67 (.ref a :: [.ref p0, .int p1, .long p2]) h))) ∧
  (∀ (l0 l1 l2 l3 l4 l5 : Option Value) (x : Int32) (r : List Value) (h : zH), zD 103 35 [l0, l1, l2, l3, l4, l5] (.int x :: r) h = if x = 0 then zD 103 44 [l0, l1, l2, l3, l4, l5] r h else zD 103 38 [l0, l1, l2, l3, l4, l5] r h) ∧
  (∀ (l0 l1 l2 l3 l4 : Option Value) (x : Int32) (S : List Value) (h : zH), zD 103 38 [l0, l1, l2, l3, l4, some (.int x)] S h = zD 103 41 [l0, l1, l2, l3, zclr l4, some (.int (x + (1 : Int32)))] S h) ∧
  (∀ (l0 l1 l2 l3 l4 l5 : Option Value) (S : List Value) (h : zH), zD 103 41 [l0, l1, l2, l3, l4, l5] S h = zD 103 3 [l0, l1, l2, l3, l4, l5] S h) ∧
  (∀ (l0 l1 l2 l3 l4 l5 : Option Value) (h : zH), zD 103 44 [l0, l1, l2, l3, l4, l5] [] h = some (none, h)) :=
  ⟨fun l0 l1 l2 l3 l4 l5 S h => zD_icst (n := 0) (by decide +kernel) (by decide +kernel),
  fun l0 l1 l2 l3 l4 l5 x r h => zD_st1 (k := 5) (ins := .istore 5) (len := 2) (by decide +kernel) rfl rfl rfl (by decide +kernel) rfl rfl,
  fun l0 l2 l3 l4 l5 x S h => zD_op (ins := .aload_n 1) (len := 1) (c := (6, [l0, some (.ref x), l2, l3, l4, l5], (.ref x :: S), h)) (by decide +kernel) rfl rfl rfl rfl,
  fun l0 l2 l3 l4 l5 S h => zD_op (ins := .aload_n 1) (len := 1) (c := (6, [l0, some .null, l2, l3, l4, l5], (.null :: S), h)) (by decide +kernel) rfl rfl rfl rfl,
  fun l0 l1 l2 l3 l4 l5 a r h hx => zD_getf (i := 20) (ci := 7) (k := 1) (q := (136, 0)) (by decide +kernel) (by decide +kernel) hx,
  fun l0 l1 l2 l3 l4 l5 x y r h => zD_if (cnd := .ge) (off := 35) (by decide +kernel) (by decide) rfl,
  fun l1 l2 l3 l4 l5 x S h => zD_op (ins := .aload_n 0) (len := 1) (c := (13, [some (.ref x), l1, l2, l3, l4, l5], (.ref x :: S), h)) (by decide +kernel) rfl rfl rfl rfl,
  fun l0 l1 l3 l4 l5 x S h => zD_op (ins := .aload_n 2) (len := 1) (c := (14, [l0, l1, some (.ref x), l3, l4, l5], (.ref x :: S), h)) (by decide +kernel) rfl rfl rfl rfl,
  fun l0 l1 l3 l4 l5 S h => zD_op (ins := .aload_n 2) (len := 1) (c := (14, [l0, l1, some .null, l3, l4, l5], (.null :: S), h)) (by decide +kernel) rfl rfl rfl rfl,
  fun l1 l2 l3 l4 l5 x S h => zD_op (ins := .aload_n 0) (len := 1) (c := (15, [some (.ref x), l1, l2, l3, l4, l5], (.ref x :: S), h)) (by decide +kernel) rfl rfl rfl rfl,
  fun l0 l1 l2 l3 l4 l5 a r h hx => zD_getf (i := 33) (ci := 7) (k := 2) (q := (138, 0)) (by decide +kernel) (by decide +kernel) hx,
  fun l0 l1 l2 l3 l4 x S h => zD_op (ins := .iload 5) (len := 2) (c := (20, [l0, l1, l2, l3, l4, some (.int x)], (.int x :: S), h)) (by decide +kernel) rfl rfl rfl rfl,
  fun l0 l1 l2 l3 l4 l5 S h => zD_icst (n := 1) (by decide +kernel) (by decide +kernel),
  fun l0 l1 l2 l3 l4 l5 x y r h => zD_op (ins := .iadd) (len := 1) (c := (22, [l0, l1, l2, l3, l4, l5], (.int (x + y) :: r), h)) (by decide +kernel) rfl rfl rfl rfl,
  fun l0 l1 l2 l3 l4 l5 x y r h hy => zD_div (by decide +kernel) hy,
  fun l0 l2 l3 l4 l5 x S h => zD_op (ins := .aload_n 1) (len := 1) (c := (24, [l0, some (.ref x), l2, l3, l4, l5], (.ref x :: S), h)) (by decide +kernel) rfl rfl rfl rfl,
  fun l0 l2 l3 l4 l5 S h => zD_op (ins := .aload_n 1) (len := 1) (c := (24, [l0, some .null, l2, l3, l4, l5], (.null :: S), h)) (by decide +kernel) rfl rfl rfl rfl,
  fun l0 l1 l2 l3 l4 l5 a r h hx => zD_getf (i := 9) (ci := 7) (k := 0) (q := (134, 0)) (by decide +kernel) (by decide +kernel) hx,
  fun l0 l1 l2 l3 l4 x S h => zD_op (ins := .iload 5) (len := 2) (c := (29, [l0, l1, l2, l3, l4, some (.int x)], (.int x :: S), h)) (by decide +kernel) rfl rfl rfl rfl,
  fun l0 l1 l2 l3 l4 l5 i a r h hx => zD_lald (by decide +kernel) hx,
  fun l0 l1 l2 l4 l5 x S h => zD_op (ins := .lload_n 3) (len := 1) (c := (31, [l0, l1, l2, some (.long x), l4, l5], (.long x :: S), h)) (by decide +kernel) rfl rfl rfl rfl,
  fun l0 l1 l2 l3 l4 l5 x y r h => zD_op (ins := .ladd) (len := 1) (c := (32, [l0, l1, l2, l3, l4, l5], (.long (x + y) :: r), h)) (by decide +kernel) rfl rfl rfl rfl,
  fun l0 l1 l2 l3 l4 l5 p0 p1 p2 a r h hcat hr hC => zD_callv (i := 40) (y := 67) (n := 3) (as := [.ref p0, .int p1, .long p2]) (ci := 7) (by decide +kernel) (by decide +kernel) rfl (by decide +kernel) (Nat.le_of_ble_eq_true rfl) (by decide +kernel) hcat hr hC,
  fun l0 l1 l2 l3 l4 l5 x r h => zD_if0 (cnd := .eq) (off := 9) (by decide +kernel) (by decide) rfl,
  fun l0 l1 l2 l3 l4 x S h => zD_iinc (k := 5) (x := x) (c := (1 : Int32)) (n := 1) (by decide +kernel) (by decide +kernel) rfl (by decide +kernel) rfl,
  fun l0 l1 l2 l3 l4 l5 S h => zD_goto (off := (-38)) (by decide +kernel) (by decide),
  fun l0 l1 l2 l3 l4 l5 h => zD_vret (by decide +kernel) rfl⟩
set_option maxRecDepth 100000 in
theorem E_X8_offerPairs_h3 : (∀ (l0 l1 l2 l3 l4 : Option Value) (x : Int32) (S : List Value) (h : zH), zD 103 3 [l0, l1, l2, l3, l4, some (.int x)] S h = zD 103 5 [l0, l1, l2, l3, l4, some (.int x)] (.int x :: S) h) :=
  fun l0 l1 l2 l3 l4 x S h => zD_op (ins := .iload 5) (len := 2) (c := (5, [l0, l1, l2, l3, l4, some (.int x)], (.int x :: S), h)) (by decide +kernel) rfl rfl rfl rfl
set_option maxRecDepth 100000 in
theorem I_X8_offerPairs : (∀ (a : Nat) (p0 : Nat) (p1 : Nat) (p2 : Int64) (h : zH), zC 103 [.ref a, .ref p0, .ref p1, .long p2] h = zD 103 0 [some (.ref a), some (.ref p0), some (.ref p1), some (.long p2), none, none] [] h) :=
  fun a p0 p1 p2 h => zC_def rfl
set_option maxRecDepth 100000 in
theorem E_X9_words : (∀ (l0 : Option Value) (x : Int32) (S : List Value) (h : zH), zD 104 0 [l0, some (.int x)] S h = zD 104 1 [l0, some (.int x)] (.int x :: S) h) ∧
  (∀ (l0 l1 : Option Value) (S : List Value) (h : zH), zD 104 1 [l0, l1] S h = zD 104 2 [l0, l1] (.int (1 : Int32) :: S) h) ∧
  (∀ (l0 l1 : Option Value) (x y : Int32) (r : List Value) (h : zH), zD 104 2 [l0, l1] (.int y :: .int x :: r) h = if x < y then zD 104 11 [l0, l1] r h else zD 104 5 [l0, l1] r h) ∧
  (∀ (l0 : Option Value) (x : Int32) (S : List Value) (h : zH), zD 104 5 [l0, some (.int x)] S h = zD 104 6 [l0, some (.int x)] (.int x :: S) h) ∧
  (∀ (l0 l1 : Option Value) (S : List Value) (h : zH), zD 104 6 [l0, l1] S h = zD 104 8 [l0, l1] (.int (7 : Int32) :: S) h) ∧
  (∀ (l0 l1 : Option Value) (x y : Int32) (r : List Value) (h : zH), zD 104 8 [l0, l1] (.int y :: .int x :: r) h = if x ≤ y then zD 104 14 [l0, l1] r h else zD 104 11 [l0, l1] r h) ∧
  (∀ (l0 l1 : Option Value) (S : List Value) (h : zH), zD 104 11 [l0, l1] S h = zD 104 13 [l0, l1] (.int (-102 : Int32) :: S) h) ∧
  (∀ (l0 l1 : Option Value) (v : Int32) (h : zH), zD 104 13 [l0, l1] [.int v] h = some (some (.int v), h)) ∧
  (∀ (l1 : Option Value) (x : Nat) (S : List Value) (h : zH), zD 104 14 [some (.ref x), l1] S h = zD 104 15 [some (.ref x), l1] (.ref x :: S) h) ∧
  (∀ (l0 l1 : Option Value) (a : Nat) (r : List Value) (h : zH) (hx : zfok (h.2.2 a) 8 0 = true), zD 104 15 [l0, l1] (.ref a :: r) h = zD 104 18 [l0, l1] (zfv (h.2.2 a) 0 :: r) h) ∧
  (∀ (l0 : Option Value) (x : Int32) (S : List Value) (h : zH), zD 104 18 [l0, some (.int x)] S h = zD 104 19 [l0, some (.int x)] (.int x :: S) h) ∧
  (∀ (l0 l1 : Option Value) (p0 : Int32) (a : Nat) (r : List Value) (h : zH) (hcat : zcat r ≤ 8) (hr : zis (h.2.2 a) 3 = true) (hC : (zC 49 (.ref a :: [.int p0]) h).isSome = true), zD 104 19 [l0, l1] (.int p0 :: .ref a :: r) h = zD 104 22 [l0, l1] (zgv (zC 49 (.ref a :: [.int p0]) h) ++ r) (zgh h (zC 49 (.ref a :: [.int p0]) h))) ∧
  (∀ (l1 : Option Value) (x : Nat) (S : List Value) (h : zH), zD 104 22 [some (.ref x), l1] S h = zD 104 23 [some (.ref x), l1] (.ref x :: S) h) ∧
  (∀ (l0 l1 : Option Value) (a : Nat) (r : List Value) (h : zH) (hx : zfok (h.2.2 a) 8 1 = true), zD 104 23 [l0, l1] (.ref a :: r) h = zD 104 26 [l0, l1] (zfv (h.2.2 a) 1 :: r) h) ∧
  (∀ (l0 l1 : Option Value) (a : Nat) (r : List Value) (h : zH) (hcat : zcat r ≤ 8) (hr : zis (h.2.2 a) 2 = true) (hC : (zC 47 [.ref a] h).isSome = true), zD 104 26 [l0, l1] (.ref a :: r) h = zD 104 29 [l0, l1] (zgv (zC 47 [.ref a] h) ++ r) (zgh h (zC 47 [.ref a] h))) ∧
  (∀ (l0 : Option Value) (x : Int32) (S : List Value) (h : zH), zD 104 29 [l0, some (.int x)] S h = zD 104 30 [l0, some (.int x)] (.int x :: S) h) ∧
  (∀ (l0 l1 : Option Value) (v : Int32) (h : zH), zD 104 30 [l0, l1] [.int v] h = some (some (.int v), h)) :=
  ⟨fun l0 x S h => zD_op (ins := .iload_n 1) (len := 1) (c := (1, [l0, some (.int x)], (.int x :: S), h)) (by decide +kernel) rfl rfl rfl rfl,
  fun l0 l1 S h => zD_icst (n := 1) (by decide +kernel) (by decide +kernel),
  fun l0 l1 x y r h => zD_if (cnd := .lt) (off := 9) (by decide +kernel) (by decide) rfl,
  fun l0 x S h => zD_op (ins := .iload_n 1) (len := 1) (c := (6, [l0, some (.int x)], (.int x :: S), h)) (by decide +kernel) rfl rfl rfl rfl,
  fun l0 l1 S h => zD_bip (n := 7) (by decide +kernel) (by decide +kernel),
  fun l0 l1 x y r h => zD_if (cnd := .le) (off := 6) (by decide +kernel) (by decide) rfl,
  fun l0 l1 S h => zD_bip (n := (-102)) (by decide +kernel) (by decide +kernel),
  fun l0 l1 v h => zD_ireti (by decide +kernel) rfl,
  fun l1 x S h => zD_op (ins := .aload_n 0) (len := 1) (c := (15, [some (.ref x), l1], (.ref x :: S), h)) (by decide +kernel) rfl rfl rfl rfl,
  fun l0 l1 a r h hx => zD_getf (i := 12) (ci := 8) (k := 0) (q := (248, 0)) (by decide +kernel) (by decide +kernel) hx,
  fun l0 x S h => zD_op (ins := .iload_n 1) (len := 1) (c := (19, [l0, some (.int x)], (.int x :: S), h)) (by decide +kernel) rfl rfl rfl rfl,
  fun l0 l1 p0 a r h hcat hr hC => zD_callv (i := 66) (y := 49) (n := 1) (as := [.int p0]) (ci := 3) (by decide +kernel) (by decide +kernel) rfl (by decide +kernel) (Nat.le_of_ble_eq_true rfl) (by decide +kernel) hcat hr hC,
  fun l1 x S h => zD_op (ins := .aload_n 0) (len := 1) (c := (23, [some (.ref x), l1], (.ref x :: S), h)) (by decide +kernel) rfl rfl rfl rfl,
  fun l0 l1 a r h hx => zD_getf (i := 19) (ci := 8) (k := 1) (q := (249, 0)) (by decide +kernel) (by decide +kernel) hx,
  fun l0 l1 a r h hcat hr hC => zD_callv (i := 70) (y := 47) (n := 0) (as := []) (ci := 2) (by decide +kernel) (by decide +kernel) rfl (by decide +kernel) (Nat.le_of_ble_eq_true rfl) (by decide +kernel) hcat hr hC,
  fun l0 x S h => zD_op (ins := .iload_n 1) (len := 1) (c := (30, [l0, some (.int x)], (.int x :: S), h)) (by decide +kernel) rfl rfl rfl rfl,
  fun l0 l1 v h => zD_ireti (by decide +kernel) rfl⟩
set_option maxRecDepth 100000 in
theorem I_X9_words : (∀ (a : Nat) (p0 : Int32) (h : zH), zC 104 [.ref a, .int p0] h = zD 104 0 [some (.ref a), some (.int p0)] [] h) :=
  fun a p0 h => zC_def rfl
set_option maxRecDepth 100000 in
theorem E_X9_weight : (∀ (l1 l2 l3 l4 l5 : Option Value) (x : Nat) (S : List Value) (h : zH), zD 105 0 [some (.ref x), l1, l2, l3, l4, l5] S h = zD 105 1 [some (.ref x), l1, l2, l3, l4, l5] (.ref x :: S) h) ∧
  (∀ (l0 l1 l2 l3 l4 l5 : Option Value) (a : Nat) (r : List Value) (h : zH) (hx : zfok (h.2.2 a) 8 0 = true), zD 105 1 [l0, l1, l2, l3, l4, l5] (.ref a :: r) h = zD 105 4 [l0, l1, l2, l3, l4, l5] (zfv (h.2.2 a) 0 :: r) h) ∧
  (∀ (l0 l2 l3 l4 l5 : Option Value) (x : Int32) (S : List Value) (h : zH), zD 105 4 [l0, some (.int x), l2, l3, l4, l5] S h = zD 105 5 [l0, some (.int x), l2, l3, l4, l5] (.int x :: S) h) ∧
  (∀ (l0 l1 l3 l4 l5 : Option Value) (x : Int32) (S : List Value) (h : zH), zD 105 5 [l0, l1, some (.int x), l3, l4, l5] S h = zD 105 6 [l0, l1, some (.int x), l3, l4, l5] (.int x :: S) h) ∧
  (∀ (l0 l1 l2 l3 l4 l5 : Option Value) (p0 : Int32) (p1 : Int32) (a : Nat) (r : List Value) (h : zH) (hcat : zcat r ≤ 8) (hr : zis (h.2.2 a) 3 = true) (hC : (zC 51 (.ref a :: [.int p0, .int p1]) h).isSome = true), zD 105 6 [l0, l1, l2, l3, l4, l5] (.int p1 :: .int p0 :: .ref a :: r) h = zD 105 9 [l0, l1, l2, l3, l4, l5] (zgv (zC 51 (.ref a :: [.int p0, .int p1]) h) ++ r) (zgh h (zC 51 (.ref a :: [.int p0, .int p1]) h))) ∧
  (∀ (l0 l1 l2 l3 l4 l5 : Option Value) (x : Int32) (r : List Value) (h : zH), zD 105 9 [l0, l1, l2, l3, l4, l5] (.int x :: r) h = if ¬ x = 0 then zD 105 15 [l0, l1, l2, l3, l4, l5] r h else zD 105 12 [l0, l1, l2, l3, l4, l5] r h) ∧
  (∀ (l0 l1 l2 l3 l4 l5 : Option Value) (S : List Value) (h : zH), zD 105 12 [l0, l1, l2, l3, l4, l5] S h = zD 105 14 [l0, l1, l2, l3, l4, l5] (.int (-101 : Int32) :: S) h) ∧
  (∀ (l0 l1 l2 l3 l4 l5 : Option Value) (v : Int32) (h : zH), zD 105 14 [l0, l1, l2, l3, l4, l5] [.int v] h = some (some (.int v), h)) ∧
  (∀ (l0 l1 l2 l4 l5 : Option Value) (x : Int32) (S : List Value) (h : zH), zD 105 15 [l0, l1, l2, some (.int x), l4, l5] S h = zD 105 16 [l0, l1, l2, some (.int x), l4, l5] (.int x :: S) h) ∧
  (∀ (l0 l1 l2 l3 l4 l5 : Option Value) (S : List Value) (h : zH), zD 105 16 [l0, l1, l2, l3, l4, l5] S h = zD 105 18 [l0, l1, l2, l3, l4, l5] (.int (-1000000 : Int32) :: S) h) ∧
  (∀ (l0 l1 l2 l3 l4 l5 : Option Value) (x y : Int32) (r : List Value) (h : zH), zD 105 18 [l0, l1, l2, l3, l4, l5] (.int y :: .int x :: r) h = if x < y then zD 105 27 [l0, l1, l2, l3, l4, l5] r h else zD 105 21 [l0, l1, l2, l3, l4, l5] r h) ∧
  (∀ (l0 l1 l2 l4 l5 : Option Value) (x : Int32) (S : List Value) (h : zH), zD 105 21 [l0, l1, l2, some (.int x), l4, l5] S h = zD 105 22 [l0, l1, l2, some (.int x), l4, l5] (.int x :: S) h) ∧
  (∀ (l0 l1 l2 l3 l4 l5 : Option Value) (S : List Value) (h : zH), zD 105 22 [l0, l1, l2, l3, l4, l5] S h = zD 105 24 [l0, l1, l2, l3, l4, l5] (.int (1000000 : Int32) :: S) h) ∧
  (∀ (l0 l1 l2 l3 l4 l5 : Option Value) (x y : Int32) (r : List Value) (h : zH), zD 105 24 [l0, l1, l2, l3, l4, l5] (.int y :: .int x :: r) h = if x ≤ y then zD 105 30 [l0, l1, l2, l3, l4, l5] r h else zD 105 27 [l0, l1, l2, l3, l4, l5] r h) ∧
  (∀ (l0 l1 l2 l3 l4 l5 : Option Value) (S : List Value) (h : zH), zD 105 27 [l0, l1, l2, l3, l4, l5] S h = zD 105 29 [l0, l1, l2, l3, l4, l5] (.int (-102 : Int32) :: S) h) ∧
  (∀ (l0 l1 l2 l3 l4 l5 : Option Value) (v : Int32) (h : zH), zD 105 29 [l0, l1, l2, l3, l4, l5] [.int v] h = some (some (.int v), h)) ∧
  (∀ (l0 l2 l3 l4 l5 : Option Value) (x : Int32) (S : List Value) (h : zH), zD 105 30 [l0, some (.int x), l2, l3, l4, l5] S h = zD 105 31 [l0, some (.int x), l2, l3, l4, l5] (.int x :: S) h) ∧
  (∀ (l0 l1 l3 l4 l5 : Option Value) (x : Int32) (S : List Value) (h : zH), zD 105 31 [l0, l1, some (.int x), l3, l4, l5] S h = zD 105 32 [l0, l1, some (.int x), l3, l4, l5] (.int x :: S) h) ∧
  (∀ (l0 l1 l2 l3 l4 l5 : Option Value) (p0 : Int32) (p1 : Int32) (r : List Value) (h : zH) (hcat : zcat r ≤ 8) (hC : (zC 3 [.int p0, .int p1] h).isSome = true), zD 105 32 [l0, l1, l2, l3, l4, l5] (.int p1 :: .int p0 :: r) h = zD 105 35 [l0, l1, l2, l3, l4, l5] (zgv (zC 3 [.int p0, .int p1] h) ++ r) (zgh h (zC 3 [.int p0, .int p1] h))) ∧
  (∀ (l0 l1 l2 l3 l4 l5 : Option Value) (x : Int32) (r : List Value) (h : zH), zD 105 35 [l0, l1, l2, l3, l4, l5] (.int x :: r) h = zD 105 37 [l0, l1, l2, zclr l3, some (.int x), l5] r h) ∧
  (∀ (l1 l2 l3 l4 l5 : Option Value) (x : Nat) (S : List Value) (h : zH), zD 105 37 [some (.ref x), l1, l2, l3, l4, l5] S h = zD 105 38 [some (.ref x), l1, l2, l3, l4, l5] (.ref x :: S) h) ∧
  (∀ (l0 l1 l2 l3 l4 l5 : Option Value) (a : Nat) (r : List Value) (h : zH) (hx : zfok (h.2.2 a) 8 1 = true), zD 105 38 [l0, l1, l2, l3, l4, l5] (.ref a :: r) h = zD 105 41 [l0, l1, l2, l3, l4, l5] (zfv (h.2.2 a) 1 :: r) h) ∧
  (∀ (l0 l1 l2 l3 l4 l5 : Option Value) (a : Nat) (r : List Value) (h : zH) (hx : zfok (h.2.2 a) 2 0 = true), zD 105 41 [l0, l1, l2, l3, l4, l5] (.ref a :: r) h = zD 105 44 [l0, l1, l2, l3, l4, l5] (zfv (h.2.2 a) 0 :: r) h) ∧
  (∀ (l0 l1 l2 l3 l5 : Option Value) (x : Int32) (S : List Value) (h : zH), zD 105 44 [l0, l1, l2, l3, some (.int x), l5] S h = zD 105 46 [l0, l1, l2, l3, some (.int x), l5] (.int x :: S) h) ∧
  (∀ (l0 l1 l2 l3 l4 l5 : Option Value) (i : Int32) (a : Nat) (r : List Value) (h : zH) (hx : ziok a (h.2.2 a) i = true), zD 105 46 [l0, l1, l2, l3, l4, l5] (.int i :: .ref a :: r) h = zD 105 47 [l0, l1, l2, l3, l4, l5] (.int (ziv (h.2.2 a) i) :: r) h) ∧
  (∀ (l0 l1 l2 l3 l4 l5 : Option Value) (x : Int32) (r : List Value) (h : zH), zD 105 47 [l0, l1, l2, l3, l4, l5] (.int x :: r) h = zD 105 49 [l0, l1, l2, l3, zclr l4, some (.int x)] r h) ∧
  (∀ (l1 l2 l3 l4 l5 : Option Value) (x : Nat) (S : List Value) (h : zH), zD 105 49 [some (.ref x), l1, l2, l3, l4, l5] S h = zD 105 50 [some (.ref x), l1, l2, l3, l4, l5] (.ref x :: S) h) ∧
  (∀ (l0 l1 l2 l3 l4 l5 : Option Value) (a : Nat) (r : List Value) (h : zH) (hx : zfok (h.2.2 a) 8 1 = true), zD 105 50 [l0, l1, l2, l3, l4, l5] (.ref a :: r) h = zD 105 53 [l0, l1, l2, l3, l4, l5] (zfv (h.2.2 a) 1 :: r) h) ∧
  (∀ (l0 l1 l2 l3 l4 l5 : Option Value) (a : Nat) (r : List Value) (h : zH) (hx : zfok (h.2.2 a) 2 0 = true), zD 105 53 [l0, l1, l2, l3, l4, l5] (.ref a :: r) h = zD 105 56 [l0, l1, l2, l3, l4, l5] (zfv (h.2.2 a) 0 :: r) h) ∧
  (∀ (l0 l1 l2 l3 l5 : Option Value) (x : Int32) (S : List Value) (h : zH), zD 105 56 [l0, l1, l2, l3, some (.int x), l5] S h = zD 105 58 [l0, l1, l2, l3, some (.int x), l5] (.int x :: S) h) ∧
  (∀ (l0 l1 l2 l4 l5 : Option Value) (x : Int32) (S : List Value) (h : zH), zD 105 58 [l0, l1, l2, some (.int x), l4, l5] S h = zD 105 59 [l0, l1, l2, some (.int x), l4, l5] (.int x :: S) h) ∧
  (∀ (l0 l1 l2 l3 l4 l5 : Option Value) (w i : Int32) (a : Nat) (r : List Value) (h : zH) (hx : zpok (h.2.2 a) i = true), zD 105 59 [l0, l1, l2, l3, l4, l5] (.int w :: .int i :: .ref a :: r) h = zD 105 60 [l0, l1, l2, l3, l4, l5] r (zw h a (zis' (h.2.2 a) i w))) ∧
  (∀ (l0 l1 l2 l3 l4 : Option Value) (x : Int32) (S : List Value) (h : zH), zD 105 60 [l0, l1, l2, l3, l4, some (.int x)] S h = zD 105 62 [l0, l1, l2, l3, l4, some (.int x)] (.int x :: S) h) ∧
  (∀ (l0 l1 l2 l3 l4 l5 : Option Value) (v : Int32) (h : zH), zD 105 62 [l0, l1, l2, l3, l4, l5] [.int v] h = some (some (.int v), h)) :=
  ⟨fun l1 l2 l3 l4 l5 x S h => zD_op (ins := .aload_n 0) (len := 1) (c := (1, [some (.ref x), l1, l2, l3, l4, l5], (.ref x :: S), h)) (by decide +kernel) rfl rfl rfl rfl,
  fun l0 l1 l2 l3 l4 l5 a r h hx => zD_getf (i := 12) (ci := 8) (k := 0) (q := (248, 0)) (by decide +kernel) (by decide +kernel) hx,
  fun l0 l2 l3 l4 l5 x S h => zD_op (ins := .iload_n 1) (len := 1) (c := (5, [l0, some (.int x), l2, l3, l4, l5], (.int x :: S), h)) (by decide +kernel) rfl rfl rfl rfl,
  fun l0 l1 l3 l4 l5 x S h => zD_op (ins := .iload_n 2) (len := 1) (c := (6, [l0, l1, some (.int x), l3, l4, l5], (.int x :: S), h)) (by decide +kernel) rfl rfl rfl rfl,
  fun l0 l1 l2 l3 l4 l5 p0 p1 a r h hcat hr hC => zD_callv (i := 83) (y := 51) (n := 2) (as := [.int p0, .int p1]) (ci := 3) (by decide +kernel) (by decide +kernel) rfl (by decide +kernel) (Nat.le_of_ble_eq_true rfl) (by decide +kernel) hcat hr hC,
  fun l0 l1 l2 l3 l4 l5 x r h => zD_if0 (cnd := .ne) (off := 6) (by decide +kernel) (by decide) rfl,
  fun l0 l1 l2 l3 l4 l5 S h => zD_bip (n := (-101)) (by decide +kernel) (by decide +kernel),
  fun l0 l1 l2 l3 l4 l5 v h => zD_ireti (by decide +kernel) rfl,
  fun l0 l1 l2 l4 l5 x S h => zD_op (ins := .iload_n 3) (len := 1) (c := (16, [l0, l1, l2, some (.int x), l4, l5], (.int x :: S), h)) (by decide +kernel) rfl rfl rfl rfl,
  fun l0 l1 l2 l3 l4 l5 S h => zD_ldc (i := 87) (q := 304) (by decide +kernel) (by decide +kernel),
  fun l0 l1 l2 l3 l4 l5 x y r h => zD_if (cnd := .lt) (off := 9) (by decide +kernel) (by decide) rfl,
  fun l0 l1 l2 l4 l5 x S h => zD_op (ins := .iload_n 3) (len := 1) (c := (22, [l0, l1, l2, some (.int x), l4, l5], (.int x :: S), h)) (by decide +kernel) rfl rfl rfl rfl,
  fun l0 l1 l2 l3 l4 l5 S h => zD_ldc (i := 88) (q := 305) (by decide +kernel) (by decide +kernel),
  fun l0 l1 l2 l3 l4 l5 x y r h => zD_if (cnd := .le) (off := 6) (by decide +kernel) (by decide) rfl,
  fun l0 l1 l2 l3 l4 l5 S h => zD_bip (n := (-102)) (by decide +kernel) (by decide +kernel),
  fun l0 l1 l2 l3 l4 l5 v h => zD_ireti (by decide +kernel) rfl,
  fun l0 l2 l3 l4 l5 x S h => zD_op (ins := .iload_n 1) (len := 1) (c := (31, [l0, some (.int x), l2, l3, l4, l5], (.int x :: S), h)) (by decide +kernel) rfl rfl rfl rfl,
  fun l0 l1 l3 l4 l5 x S h => zD_op (ins := .iload_n 2) (len := 1) (c := (32, [l0, l1, some (.int x), l3, l4, l5], (.int x :: S), h)) (by decide +kernel) rfl rfl rfl rfl,
  fun l0 l1 l2 l3 l4 l5 p0 p1 r h hcat hC => zD_calls (i := 89) (y := 3) (n := 2) (as := [.int p0, .int p1]) (by decide +kernel) (by decide +kernel) rfl (by decide +kernel) (Nat.le_of_ble_eq_true rfl) hcat hC,
  fun l0 l1 l2 l3 l4 l5 x r h => zD_st1 (k := 4) (ins := .istore 4) (len := 2) (by decide +kernel) rfl rfl rfl (by decide +kernel) rfl rfl,
  fun l1 l2 l3 l4 l5 x S h => zD_op (ins := .aload_n 0) (len := 1) (c := (38, [some (.ref x), l1, l2, l3, l4, l5], (.ref x :: S), h)) (by decide +kernel) rfl rfl rfl rfl,
  fun l0 l1 l2 l3 l4 l5 a r h hx => zD_getf (i := 19) (ci := 8) (k := 1) (q := (249, 0)) (by decide +kernel) (by decide +kernel) hx,
  fun l0 l1 l2 l3 l4 l5 a r h hx => zD_getf (i := 93) (ci := 2) (k := 0) (q := (106, 1)) (by decide +kernel) (by decide +kernel) hx,
  fun l0 l1 l2 l3 l5 x S h => zD_op (ins := .iload 4) (len := 2) (c := (46, [l0, l1, l2, l3, some (.int x), l5], (.int x :: S), h)) (by decide +kernel) rfl rfl rfl rfl,
  fun l0 l1 l2 l3 l4 l5 i a r h hx => zD_iald (by decide +kernel) hx,
  fun l0 l1 l2 l3 l4 l5 x r h => zD_st1 (k := 5) (ins := .istore 5) (len := 2) (by decide +kernel) rfl rfl rfl (by decide +kernel) rfl rfl,
  fun l1 l2 l3 l4 l5 x S h => zD_op (ins := .aload_n 0) (len := 1) (c := (50, [some (.ref x), l1, l2, l3, l4, l5], (.ref x :: S), h)) (by decide +kernel) rfl rfl rfl rfl,
  fun l0 l1 l2 l3 l4 l5 a r h hx => zD_getf (i := 19) (ci := 8) (k := 1) (q := (249, 0)) (by decide +kernel) (by decide +kernel) hx,
  fun l0 l1 l2 l3 l4 l5 a r h hx => zD_getf (i := 93) (ci := 2) (k := 0) (q := (106, 1)) (by decide +kernel) (by decide +kernel) hx,
  fun l0 l1 l2 l3 l5 x S h => zD_op (ins := .iload 4) (len := 2) (c := (58, [l0, l1, l2, l3, some (.int x), l5], (.int x :: S), h)) (by decide +kernel) rfl rfl rfl rfl,
  fun l0 l1 l2 l4 l5 x S h => zD_op (ins := .iload_n 3) (len := 1) (c := (59, [l0, l1, l2, some (.int x), l4, l5], (.int x :: S), h)) (by decide +kernel) rfl rfl rfl rfl,
  fun l0 l1 l2 l3 l4 l5 w i a r h hx => zD_iast (by decide +kernel) hx,
  fun l0 l1 l2 l3 l4 x S h => zD_op (ins := .iload 5) (len := 2) (c := (62, [l0, l1, l2, l3, l4, some (.int x)], (.int x :: S), h)) (by decide +kernel) rfl rfl rfl rfl,
  fun l0 l1 l2 l3 l4 l5 v h => zD_ireti (by decide +kernel) rfl⟩
set_option maxRecDepth 100000 in
theorem I_X9_weight : (∀ (a : Nat) (p0 : Int32) (p1 : Int32) (p2 : Int32) (h : zH), zC 105 [.ref a, .int p0, .int p1, .int p2] h = zD 105 0 [some (.ref a), some (.int p0), some (.int p1), some (.int p2), none, none] [] h) :=
  fun a p0 p1 p2 h => zC_def rfl
set_option maxRecDepth 100000 in
theorem E_X9_forbid : (∀ (l1 l2 l3 l4 l5 : Option Value) (x : Nat) (S : List Value) (h : zH), zD 106 0 [some (.ref x), l1, l2, l3, l4, l5] S h = zD 106 1 [some (.ref x), l1, l2, l3, l4, l5] (.ref x :: S) h) ∧
  (∀ (l0 l1 l2 l3 l4 l5 : Option Value) (a : Nat) (r : List Value) (h : zH) (hx : zfok (h.2.2 a) 8 0 = true), zD 106 1 [l0, l1, l2, l3, l4, l5] (.ref a :: r) h = zD 106 4 [l0, l1, l2, l3, l4, l5] (zfv (h.2.2 a) 0 :: r) h) ∧
  (∀ (l0 l2 l3 l4 l5 : Option Value) (x : Int32) (S : List Value) (h : zH), zD 106 4 [l0, some (.int x), l2, l3, l4, l5] S h = zD 106 5 [l0, some (.int x), l2, l3, l4, l5] (.int x :: S) h) ∧
  (∀ (l0 l1 l3 l4 l5 : Option Value) (x : Int32) (S : List Value) (h : zH), zD 106 5 [l0, l1, some (.int x), l3, l4, l5] S h = zD 106 6 [l0, l1, some (.int x), l3, l4, l5] (.int x :: S) h) ∧
  (∀ (l0 l1 l2 l3 l4 l5 : Option Value) (p0 : Int32) (p1 : Int32) (a : Nat) (r : List Value) (h : zH) (hcat : zcat r ≤ 8) (hr : zis (h.2.2 a) 3 = true) (hC : (zC 51 (.ref a :: [.int p0, .int p1]) h).isSome = true), zD 106 6 [l0, l1, l2, l3, l4, l5] (.int p1 :: .int p0 :: .ref a :: r) h = zD 106 9 [l0, l1, l2, l3, l4, l5] (zgv (zC 51 (.ref a :: [.int p0, .int p1]) h) ++ r) (zgh h (zC 51 (.ref a :: [.int p0, .int p1]) h))) ∧
  (∀ (l0 l1 l2 l3 l4 l5 : Option Value) (x : Int32) (r : List Value) (h : zH), zD 106 9 [l0, l1, l2, l3, l4, l5] (.int x :: r) h = if ¬ x = 0 then zD 106 15 [l0, l1, l2, l3, l4, l5] r h else zD 106 12 [l0, l1, l2, l3, l4, l5] r h) ∧
  (∀ (l0 l1 l2 l3 l4 l5 : Option Value) (S : List Value) (h : zH), zD 106 12 [l0, l1, l2, l3, l4, l5] S h = zD 106 14 [l0, l1, l2, l3, l4, l5] (.int (-101 : Int32) :: S) h) ∧
  (∀ (l0 l1 l2 l3 l4 l5 : Option Value) (v : Int32) (h : zH), zD 106 14 [l0, l1, l2, l3, l4, l5] [.int v] h = some (some (.int v), h)) ∧
  (∀ (l0 l2 l3 l4 l5 : Option Value) (x : Int32) (S : List Value) (h : zH), zD 106 15 [l0, some (.int x), l2, l3, l4, l5] S h = zD 106 16 [l0, some (.int x), l2, l3, l4, l5] (.int x :: S) h) ∧
  (∀ (l0 l1 l3 l4 l5 : Option Value) (x : Int32) (S : List Value) (h : zH), zD 106 16 [l0, l1, some (.int x), l3, l4, l5] S h = zD 106 17 [l0, l1, some (.int x), l3, l4, l5] (.int x :: S) h) ∧
  (∀ (l0 l1 l2 l3 l4 l5 : Option Value) (p0 : Int32) (p1 : Int32) (r : List Value) (h : zH) (hcat : zcat r ≤ 8) (hC : (zC 3 [.int p0, .int p1] h).isSome = true), zD 106 17 [l0, l1, l2, l3, l4, l5] (.int p1 :: .int p0 :: r) h = zD 106 20 [l0, l1, l2, l3, l4, l5] (zgv (zC 3 [.int p0, .int p1] h) ++ r) (zgh h (zC 3 [.int p0, .int p1] h))) ∧
  (∀ (l0 l1 l2 l3 l4 l5 : Option Value) (x : Int32) (r : List Value) (h : zH), zD 106 20 [l0, l1, l2, l3, l4, l5] (.int x :: r) h = zD 106 22 [l0, l1, l2, zclr l3, some (.int x), l5] r h) ∧
  (∀ (l1 l2 l3 l4 l5 : Option Value) (x : Nat) (S : List Value) (h : zH), zD 106 22 [some (.ref x), l1, l2, l3, l4, l5] S h = zD 106 23 [some (.ref x), l1, l2, l3, l4, l5] (.ref x :: S) h) ∧
  (∀ (l0 l1 l2 l3 l4 l5 : Option Value) (a : Nat) (r : List Value) (h : zH) (hx : zfok (h.2.2 a) 8 1 = true), zD 106 23 [l0, l1, l2, l3, l4, l5] (.ref a :: r) h = zD 106 26 [l0, l1, l2, l3, l4, l5] (zfv (h.2.2 a) 1 :: r) h) ∧
  (∀ (l0 l1 l2 l3 l4 l5 : Option Value) (a : Nat) (r : List Value) (h : zH) (hx : zfok (h.2.2 a) 2 1 = true), zD 106 26 [l0, l1, l2, l3, l4, l5] (.ref a :: r) h = zD 106 29 [l0, l1, l2, l3, l4, l5] (zfv (h.2.2 a) 1 :: r) h) ∧
  (∀ (l0 l1 l2 l3 l5 : Option Value) (x : Int32) (S : List Value) (h : zH), zD 106 29 [l0, l1, l2, l3, some (.int x), l5] S h = zD 106 31 [l0, l1, l2, l3, some (.int x), l5] (.int x :: S) h) ∧
  (∀ (l0 l1 l2 l3 l4 l5 : Option Value) (i : Int32) (a : Nat) (r : List Value) (h : zH) (hx : ziok a (h.2.2 a) i = true), zD 106 31 [l0, l1, l2, l3, l4, l5] (.int i :: .ref a :: r) h = zD 106 32 [l0, l1, l2, l3, l4, l5] (.int (ziv (h.2.2 a) i) :: r) h) ∧
  (∀ (l0 l1 l2 l3 l4 l5 : Option Value) (x : Int32) (r : List Value) (h : zH), zD 106 32 [l0, l1, l2, l3, l4, l5] (.int x :: r) h = zD 106 34 [l0, l1, l2, l3, zclr l4, some (.int x)] r h) ∧
  (∀ (l1 l2 l3 l4 l5 : Option Value) (x : Nat) (S : List Value) (h : zH), zD 106 34 [some (.ref x), l1, l2, l3, l4, l5] S h = zD 106 35 [some (.ref x), l1, l2, l3, l4, l5] (.ref x :: S) h) ∧
  (∀ (l0 l1 l2 l3 l4 l5 : Option Value) (a : Nat) (r : List Value) (h : zH) (hx : zfok (h.2.2 a) 8 1 = true), zD 106 35 [l0, l1, l2, l3, l4, l5] (.ref a :: r) h = zD 106 38 [l0, l1, l2, l3, l4, l5] (zfv (h.2.2 a) 1 :: r) h) ∧
  (∀ (l0 l1 l2 l3 l4 l5 : Option Value) (a : Nat) (r : List Value) (h : zH) (hx : zfok (h.2.2 a) 2 1 = true), zD 106 38 [l0, l1, l2, l3, l4, l5] (.ref a :: r) h = zD 106 41 [l0, l1, l2, l3, l4, l5] (zfv (h.2.2 a) 1 :: r) h) ∧
  (∀ (l0 l1 l2 l3 l5 : Option Value) (x : Int32) (S : List Value) (h : zH), zD 106 41 [l0, l1, l2, l3, some (.int x), l5] S h = zD 106 43 [l0, l1, l2, l3, some (.int x), l5] (.int x :: S) h) ∧
  (∀ (l0 l1 l2 l4 l5 : Option Value) (x : Int32) (S : List Value) (h : zH), zD 106 43 [l0, l1, l2, some (.int x), l4, l5] S h = zD 106 44 [l0, l1, l2, some (.int x), l4, l5] (.int x :: S) h) ∧
  (∀ (l0 l1 l2 l3 l4 l5 : Option Value) (x : Int32) (r : List Value) (h : zH), zD 106 44 [l0, l1, l2, l3, l4, l5] (.int x :: r) h = if x = 0 then zD 106 51 [l0, l1, l2, l3, l4, l5] r h else zD 106 47 [l0, l1, l2, l3, l4, l5] r h) ∧
  (∀ (l0 l1 l2 l3 l4 l5 : Option Value) (S : List Value) (h : zH), zD 106 47 [l0, l1, l2, l3, l4, l5] S h = zD 106 48 [l0, l1, l2, l3, l4, l5] (.int (1 : Int32) :: S) h) ∧
  (∀ (l0 l1 l2 l3 l4 l5 : Option Value) (S : List Value) (h : zH), zD 106 48 [l0, l1, l2, l3, l4, l5] S h = zD 106 52 [l0, l1, l2, l3, l4, l5] S h) ∧
  (∀ (l0 l1 l2 l3 l4 l5 : Option Value) (S : List Value) (h : zH), zD 106 51 [l0, l1, l2, l3, l4, l5] S h = zD 106 52 [l0, l1, l2, l3, l4, l5] (.int (0 : Int32) :: S) h) ∧
  (∀ (l0 l1 l2 l3 l4 l5 : Option Value) (w i : Int32) (a : Nat) (r : List Value) (h : zH) (hx : zpok (h.2.2 a) i = true), zD 106 52 [l0, l1, l2, l3, l4, l5] (.int w :: .int i :: .ref a :: r) h = zD 106 53 [l0, l1, l2, l3, l4, l5] r (zw h a (zis' (h.2.2 a) i w))) ∧
  (∀ (l0 l1 l2 l3 l4 : Option Value) (x : Int32) (S : List Value) (h : zH), zD 106 53 [l0, l1, l2, l3, l4, some (.int x)] S h = zD 106 55 [l0, l1, l2, l3, l4, some (.int x)] (.int x :: S) h) ∧
  (∀ (l0 l1 l2 l3 l4 l5 : Option Value) (v : Int32) (h : zH), zD 106 55 [l0, l1, l2, l3, l4, l5] [.int v] h = some (some (.int v), h)) :=
  ⟨fun l1 l2 l3 l4 l5 x S h => zD_op (ins := .aload_n 0) (len := 1) (c := (1, [some (.ref x), l1, l2, l3, l4, l5], (.ref x :: S), h)) (by decide +kernel) rfl rfl rfl rfl,
  fun l0 l1 l2 l3 l4 l5 a r h hx => zD_getf (i := 12) (ci := 8) (k := 0) (q := (248, 0)) (by decide +kernel) (by decide +kernel) hx,
  fun l0 l2 l3 l4 l5 x S h => zD_op (ins := .iload_n 1) (len := 1) (c := (5, [l0, some (.int x), l2, l3, l4, l5], (.int x :: S), h)) (by decide +kernel) rfl rfl rfl rfl,
  fun l0 l1 l3 l4 l5 x S h => zD_op (ins := .iload_n 2) (len := 1) (c := (6, [l0, l1, some (.int x), l3, l4, l5], (.int x :: S), h)) (by decide +kernel) rfl rfl rfl rfl,
  fun l0 l1 l2 l3 l4 l5 p0 p1 a r h hcat hr hC => zD_callv (i := 83) (y := 51) (n := 2) (as := [.int p0, .int p1]) (ci := 3) (by decide +kernel) (by decide +kernel) rfl (by decide +kernel) (Nat.le_of_ble_eq_true rfl) (by decide +kernel) hcat hr hC,
  fun l0 l1 l2 l3 l4 l5 x r h => zD_if0 (cnd := .ne) (off := 6) (by decide +kernel) (by decide) rfl,
  fun l0 l1 l2 l3 l4 l5 S h => zD_bip (n := (-101)) (by decide +kernel) (by decide +kernel),
  fun l0 l1 l2 l3 l4 l5 v h => zD_ireti (by decide +kernel) rfl,
  fun l0 l2 l3 l4 l5 x S h => zD_op (ins := .iload_n 1) (len := 1) (c := (16, [l0, some (.int x), l2, l3, l4, l5], (.int x :: S), h)) (by decide +kernel) rfl rfl rfl rfl,
  fun l0 l1 l3 l4 l5 x S h => zD_op (ins := .iload_n 2) (len := 1) (c := (17, [l0, l1, some (.int x), l3, l4, l5], (.int x :: S), h)) (by decide +kernel) rfl rfl rfl rfl,
  fun l0 l1 l2 l3 l4 l5 p0 p1 r h hcat hC => zD_calls (i := 89) (y := 3) (n := 2) (as := [.int p0, .int p1]) (by decide +kernel) (by decide +kernel) rfl (by decide +kernel) (Nat.le_of_ble_eq_true rfl) hcat hC,
  fun l0 l1 l2 l3 l4 l5 x r h => zD_st1 (k := 4) (ins := .istore 4) (len := 2) (by decide +kernel) rfl rfl rfl (by decide +kernel) rfl rfl,
  fun l1 l2 l3 l4 l5 x S h => zD_op (ins := .aload_n 0) (len := 1) (c := (23, [some (.ref x), l1, l2, l3, l4, l5], (.ref x :: S), h)) (by decide +kernel) rfl rfl rfl rfl,
  fun l0 l1 l2 l3 l4 l5 a r h hx => zD_getf (i := 19) (ci := 8) (k := 1) (q := (249, 0)) (by decide +kernel) (by decide +kernel) hx,
  fun l0 l1 l2 l3 l4 l5 a r h hx => zD_getf (i := 96) (ci := 2) (k := 1) (q := (108, 1)) (by decide +kernel) (by decide +kernel) hx,
  fun l0 l1 l2 l3 l5 x S h => zD_op (ins := .iload 4) (len := 2) (c := (31, [l0, l1, l2, l3, some (.int x), l5], (.int x :: S), h)) (by decide +kernel) rfl rfl rfl rfl,
  fun l0 l1 l2 l3 l4 l5 i a r h hx => zD_iald (by decide +kernel) hx,
  fun l0 l1 l2 l3 l4 l5 x r h => zD_st1 (k := 5) (ins := .istore 5) (len := 2) (by decide +kernel) rfl rfl rfl (by decide +kernel) rfl rfl,
  fun l1 l2 l3 l4 l5 x S h => zD_op (ins := .aload_n 0) (len := 1) (c := (35, [some (.ref x), l1, l2, l3, l4, l5], (.ref x :: S), h)) (by decide +kernel) rfl rfl rfl rfl,
  fun l0 l1 l2 l3 l4 l5 a r h hx => zD_getf (i := 19) (ci := 8) (k := 1) (q := (249, 0)) (by decide +kernel) (by decide +kernel) hx,
  fun l0 l1 l2 l3 l4 l5 a r h hx => zD_getf (i := 96) (ci := 2) (k := 1) (q := (108, 1)) (by decide +kernel) (by decide +kernel) hx,
  fun l0 l1 l2 l3 l5 x S h => zD_op (ins := .iload 4) (len := 2) (c := (43, [l0, l1, l2, l3, some (.int x), l5], (.int x :: S), h)) (by decide +kernel) rfl rfl rfl rfl,
  fun l0 l1 l2 l4 l5 x S h => zD_op (ins := .iload_n 3) (len := 1) (c := (44, [l0, l1, l2, some (.int x), l4, l5], (.int x :: S), h)) (by decide +kernel) rfl rfl rfl rfl,
  fun l0 l1 l2 l3 l4 l5 x r h => zD_if0 (cnd := .eq) (off := 7) (by decide +kernel) (by decide) rfl,
  fun l0 l1 l2 l3 l4 l5 S h => zD_icst (n := 1) (by decide +kernel) (by decide +kernel),
  fun l0 l1 l2 l3 l4 l5 S h => zD_goto (off := 4) (by decide +kernel) (by decide),
  fun l0 l1 l2 l3 l4 l5 S h => zD_icst (n := 0) (by decide +kernel) (by decide +kernel),
  fun l0 l1 l2 l3 l4 l5 w i a r h hx => zD_iast (by decide +kernel) hx,
  fun l0 l1 l2 l3 l4 x S h => zD_op (ins := .iload 5) (len := 2) (c := (55, [l0, l1, l2, l3, l4, some (.int x)], (.int x :: S), h)) (by decide +kernel) rfl rfl rfl rfl,
  fun l0 l1 l2 l3 l4 l5 v h => zD_ireti (by decide +kernel) rfl⟩
set_option maxRecDepth 100000 in
theorem I_X9_forbid : (∀ (a : Nat) (p0 : Int32) (p1 : Int32) (p2 : Int32) (h : zH), zC 106 [.ref a, .int p0, .int p1, .int p2] h = zD 106 0 [some (.ref a), some (.int p0), some (.int p1), some (.int p2), none, none] [] h) :=
  fun a p0 p1 p2 h => zC_def rfl
set_option maxRecDepth 100000 in
theorem E_X9_weighs : (∀ (l1 l2 : Option Value) (x : Nat) (S : List Value) (h : zH), zD 107 0 [some (.ref x), l1, l2] S h = zD 107 1 [some (.ref x), l1, l2] (.ref x :: S) h) ∧
  (∀ (l0 l1 l2 : Option Value) (a : Nat) (r : List Value) (h : zH) (hx : zfok (h.2.2 a) 8 0 = true), zD 107 1 [l0, l1, l2] (.ref a :: r) h = zD 107 4 [l0, l1, l2] (zfv (h.2.2 a) 0 :: r) h) ∧
  (∀ (l0 l2 : Option Value) (x : Int32) (S : List Value) (h : zH), zD 107 4 [l0, some (.int x), l2] S h = zD 107 5 [l0, some (.int x), l2] (.int x :: S) h) ∧
  (∀ (l0 l1 : Option Value) (x : Int32) (S : List Value) (h : zH), zD 107 5 [l0, l1, some (.int x)] S h = zD 107 6 [l0, l1, some (.int x)] (.int x :: S) h) ∧
  (∀ (l0 l1 l2 : Option Value) (p0 : Int32) (p1 : Int32) (a : Nat) (r : List Value) (h : zH) (hcat : zcat r ≤ 8) (hr : zis (h.2.2 a) 3 = true) (hC : (zC 51 (.ref a :: [.int p0, .int p1]) h).isSome = true), zD 107 6 [l0, l1, l2] (.int p1 :: .int p0 :: .ref a :: r) h = zD 107 9 [l0, l1, l2] (zgv (zC 51 (.ref a :: [.int p0, .int p1]) h) ++ r) (zgh h (zC 51 (.ref a :: [.int p0, .int p1]) h))) ∧
  (∀ (l0 l1 l2 : Option Value) (x : Int32) (r : List Value) (h : zH), zD 107 9 [l0, l1, l2] (.int x :: r) h = if x = 0 then zD 107 28 [l0, l1, l2] r h else zD 107 12 [l0, l1, l2] r h) ∧
  (∀ (l1 l2 : Option Value) (x : Nat) (S : List Value) (h : zH), zD 107 12 [some (.ref x), l1, l2] S h = zD 107 13 [some (.ref x), l1, l2] (.ref x :: S) h) ∧
  (∀ (l0 l1 l2 : Option Value) (a : Nat) (r : List Value) (h : zH) (hx : zfok (h.2.2 a) 8 1 = true), zD 107 13 [l0, l1, l2] (.ref a :: r) h = zD 107 16 [l0, l1, l2] (zfv (h.2.2 a) 1 :: r) h) ∧
  (∀ (l0 l1 l2 : Option Value) (a : Nat) (r : List Value) (h : zH) (hx : zfok (h.2.2 a) 2 0 = true), zD 107 16 [l0, l1, l2] (.ref a :: r) h = zD 107 19 [l0, l1, l2] (zfv (h.2.2 a) 0 :: r) h) ∧
  (∀ (l0 l2 : Option Value) (x : Int32) (S : List Value) (h : zH), zD 107 19 [l0, some (.int x), l2] S h = zD 107 20 [l0, some (.int x), l2] (.int x :: S) h) ∧
  (∀ (l0 l1 : Option Value) (x : Int32) (S : List Value) (h : zH), zD 107 20 [l0, l1, some (.int x)] S h = zD 107 21 [l0, l1, some (.int x)] (.int x :: S) h) ∧
  (∀ (l0 l1 l2 : Option Value) (p0 : Int32) (p1 : Int32) (r : List Value) (h : zH) (hcat : zcat r ≤ 8) (hC : (zC 3 [.int p0, .int p1] h).isSome = true), zD 107 21 [l0, l1, l2] (.int p1 :: .int p0 :: r) h = zD 107 24 [l0, l1, l2] (zgv (zC 3 [.int p0, .int p1] h) ++ r) (zgh h (zC 3 [.int p0, .int p1] h))) ∧
  (∀ (l0 l1 l2 : Option Value) (i : Int32) (a : Nat) (r : List Value) (h : zH) (hx : ziok a (h.2.2 a) i = true), zD 107 24 [l0, l1, l2] (.int i :: .ref a :: r) h = zD 107 25 [l0, l1, l2] (.int (ziv (h.2.2 a) i) :: r) h) ∧
  (∀ (l0 l1 l2 : Option Value) (S : List Value) (h : zH), zD 107 25 [l0, l1, l2] S h = zD 107 30 [l0, l1, l2] S h) ∧
  (∀ (l0 l1 l2 : Option Value) (S : List Value) (h : zH), zD 107 28 [l0, l1, l2] S h = zD 107 30 [l0, l1, l2] (.int (-2000000 : Int32) :: S) h) ∧
  (∀ (l0 l1 l2 : Option Value) (v : Int32) (h : zH), zD 107 30 [l0, l1, l2] [.int v] h = some (some (.int v), h)) :=
  ⟨fun l1 l2 x S h => zD_op (ins := .aload_n 0) (len := 1) (c := (1, [some (.ref x), l1, l2], (.ref x :: S), h)) (by decide +kernel) rfl rfl rfl rfl,
  fun l0 l1 l2 a r h hx => zD_getf (i := 12) (ci := 8) (k := 0) (q := (248, 0)) (by decide +kernel) (by decide +kernel) hx,
  fun l0 l2 x S h => zD_op (ins := .iload_n 1) (len := 1) (c := (5, [l0, some (.int x), l2], (.int x :: S), h)) (by decide +kernel) rfl rfl rfl rfl,
  fun l0 l1 x S h => zD_op (ins := .iload_n 2) (len := 1) (c := (6, [l0, l1, some (.int x)], (.int x :: S), h)) (by decide +kernel) rfl rfl rfl rfl,
  fun l0 l1 l2 p0 p1 a r h hcat hr hC => zD_callv (i := 83) (y := 51) (n := 2) (as := [.int p0, .int p1]) (ci := 3) (by decide +kernel) (by decide +kernel) rfl (by decide +kernel) (Nat.le_of_ble_eq_true rfl) (by decide +kernel) hcat hr hC,
  fun l0 l1 l2 x r h => zD_if0 (cnd := .eq) (off := 19) (by decide +kernel) (by decide) rfl,
  fun l1 l2 x S h => zD_op (ins := .aload_n 0) (len := 1) (c := (13, [some (.ref x), l1, l2], (.ref x :: S), h)) (by decide +kernel) rfl rfl rfl rfl,
  fun l0 l1 l2 a r h hx => zD_getf (i := 19) (ci := 8) (k := 1) (q := (249, 0)) (by decide +kernel) (by decide +kernel) hx,
  fun l0 l1 l2 a r h hx => zD_getf (i := 93) (ci := 2) (k := 0) (q := (106, 1)) (by decide +kernel) (by decide +kernel) hx,
  fun l0 l2 x S h => zD_op (ins := .iload_n 1) (len := 1) (c := (20, [l0, some (.int x), l2], (.int x :: S), h)) (by decide +kernel) rfl rfl rfl rfl,
  fun l0 l1 x S h => zD_op (ins := .iload_n 2) (len := 1) (c := (21, [l0, l1, some (.int x)], (.int x :: S), h)) (by decide +kernel) rfl rfl rfl rfl,
  fun l0 l1 l2 p0 p1 r h hcat hC => zD_calls (i := 89) (y := 3) (n := 2) (as := [.int p0, .int p1]) (by decide +kernel) (by decide +kernel) rfl (by decide +kernel) (Nat.le_of_ble_eq_true rfl) hcat hC,
  fun l0 l1 l2 i a r h hx => zD_iald (by decide +kernel) hx,
  fun l0 l1 l2 S h => zD_goto (off := 5) (by decide +kernel) (by decide),
  fun l0 l1 l2 S h => zD_ldc (i := 99) (q := 317) (by decide +kernel) (by decide +kernel),
  fun l0 l1 l2 v h => zD_ireti (by decide +kernel) rfl⟩
set_option maxRecDepth 100000 in
theorem I_X9_weighs : (∀ (a : Nat) (p0 : Int32) (p1 : Int32) (h : zH), zC 107 [.ref a, .int p0, .int p1] h = zD 107 0 [some (.ref a), some (.int p0), some (.int p1)] [] h) :=
  fun a p0 p1 h => zC_def rfl
set_option maxRecDepth 100000 in
theorem E_X9_head : (∀ (l1 l2 l3 : Option Value) (x : Nat) (S : List Value) (h : zH), zD 108 0 [some (.ref x), l1, l2, l3] S h = zD 108 1 [some (.ref x), l1, l2, l3] (.ref x :: S) h) ∧
  (∀ (l0 l1 l2 l3 : Option Value) (a : Nat) (r : List Value) (h : zH) (hx : zfok (h.2.2 a) 8 0 = true), zD 108 1 [l0, l1, l2, l3] (.ref a :: r) h = zD 108 4 [l0, l1, l2, l3] (zfv (h.2.2 a) 0 :: r) h) ∧
  (∀ (l0 l1 l3 : Option Value) (x : Int32) (S : List Value) (h : zH), zD 108 4 [l0, l1, some (.int x), l3] S h = zD 108 5 [l0, l1, some (.int x), l3] (.int x :: S) h) ∧
  (∀ (l0 l2 l3 : Option Value) (x : Int32) (S : List Value) (h : zH), zD 108 5 [l0, some (.int x), l2, l3] S h = zD 108 6 [l0, some (.int x), l2, l3] (.int x :: S) h) ∧
  (∀ (l0 l1 l2 l3 : Option Value) (p0 : Int32) (p1 : Int32) (a : Nat) (r : List Value) (h : zH) (hcat : zcat r ≤ 8) (hr : zis (h.2.2 a) 3 = true) (hC : (zC 51 (.ref a :: [.int p0, .int p1]) h).isSome = true), zD 108 6 [l0, l1, l2, l3] (.int p1 :: .int p0 :: .ref a :: r) h = zD 108 9 [l0, l1, l2, l3] (zgv (zC 51 (.ref a :: [.int p0, .int p1]) h) ++ r) (zgh h (zC 51 (.ref a :: [.int p0, .int p1]) h))) ∧
  (∀ (l0 l1 l2 l3 : Option Value) (x : Int32) (r : List Value) (h : zH), zD 108 9 [l0, l1, l2, l3] (.int x :: r) h = if ¬ x = 0 then zD 108 15 [l0, l1, l2, l3] r h else zD 108 12 [l0, l1, l2, l3] r h) ∧
  (∀ (l0 l1 l2 l3 : Option Value) (S : List Value) (h : zH), zD 108 12 [l0, l1, l2, l3] S h = zD 108 14 [l0, l1, l2, l3] (.int (-101 : Int32) :: S) h) ∧
  (∀ (l0 l1 l2 l3 : Option Value) (v : Int32) (h : zH), zD 108 14 [l0, l1, l2, l3] [.int v] h = some (some (.int v), h)) ∧
  (∀ (l1 l2 l3 : Option Value) (x : Nat) (S : List Value) (h : zH), zD 108 15 [some (.ref x), l1, l2, l3] S h = zD 108 16 [some (.ref x), l1, l2, l3] (.ref x :: S) h) ∧
  (∀ (l0 l1 l2 l3 : Option Value) (a : Nat) (r : List Value) (h : zH) (hx : zfok (h.2.2 a) 8 0 = true), zD 108 16 [l0, l1, l2, l3] (.ref a :: r) h = zD 108 19 [l0, l1, l2, l3] (zfv (h.2.2 a) 0 :: r) h) ∧
  (∀ (l0 l1 l2 l3 : Option Value) (a : Nat) (r : List Value) (h : zH) (hx : zfok (h.2.2 a) 3 1 = true), zD 108 19 [l0, l1, l2, l3] (.ref a :: r) h = zD 108 22 [l0, l1, l2, l3] (zfv (h.2.2 a) 1 :: r) h) ∧
  (∀ (l0 l2 l3 : Option Value) (x : Int32) (S : List Value) (h : zH), zD 108 22 [l0, some (.int x), l2, l3] S h = zD 108 23 [l0, some (.int x), l2, l3] (.int x :: S) h) ∧
  (∀ (l0 l1 l2 l3 : Option Value) (i : Int32) (a : Nat) (r : List Value) (h : zH) (hx : ziok a (h.2.2 a) i = true), zD 108 23 [l0, l1, l2, l3] (.int i :: .ref a :: r) h = zD 108 24 [l0, l1, l2, l3] (.int (ziv (h.2.2 a) i) :: r) h) ∧
  (∀ (l0 l1 l2 l3 : Option Value) (x : Int32) (r : List Value) (h : zH), zD 108 24 [l0, l1, l2, l3] (.int x :: r) h = zD 108 25 [l0, l1, zclr l2, some (.int x)] r h) ∧
  (∀ (l1 l2 l3 : Option Value) (x : Nat) (S : List Value) (h : zH), zD 108 25 [some (.ref x), l1, l2, l3] S h = zD 108 26 [some (.ref x), l1, l2, l3] (.ref x :: S) h) ∧
  (∀ (l0 l1 l2 l3 : Option Value) (a : Nat) (r : List Value) (h : zH) (hx : zfok (h.2.2 a) 8 0 = true), zD 108 26 [l0, l1, l2, l3] (.ref a :: r) h = zD 108 29 [l0, l1, l2, l3] (zfv (h.2.2 a) 0 :: r) h) ∧
  (∀ (l0 l1 l2 l3 : Option Value) (a : Nat) (r : List Value) (h : zH) (hx : zfok (h.2.2 a) 3 1 = true), zD 108 29 [l0, l1, l2, l3] (.ref a :: r) h = zD 108 32 [l0, l1, l2, l3] (zfv (h.2.2 a) 1 :: r) h) ∧
  (∀ (l0 l2 l3 : Option Value) (x : Int32) (S : List Value) (h : zH), zD 108 32 [l0, some (.int x), l2, l3] S h = zD 108 33 [l0, some (.int x), l2, l3] (.int x :: S) h) ∧
  (∀ (l0 l1 l3 : Option Value) (x : Int32) (S : List Value) (h : zH), zD 108 33 [l0, l1, some (.int x), l3] S h = zD 108 34 [l0, l1, some (.int x), l3] (.int x :: S) h) ∧
  (∀ (l0 l1 l2 l3 : Option Value) (w i : Int32) (a : Nat) (r : List Value) (h : zH) (hx : zpok (h.2.2 a) i = true), zD 108 34 [l0, l1, l2, l3] (.int w :: .int i :: .ref a :: r) h = zD 108 35 [l0, l1, l2, l3] r (zw h a (zis' (h.2.2 a) i w))) ∧
  (∀ (l0 l1 l2 : Option Value) (x : Int32) (S : List Value) (h : zH), zD 108 35 [l0, l1, l2, some (.int x)] S h = zD 108 36 [l0, l1, l2, some (.int x)] (.int x :: S) h) ∧
  (∀ (l0 l1 l2 l3 : Option Value) (v : Int32) (h : zH), zD 108 36 [l0, l1, l2, l3] [.int v] h = some (some (.int v), h)) :=
  ⟨fun l1 l2 l3 x S h => zD_op (ins := .aload_n 0) (len := 1) (c := (1, [some (.ref x), l1, l2, l3], (.ref x :: S), h)) (by decide +kernel) rfl rfl rfl rfl,
  fun l0 l1 l2 l3 a r h hx => zD_getf (i := 12) (ci := 8) (k := 0) (q := (248, 0)) (by decide +kernel) (by decide +kernel) hx,
  fun l0 l1 l3 x S h => zD_op (ins := .iload_n 2) (len := 1) (c := (5, [l0, l1, some (.int x), l3], (.int x :: S), h)) (by decide +kernel) rfl rfl rfl rfl,
  fun l0 l2 l3 x S h => zD_op (ins := .iload_n 1) (len := 1) (c := (6, [l0, some (.int x), l2, l3], (.int x :: S), h)) (by decide +kernel) rfl rfl rfl rfl,
  fun l0 l1 l2 l3 p0 p1 a r h hcat hr hC => zD_callv (i := 83) (y := 51) (n := 2) (as := [.int p0, .int p1]) (ci := 3) (by decide +kernel) (by decide +kernel) rfl (by decide +kernel) (Nat.le_of_ble_eq_true rfl) (by decide +kernel) hcat hr hC,
  fun l0 l1 l2 l3 x r h => zD_if0 (cnd := .ne) (off := 6) (by decide +kernel) (by decide) rfl,
  fun l0 l1 l2 l3 S h => zD_bip (n := (-101)) (by decide +kernel) (by decide +kernel),
  fun l0 l1 l2 l3 v h => zD_ireti (by decide +kernel) rfl,
  fun l1 l2 l3 x S h => zD_op (ins := .aload_n 0) (len := 1) (c := (16, [some (.ref x), l1, l2, l3], (.ref x :: S), h)) (by decide +kernel) rfl rfl rfl rfl,
  fun l0 l1 l2 l3 a r h hx => zD_getf (i := 12) (ci := 8) (k := 0) (q := (248, 0)) (by decide +kernel) (by decide +kernel) hx,
  fun l0 l1 l2 l3 a r h hx => zD_getf (i := 100) (ci := 3) (k := 1) (q := (84, 1)) (by decide +kernel) (by decide +kernel) hx,
  fun l0 l2 l3 x S h => zD_op (ins := .iload_n 1) (len := 1) (c := (23, [l0, some (.int x), l2, l3], (.int x :: S), h)) (by decide +kernel) rfl rfl rfl rfl,
  fun l0 l1 l2 l3 i a r h hx => zD_iald (by decide +kernel) hx,
  fun l0 l1 l2 l3 x r h => zD_st1 (k := 3) (ins := .istore_n 3) (len := 1) (by decide +kernel) rfl rfl rfl (by decide +kernel) rfl rfl,
  fun l1 l2 l3 x S h => zD_op (ins := .aload_n 0) (len := 1) (c := (26, [some (.ref x), l1, l2, l3], (.ref x :: S), h)) (by decide +kernel) rfl rfl rfl rfl,
  fun l0 l1 l2 l3 a r h hx => zD_getf (i := 12) (ci := 8) (k := 0) (q := (248, 0)) (by decide +kernel) (by decide +kernel) hx,
  fun l0 l1 l2 l3 a r h hx => zD_getf (i := 100) (ci := 3) (k := 1) (q := (84, 1)) (by decide +kernel) (by decide +kernel) hx,
  fun l0 l2 l3 x S h => zD_op (ins := .iload_n 1) (len := 1) (c := (33, [l0, some (.int x), l2, l3], (.int x :: S), h)) (by decide +kernel) rfl rfl rfl rfl,
  fun l0 l1 l3 x S h => zD_op (ins := .iload_n 2) (len := 1) (c := (34, [l0, l1, some (.int x), l3], (.int x :: S), h)) (by decide +kernel) rfl rfl rfl rfl,
  fun l0 l1 l2 l3 w i a r h hx => zD_iast (by decide +kernel) hx,
  fun l0 l1 l2 x S h => zD_op (ins := .iload_n 3) (len := 1) (c := (36, [l0, l1, l2, some (.int x)], (.int x :: S), h)) (by decide +kernel) rfl rfl rfl rfl,
  fun l0 l1 l2 l3 v h => zD_ireti (by decide +kernel) rfl⟩
set_option maxRecDepth 100000 in
theorem I_X9_head : (∀ (a : Nat) (p0 : Int32) (p1 : Int32) (h : zH), zC 108 [.ref a, .int p0, .int p1] h = zD 108 0 [some (.ref a), some (.int p0), some (.int p1), none] [] h) :=
  fun a p0 p1 h => zC_def rfl
set_option maxRecDepth 100000 in
theorem E_X9_forget : (∀ (l1 l2 : Option Value) (x : Nat) (S : List Value) (h : zH), zD 109 0 [some (.ref x), l1, l2] S h = zD 109 1 [some (.ref x), l1, l2] (.ref x :: S) h) ∧
  (∀ (l0 l1 l2 : Option Value) (a : Nat) (r : List Value) (h : zH) (hx : zfok (h.2.2 a) 8 4 = true), zD 109 1 [l0, l1, l2] (.ref a :: r) h = zD 109 4 [l0, l1, l2] (zfv (h.2.2 a) 4 :: r) h) ∧
  (∀ (l0 l2 : Option Value) (x : Int32) (S : List Value) (h : zH), zD 109 4 [l0, some (.int x), l2] S h = zD 109 5 [l0, some (.int x), l2] (.int x :: S) h) ∧
  (∀ (l0 l1 l2 : Option Value) (p0 : Int32) (a : Nat) (r : List Value) (h : zH) (hcat : zcat r ≤ 8) (hr : zis (h.2.2 a) 1 = true) (hC : (zC 45 (.ref a :: [.int p0]) h).isSome = true), zD 109 5 [l0, l1, l2] (.int p0 :: .ref a :: r) h = zD 109 8 [l0, l1, l2] (zgv (zC 45 (.ref a :: [.int p0]) h) ++ r) (zgh h (zC 45 (.ref a :: [.int p0]) h))) ∧
  (∀ (l0 l1 l2 : Option Value) (x : Nat) (r : List Value) (h : zH), zD 109 8 [l0, l1, l2] (.ref x :: r) h = zD 109 9 [l0, zclr l1, some (.ref x)] r h) ∧
  (∀ (l0 l1 l2 : Option Value) (r : List Value) (h : zH), zD 109 8 [l0, l1, l2] (.null :: r) h = zD 109 9 [l0, zclr l1, some .null] r h) ∧
  (∀ (l0 l1 : Option Value) (x : Nat) (S : List Value) (h : zH), zD 109 9 [l0, l1, some (.ref x)] S h = zD 109 10 [l0, l1, some (.ref x)] (.ref x :: S) h) ∧
  (∀ (l0 l1 : Option Value) (S : List Value) (h : zH), zD 109 9 [l0, l1, some .null] S h = zD 109 10 [l0, l1, some .null] (.null :: S) h) ∧
  (∀ (l0 l1 l2 : Option Value) (r : List Value) (h : zH), zD 109 10 [l0, l1, l2] (.null :: r) h = zD 109 13 [l0, l1, l2] r h) ∧
  (∀ (l0 l1 l2 : Option Value) (x : Nat) (r : List Value) (h : zH), zD 109 10 [l0, l1, l2] (.ref x :: r) h = zD 109 16 [l0, l1, l2] r h) ∧
  (∀ (l0 l1 l2 : Option Value) (S : List Value) (h : zH), zD 109 13 [l0, l1, l2] S h = zD 109 15 [l0, l1, l2] (.int (-101 : Int32) :: S) h) ∧
  (∀ (l0 l1 l2 : Option Value) (v : Int32) (h : zH), zD 109 15 [l0, l1, l2] [.int v] h = some (some (.int v), h)) ∧
  (∀ (l1 l2 : Option Value) (x : Nat) (S : List Value) (h : zH), zD 109 16 [some (.ref x), l1, l2] S h = zD 109 17 [some (.ref x), l1, l2] (.ref x :: S) h) ∧
  (∀ (l0 l1 l2 : Option Value) (a : Nat) (r : List Value) (h : zH) (hx : zfok (h.2.2 a) 8 5 = true), zD 109 17 [l0, l1, l2] (.ref a :: r) h = zD 109 20 [l0, l1, l2] (zfv (h.2.2 a) 5 :: r) h) ∧
  (∀ (l0 l1 : Option Value) (x : Nat) (S : List Value) (h : zH), zD 109 20 [l0, l1, some (.ref x)] S h = zD 109 21 [l0, l1, some (.ref x)] (.ref x :: S) h) ∧
  (∀ (l0 l1 : Option Value) (S : List Value) (h : zH), zD 109 20 [l0, l1, some .null] S h = zD 109 21 [l0, l1, some .null] (.null :: S) h) ∧
  (∀ (l0 l1 l2 : Option Value) (S : List Value) (h : zH), zD 109 21 [l0, l1, l2] S h = zD 109 22 [l0, l1, l2] (.int (-1 : Int32) :: S) h) ∧
  (∀ (l0 l1 l2 : Option Value) (p0 : Nat) (p1 : Int32) (a : Nat) (r : List Value) (h : zH) (hcat : zcat r ≤ 8) (hr : zis (h.2.2 a) 6 = true) (hC : (zC 64 (.ref a :: [.ref p0, .int p1]) h).isSome = true), zD 109 22 [l0, l1, l2] (.int p1 :: .ref p0 :: .ref a :: r) h = zD 109 25 [l0, l1, l2] (zgv (zC 64 (.ref a :: [.ref p0, .int p1]) h) ++ r) (zgh h (zC 64 (.ref a :: [.ref p0, .int p1]) h))) ∧
  (∀ (l0 l1 : Option Value) (x : Nat) (S : List Value) (h : zH), zD 109 25 [l0, l1, some (.ref x)] S h = zD 109 26 [l0, l1, some (.ref x)] (.ref x :: S) h) ∧
  (∀ (l0 l1 : Option Value) (S : List Value) (h : zH), zD 109 25 [l0, l1, some .null] S h = zD 109 26 [l0, l1, some .null] (.null :: S) h) ∧
  (∀ (l0 l1 l2 : Option Value) (a : Nat) (r : List Value) (h : zH) (hx : zfok (h.2.2 a) 3 2 = true), zD 109 26 [l0, l1, l2] (.ref a :: r) h = zD 109 29 [l0, l1, l2] (zfv (h.2.2 a) 2 :: r) h) ∧
  (∀ (l0 l1 l2 : Option Value) (v : Int32) (h : zH), zD 109 29 [l0, l1, l2] [.int v] h = some (some (.int v), h)) :=
  ⟨fun l1 l2 x S h => zD_op (ins := .aload_n 0) (len := 1) (c := (1, [some (.ref x), l1, l2], (.ref x :: S), h)) (by decide +kernel) rfl rfl rfl rfl,
  fun l0 l1 l2 a r h hx => zD_getf (i := 48) (ci := 8) (k := 4) (q := (252, 0)) (by decide +kernel) (by decide +kernel) hx,
  fun l0 l2 x S h => zD_op (ins := .iload_n 1) (len := 1) (c := (5, [l0, some (.int x), l2], (.int x :: S), h)) (by decide +kernel) rfl rfl rfl rfl,
  fun l0 l1 l2 p0 a r h hcat hr hC => zD_callv (i := 188) (y := 45) (n := 1) (as := [.int p0]) (ci := 1) (by decide +kernel) (by decide +kernel) rfl (by decide +kernel) (Nat.le_of_ble_eq_true rfl) (by decide +kernel) hcat hr hC,
  fun l0 l1 l2 x r h => zD_st1 (k := 2) (ins := .astore_n 2) (len := 1) (by decide +kernel) rfl rfl rfl (by decide +kernel) rfl rfl,
  fun l0 l1 l2 r h => zD_st1 (k := 2) (ins := .astore_n 2) (len := 1) (by decide +kernel) rfl rfl rfl (by decide +kernel) rfl rfl,
  fun l0 l1 x S h => zD_op (ins := .aload_n 2) (len := 1) (c := (10, [l0, l1, some (.ref x)], (.ref x :: S), h)) (by decide +kernel) rfl rfl rfl rfl,
  fun l0 l1 S h => zD_op (ins := .aload_n 2) (len := 1) (c := (10, [l0, l1, some .null], (.null :: S), h)) (by decide +kernel) rfl rfl rfl rfl,
  fun l0 l1 l2 r h => zD_nn (off := 6) (t := 16) (by decide +kernel) (by decide),
  fun l0 l1 l2 x r h => zD_nnr (off := 6) (t := 16) (by decide +kernel) (by decide),
  fun l0 l1 l2 S h => zD_bip (n := (-101)) (by decide +kernel) (by decide +kernel),
  fun l0 l1 l2 v h => zD_ireti (by decide +kernel) rfl,
  fun l1 l2 x S h => zD_op (ins := .aload_n 0) (len := 1) (c := (17, [some (.ref x), l1, l2], (.ref x :: S), h)) (by decide +kernel) rfl rfl rfl rfl,
  fun l0 l1 l2 a r h hx => zD_getf (i := 55) (ci := 8) (k := 5) (q := (253, 0)) (by decide +kernel) (by decide +kernel) hx,
  fun l0 l1 x S h => zD_op (ins := .aload_n 2) (len := 1) (c := (21, [l0, l1, some (.ref x)], (.ref x :: S), h)) (by decide +kernel) rfl rfl rfl rfl,
  fun l0 l1 S h => zD_op (ins := .aload_n 2) (len := 1) (c := (21, [l0, l1, some .null], (.null :: S), h)) (by decide +kernel) rfl rfl rfl rfl,
  fun l0 l1 l2 S h => zD_icst (n := (-1)) (by decide +kernel) (by decide +kernel),
  fun l0 l1 l2 p0 p1 a r h hcat hr hC => zD_callv (i := 184) (y := 64) (n := 2) (as := [.ref p0, .int p1]) (ci := 6) (by decide +kernel) (by decide +kernel) rfl (by decide +kernel) (Nat.le_of_ble_eq_true rfl) (by decide +kernel) hcat hr hC,
  fun l0 l1 x S h => zD_op (ins := .aload_n 2) (len := 1) (c := (26, [l0, l1, some (.ref x)], (.ref x :: S), h)) (by decide +kernel) rfl rfl rfl rfl,
  fun l0 l1 S h => zD_op (ins := .aload_n 2) (len := 1) (c := (26, [l0, l1, some .null], (.null :: S), h)) (by decide +kernel) rfl rfl rfl rfl,
  fun l0 l1 l2 a r h hx => zD_getf (i := 166) (ci := 3) (k := 2) (q := (90, 1)) (by decide +kernel) (by decide +kernel) hx,
  fun l0 l1 l2 v h => zD_ireti (by decide +kernel) rfl⟩
set_option maxRecDepth 100000 in
theorem I_X9_forget : (∀ (a : Nat) (p0 : Int32) (h : zH), zC 109 [.ref a, .int p0] h = zD 109 0 [some (.ref a), some (.int p0), none] [] h) :=
  fun a p0 h => zC_def rfl
set_option maxRecDepth 100000 in
theorem E_X9_recall : (∀ (l1 l2 : Option Value) (x : Nat) (S : List Value) (h : zH), zD 110 0 [some (.ref x), l1, l2] S h = zD 110 1 [some (.ref x), l1, l2] (.ref x :: S) h) ∧
  (∀ (l0 l1 l2 : Option Value) (a : Nat) (r : List Value) (h : zH) (hx : zfok (h.2.2 a) 8 4 = true), zD 110 1 [l0, l1, l2] (.ref a :: r) h = zD 110 4 [l0, l1, l2] (zfv (h.2.2 a) 4 :: r) h) ∧
  (∀ (l0 l2 : Option Value) (x : Int32) (S : List Value) (h : zH), zD 110 4 [l0, some (.int x), l2] S h = zD 110 5 [l0, some (.int x), l2] (.int x :: S) h) ∧
  (∀ (l0 l1 l2 : Option Value) (p0 : Int32) (a : Nat) (r : List Value) (h : zH) (hcat : zcat r ≤ 8) (hr : zis (h.2.2 a) 1 = true) (hC : (zC 1 (.ref a :: [.int p0]) h).isSome = true), zD 110 5 [l0, l1, l2] (.int p0 :: .ref a :: r) h = zD 110 8 [l0, l1, l2] (zgv (zC 1 (.ref a :: [.int p0]) h) ++ r) (zgh h (zC 1 (.ref a :: [.int p0]) h))) ∧
  (∀ (l0 l1 l2 : Option Value) (x : Nat) (r : List Value) (h : zH), zD 110 8 [l0, l1, l2] (.ref x :: r) h = zD 110 9 [l0, zclr l1, some (.ref x)] r h) ∧
  (∀ (l0 l1 l2 : Option Value) (r : List Value) (h : zH), zD 110 8 [l0, l1, l2] (.null :: r) h = zD 110 9 [l0, zclr l1, some .null] r h) ∧
  (∀ (l0 l1 : Option Value) (x : Nat) (S : List Value) (h : zH), zD 110 9 [l0, l1, some (.ref x)] S h = zD 110 10 [l0, l1, some (.ref x)] (.ref x :: S) h) ∧
  (∀ (l0 l1 : Option Value) (S : List Value) (h : zH), zD 110 9 [l0, l1, some .null] S h = zD 110 10 [l0, l1, some .null] (.null :: S) h) ∧
  (∀ (l0 l1 l2 : Option Value) (r : List Value) (h : zH), zD 110 10 [l0, l1, l2] (.null :: r) h = zD 110 13 [l0, l1, l2] r h) ∧
  (∀ (l0 l1 l2 : Option Value) (x : Nat) (r : List Value) (h : zH), zD 110 10 [l0, l1, l2] (.ref x :: r) h = zD 110 16 [l0, l1, l2] r h) ∧
  (∀ (l0 l1 l2 : Option Value) (S : List Value) (h : zH), zD 110 13 [l0, l1, l2] S h = zD 110 15 [l0, l1, l2] (.int (-101 : Int32) :: S) h) ∧
  (∀ (l0 l1 l2 : Option Value) (v : Int32) (h : zH), zD 110 15 [l0, l1, l2] [.int v] h = some (some (.int v), h)) ∧
  (∀ (l1 l2 : Option Value) (x : Nat) (S : List Value) (h : zH), zD 110 16 [some (.ref x), l1, l2] S h = zD 110 17 [some (.ref x), l1, l2] (.ref x :: S) h) ∧
  (∀ (l0 l1 l2 : Option Value) (a : Nat) (r : List Value) (h : zH) (hx : zfok (h.2.2 a) 8 0 = true), zD 110 17 [l0, l1, l2] (.ref a :: r) h = zD 110 20 [l0, l1, l2] (zfv (h.2.2 a) 0 :: r) h) ∧
  (∀ (l0 l1 : Option Value) (x : Nat) (S : List Value) (h : zH), zD 110 20 [l0, l1, some (.ref x)] S h = zD 110 21 [l0, l1, some (.ref x)] (.ref x :: S) h) ∧
  (∀ (l0 l1 : Option Value) (S : List Value) (h : zH), zD 110 20 [l0, l1, some .null] S h = zD 110 21 [l0, l1, some .null] (.null :: S) h) ∧
  (∀ (l0 l1 l2 : Option Value) (p0 : Nat) (a : Nat) (r : List Value) (h : zH) (hcat : zcat r ≤ 8) (hr : zis (h.2.2 a) 3 = true) (hC : (zC 50 (.ref a :: [.ref p0]) h).isSome = true), zD 110 21 [l0, l1, l2] (.ref p0 :: .ref a :: r) h = zD 110 24 [l0, l1, l2] (zgv (zC 50 (.ref a :: [.ref p0]) h) ++ r) (zgh h (zC 50 (.ref a :: [.ref p0]) h))) ∧
  (∀ (l1 l2 : Option Value) (x : Nat) (S : List Value) (h : zH), zD 110 24 [some (.ref x), l1, l2] S h = zD 110 25 [some (.ref x), l1, l2] (.ref x :: S) h) ∧
  (∀ (l0 l1 l2 : Option Value) (a : Nat) (r : List Value) (h : zH) (hx : zfok (h.2.2 a) 8 1 = true), zD 110 25 [l0, l1, l2] (.ref a :: r) h = zD 110 28 [l0, l1, l2] (zfv (h.2.2 a) 1 :: r) h) ∧
  (∀ (l0 l1 l2 : Option Value) (a : Nat) (r : List Value) (h : zH) (hcat : zcat r ≤ 8) (hr : zis (h.2.2 a) 2 = true) (hC : (zC 47 [.ref a] h).isSome = true), zD 110 28 [l0, l1, l2] (.ref a :: r) h = zD 110 31 [l0, l1, l2] (zgv (zC 47 [.ref a] h) ++ r) (zgh h (zC 47 [.ref a] h))) ∧
  (∀ (l1 l2 : Option Value) (x : Nat) (S : List Value) (h : zH), zD 110 31 [some (.ref x), l1, l2] S h = zD 110 32 [some (.ref x), l1, l2] (.ref x :: S) h) ∧
  (∀ (l0 l1 l2 : Option Value) (a : Nat) (r : List Value) (h : zH) (hx : zfok (h.2.2 a) 8 0 = true), zD 110 32 [l0, l1, l2] (.ref a :: r) h = zD 110 35 [l0, l1, l2] (zfv (h.2.2 a) 0 :: r) h) ∧
  (∀ (l0 l1 l2 : Option Value) (a : Nat) (r : List Value) (h : zH) (hx : zfok (h.2.2 a) 3 2 = true), zD 110 35 [l0, l1, l2] (.ref a :: r) h = zD 110 38 [l0, l1, l2] (zfv (h.2.2 a) 2 :: r) h) ∧
  (∀ (l0 l1 l2 : Option Value) (v : Int32) (h : zH), zD 110 38 [l0, l1, l2] [.int v] h = some (some (.int v), h)) :=
  ⟨fun l1 l2 x S h => zD_op (ins := .aload_n 0) (len := 1) (c := (1, [some (.ref x), l1, l2], (.ref x :: S), h)) (by decide +kernel) rfl rfl rfl rfl,
  fun l0 l1 l2 a r h hx => zD_getf (i := 48) (ci := 8) (k := 4) (q := (252, 0)) (by decide +kernel) (by decide +kernel) hx,
  fun l0 l2 x S h => zD_op (ins := .iload_n 1) (len := 1) (c := (5, [l0, some (.int x), l2], (.int x :: S), h)) (by decide +kernel) rfl rfl rfl rfl,
  fun l0 l1 l2 p0 a r h hcat hr hC => zD_callv (i := 192) (y := 1) (n := 1) (as := [.int p0]) (ci := 1) (by decide +kernel) (by decide +kernel) rfl (by decide +kernel) (Nat.le_of_ble_eq_true rfl) (by decide +kernel) hcat hr hC,
  fun l0 l1 l2 x r h => zD_st1 (k := 2) (ins := .astore_n 2) (len := 1) (by decide +kernel) rfl rfl rfl (by decide +kernel) rfl rfl,
  fun l0 l1 l2 r h => zD_st1 (k := 2) (ins := .astore_n 2) (len := 1) (by decide +kernel) rfl rfl rfl (by decide +kernel) rfl rfl,
  fun l0 l1 x S h => zD_op (ins := .aload_n 2) (len := 1) (c := (10, [l0, l1, some (.ref x)], (.ref x :: S), h)) (by decide +kernel) rfl rfl rfl rfl,
  fun l0 l1 S h => zD_op (ins := .aload_n 2) (len := 1) (c := (10, [l0, l1, some .null], (.null :: S), h)) (by decide +kernel) rfl rfl rfl rfl,
  fun l0 l1 l2 r h => zD_nn (off := 6) (t := 16) (by decide +kernel) (by decide),
  fun l0 l1 l2 x r h => zD_nnr (off := 6) (t := 16) (by decide +kernel) (by decide),
  fun l0 l1 l2 S h => zD_bip (n := (-101)) (by decide +kernel) (by decide +kernel),
  fun l0 l1 l2 v h => zD_ireti (by decide +kernel) rfl,
  fun l1 l2 x S h => zD_op (ins := .aload_n 0) (len := 1) (c := (17, [some (.ref x), l1, l2], (.ref x :: S), h)) (by decide +kernel) rfl rfl rfl rfl,
  fun l0 l1 l2 a r h hx => zD_getf (i := 12) (ci := 8) (k := 0) (q := (248, 0)) (by decide +kernel) (by decide +kernel) hx,
  fun l0 l1 x S h => zD_op (ins := .aload_n 2) (len := 1) (c := (21, [l0, l1, some (.ref x)], (.ref x :: S), h)) (by decide +kernel) rfl rfl rfl rfl,
  fun l0 l1 S h => zD_op (ins := .aload_n 2) (len := 1) (c := (21, [l0, l1, some .null], (.null :: S), h)) (by decide +kernel) rfl rfl rfl rfl,
  fun l0 l1 l2 p0 a r h hcat hr hC => zD_callv (i := 194) (y := 50) (n := 1) (as := [.ref p0]) (ci := 3) (by decide +kernel) (by decide +kernel) rfl (by decide +kernel) (Nat.le_of_ble_eq_true rfl) (by decide +kernel) hcat hr hC,
  fun l1 l2 x S h => zD_op (ins := .aload_n 0) (len := 1) (c := (25, [some (.ref x), l1, l2], (.ref x :: S), h)) (by decide +kernel) rfl rfl rfl rfl,
  fun l0 l1 l2 a r h hx => zD_getf (i := 19) (ci := 8) (k := 1) (q := (249, 0)) (by decide +kernel) (by decide +kernel) hx,
  fun l0 l1 l2 a r h hcat hr hC => zD_callv (i := 70) (y := 47) (n := 0) (as := []) (ci := 2) (by decide +kernel) (by decide +kernel) rfl (by decide +kernel) (Nat.le_of_ble_eq_true rfl) (by decide +kernel) hcat hr hC,
  fun l1 l2 x S h => zD_op (ins := .aload_n 0) (len := 1) (c := (32, [some (.ref x), l1, l2], (.ref x :: S), h)) (by decide +kernel) rfl rfl rfl rfl,
  fun l0 l1 l2 a r h hx => zD_getf (i := 12) (ci := 8) (k := 0) (q := (248, 0)) (by decide +kernel) (by decide +kernel) hx,
  fun l0 l1 l2 a r h hx => zD_getf (i := 166) (ci := 3) (k := 2) (q := (90, 1)) (by decide +kernel) (by decide +kernel) hx,
  fun l0 l1 l2 v h => zD_ireti (by decide +kernel) rfl⟩
set_option maxRecDepth 100000 in
theorem I_X9_recall : (∀ (a : Nat) (p0 : Int32) (h : zH), zC 110 [.ref a, .int p0] h = zD 110 0 [some (.ref a), some (.int p0), none] [] h) :=
  fun a p0 h => zC_def rfl
set_option maxRecDepth 100000 in
theorem E_X9_learn : (∀ (l0 l1 l2 l3 l4 : Option Value) (S : List Value) (h : zH), zD 111 0 [l0, l1, l2, l3, l4] S h = zD 111 1 [l0, l1, l2, l3, l4] (.int (0 : Int32) :: S) h) ∧
  (∀ (l0 l1 l2 l3 l4 : Option Value) (x : Int32) (r : List Value) (h : zH), zD 111 1 [l0, l1, l2, l3, l4] (.int x :: r) h = zD 111 2 [zclr l0, some (.int x), l2, l3, l4] r h) ∧
  (∀ (l0 l1 l2 l3 l4 : Option Value) (S : List Value) (h : zH), zD 111 2 [l0, l1, l2, l3, l4] S h = zD 111 3 [l0, l1, l2, l3, l4] (.int (1 : Int32) :: S) h) ∧
  (∀ (l0 l1 l2 l3 l4 : Option Value) (x : Int32) (r : List Value) (h : zH), zD 111 3 [l0, l1, l2, l3, l4] (.int x :: r) h = zD 111 4 [l0, zclr l1, some (.int x), l3, l4] r h) ∧
  (∀ (l1 l2 l3 l4 : Option Value) (x : Nat) (S : List Value) (h : zH), zD 111 5 [some (.ref x), l1, l2, l3, l4] S h = zD 111 6 [some (.ref x), l1, l2, l3, l4] (.ref x :: S) h) ∧
  (∀ (l0 l1 l2 l3 l4 : Option Value) (a : Nat) (r : List Value) (h : zH) (hx : zfok (h.2.2 a) 8 0 = true), zD 111 6 [l0, l1, l2, l3, l4] (.ref a :: r) h = zD 111 9 [l0, l1, l2, l3, l4] (zfv (h.2.2 a) 0 :: r) h) ∧
  (∀ (l0 l1 l2 l3 l4 : Option Value) (a : Nat) (r : List Value) (h : zH) (hx : zfok (h.2.2 a) 3 2 = true), zD 111 9 [l0, l1, l2, l3, l4] (.ref a :: r) h = zD 111 12 [l0, l1, l2, l3, l4] (zfv (h.2.2 a) 2 :: r) h) ∧
  (∀ (l0 l1 l2 l3 l4 : Option Value) (x y : Int32) (r : List Value) (h : zH), zD 111 12 [l0, l1, l2, l3, l4] (.int y :: .int x :: r) h = if y < x then zD 111 97 [l0, l1, l2, l3, l4] r h else zD 111 15 [l0, l1, l2, l3, l4] r h) ∧
  (∀ (l0 l1 l2 l3 l4 : Option Value) (S : List Value) (h : zH), zD 111 15 [l0, l1, l2, l3, l4] S h = zD 111 16 [l0, l1, l2, l3, l4] (.int (0 : Int32) :: S) h) ∧
  (∀ (l0 l1 l2 l3 l4 : Option Value) (x : Int32) (r : List Value) (h : zH), zD 111 16 [l0, l1, l2, l3, l4] (.int x :: r) h = zD 111 17 [l0, l1, zclr l2, some (.int x), l4] r h) ∧
  (∀ (l1 l2 l3 l4 : Option Value) (x : Nat) (S : List Value) (h : zH), zD 111 18 [some (.ref x), l1, l2, l3, l4] S h = zD 111 19 [some (.ref x), l1, l2, l3, l4] (.ref x :: S) h) ∧
  (∀ (l0 l1 l2 l3 l4 : Option Value) (a : Nat) (r : List Value) (h : zH) (hx : zfok (h.2.2 a) 8 0 = true), zD 111 19 [l0, l1, l2, l3, l4] (.ref a :: r) h = zD 111 22 [l0, l1, l2, l3, l4] (zfv (h.2.2 a) 0 :: r) h) ∧
  (∀ (l0 l1 l2 l3 l4 : Option Value) (a : Nat) (r : List Value) (h : zH) (hx : zfok (h.2.2 a) 3 2 = true), zD 111 22 [l0, l1, l2, l3, l4] (.ref a :: r) h = zD 111 25 [l0, l1, l2, l3, l4] (zfv (h.2.2 a) 2 :: r) h) ∧
  (∀ (l0 l1 l2 l3 l4 : Option Value) (x y : Int32) (r : List Value) (h : zH), zD 111 25 [l0, l1, l2, l3, l4] (.int y :: .int x :: r) h = if y < x then zD 111 91 [l0, l1, l2, l3, l4] r h else zD 111 28 [l0, l1, l2, l3, l4] r h) ∧
  (∀ (l0 l1 l2 l4 : Option Value) (x : Int32) (S : List Value) (h : zH), zD 111 28 [l0, l1, l2, some (.int x), l4] S h = zD 111 29 [l0, l1, l2, some (.int x), l4] (.int x :: S) h) ∧
  (∀ (l0 l1 l3 l4 : Option Value) (x : Int32) (S : List Value) (h : zH), zD 111 29 [l0, l1, some (.int x), l3, l4] S h = zD 111 30 [l0, l1, some (.int x), l3, l4] (.int x :: S) h) ∧
  (∀ (l0 l1 l2 l3 l4 : Option Value) (x y : Int32) (r : List Value) (h : zH), zD 111 30 [l0, l1, l2, l3, l4] (.int y :: .int x :: r) h = if x = y then zD 111 85 [l0, l1, l2, l3, l4] r h else zD 111 33 [l0, l1, l2, l3, l4] r h) ∧
  (∀ (l1 l2 l3 l4 : Option Value) (x : Nat) (S : List Value) (h : zH), zD 111 33 [some (.ref x), l1, l2, l3, l4] S h = zD 111 34 [some (.ref x), l1, l2, l3, l4] (.ref x :: S) h) ∧
  (∀ (l0 l1 l2 l3 l4 : Option Value) (a : Nat) (r : List Value) (h : zH) (hx : zfok (h.2.2 a) 8 5 = true), zD 111 34 [l0, l1, l2, l3, l4] (.ref a :: r) h = zD 111 37 [l0, l1, l2, l3, l4] (zfv (h.2.2 a) 5 :: r) h) ∧
  (∀ (l1 l2 l3 l4 : Option Value) (x : Nat) (S : List Value) (h : zH), zD 111 37 [some (.ref x), l1, l2, l3, l4] S h = zD 111 38 [some (.ref x), l1, l2, l3, l4] (.ref x :: S) h) ∧
  (∀ (l0 l1 l2 l3 l4 : Option Value) (a : Nat) (r : List Value) (h : zH) (hx : zfok (h.2.2 a) 8 0 = true), zD 111 38 [l0, l1, l2, l3, l4] (.ref a :: r) h = zD 111 41 [l0, l1, l2, l3, l4] (zfv (h.2.2 a) 0 :: r) h) ∧
  (∀ (l0 l1 l2 l3 l4 : Option Value) (a : Nat) (r : List Value) (h : zH) (hx : zfok (h.2.2 a) 3 0 = true), zD 111 41 [l0, l1, l2, l3, l4] (.ref a :: r) h = zD 111 44 [l0, l1, l2, l3, l4] (zfv (h.2.2 a) 0 :: r) h) ∧
  (∀ (l0 l1 l2 l4 : Option Value) (x : Int32) (S : List Value) (h : zH), zD 111 44 [l0, l1, l2, some (.int x), l4] S h = zD 111 45 [l0, l1, l2, some (.int x), l4] (.int x :: S) h) ∧
  (∀ (l0 l1 l2 l3 l4 : Option Value) (i : Int32) (a : Nat) (r : List Value) (h : zH) (hx : ziok a (h.2.2 a) i = true), zD 111 45 [l0, l1, l2, l3, l4] (.int i :: .ref a :: r) h = zD 111 46 [l0, l1, l2, l3, l4] (.int (ziv (h.2.2 a) i) :: r) h) ∧
  (∀ (l1 l2 l3 l4 : Option Value) (x : Nat) (S : List Value) (h : zH), zD 111 46 [some (.ref x), l1, l2, l3, l4] S h = zD 111 47 [some (.ref x), l1, l2, l3, l4] (.ref x :: S) h) ∧
  (∀ (l0 l1 l2 l3 l4 : Option Value) (a : Nat) (r : List Value) (h : zH) (hx : zfok (h.2.2 a) 8 0 = true), zD 111 47 [l0, l1, l2, l3, l4] (.ref a :: r) h = zD 111 50 [l0, l1, l2, l3, l4] (zfv (h.2.2 a) 0 :: r) h) ∧
  (∀ (l0 l1 l2 l3 l4 : Option Value) (a : Nat) (r : List Value) (h : zH) (hx : zfok (h.2.2 a) 3 0 = true), zD 111 50 [l0, l1, l2, l3, l4] (.ref a :: r) h = zD 111 53 [l0, l1, l2, l3, l4] (zfv (h.2.2 a) 0 :: r) h) ∧
  (∀ (l0 l1 l3 l4 : Option Value) (x : Int32) (S : List Value) (h : zH), zD 111 53 [l0, l1, some (.int x), l3, l4] S h = zD 111 54 [l0, l1, some (.int x), l3, l4] (.int x :: S) h) ∧
  (∀ (l0 l1 l2 l3 l4 : Option Value) (i : Int32) (a : Nat) (r : List Value) (h : zH) (hx : ziok a (h.2.2 a) i = true), zD 111 54 [l0, l1, l2, l3, l4] (.int i :: .ref a :: r) h = zD 111 55 [l0, l1, l2, l3, l4] (.int (ziv (h.2.2 a) i) :: r) h) ∧
  (∀ (l0 l1 l2 l4 : Option Value) (x : Int32) (S : List Value) (h : zH), zD 111 55 [l0, l1, l2, some (.int x), l4] S h = zD 111 56 [l0, l1, l2, some (.int x), l4] (.int x :: S) h) ∧
  (∀ (l0 l1 l3 l4 : Option Value) (x : Int32) (S : List Value) (h : zH), zD 111 56 [l0, l1, some (.int x), l3, l4] S h = zD 111 57 [l0, l1, some (.int x), l3, l4] (.int x :: S) h) ∧
  (∀ (l0 l1 l2 l3 l4 : Option Value) (p0 : Int32) (p1 : Int32) (r : List Value) (h : zH) (hcat : zcat r ≤ 8) (hC : (zC 7 [.int p0, .int p1] h).isSome = true), zD 111 57 [l0, l1, l2, l3, l4] (.int p1 :: .int p0 :: r) h = zD 111 60 [l0, l1, l2, l3, l4] (zgv (zC 7 [.int p0, .int p1] h) ++ r) (zgh h (zC 7 [.int p0, .int p1] h))) ∧
  (∀ (l0 l1 l2 l3 l4 : Option Value) (p0 : Int32) (p1 : Int32) (p2 : Int32) (a : Nat) (r : List Value) (h : zH) (hcat : zcat r ≤ 8) (hr : zis (h.2.2 a) 6 = true) (hC : (zC 65 (.ref a :: [.int p0, .int p1, .int p2]) h).isSome = true), zD 111 60 [l0, l1, l2, l3, l4] (.int p2 :: .int p1 :: .int p0 :: .ref a :: r) h = zD 111 63 [l0, l1, l2, l3, l4] (zgv (zC 65 (.ref a :: [.int p0, .int p1, .int p2]) h) ++ r) (zgh h (zC 65 (.ref a :: [.int p0, .int p1, .int p2]) h))) ∧
  (∀ (l0 l1 l2 l3 l4 : Option Value) (x : Int32) (r : List Value) (h : zH), zD 111 63 [l0, l1, l2, l3, l4] (.int x :: r) h = zD 111 65 [l0, l1, l2, zclr l3, some (.int x)] r h) ∧
  (∀ (l1 l2 l3 l4 : Option Value) (x : Nat) (S : List Value) (h : zH), zD 111 65 [some (.ref x), l1, l2, l3, l4] S h = zD 111 66 [some (.ref x), l1, l2, l3, l4] (.ref x :: S) h) ∧
  (∀ (l0 l1 l2 l3 l4 : Option Value) (a : Nat) (r : List Value) (h : zH) (hx : zfok (h.2.2 a) 8 1 = true), zD 111 66 [l0, l1, l2, l3, l4] (.ref a :: r) h = zD 111 69 [l0, l1, l2, l3, l4] (zfv (h.2.2 a) 1 :: r) h) ∧
  (∀ (l0 l1 l2 l3 l4 : Option Value) (a : Nat) (r : List Value) (h : zH) (hx : zfok (h.2.2 a) 2 0 = true), zD 111 69 [l0, l1, l2, l3, l4] (.ref a :: r) h = zD 111 72 [l0, l1, l2, l3, l4] (zfv (h.2.2 a) 0 :: r) h) ∧
  (∀ (l0 l1 l2 l4 : Option Value) (x : Int32) (S : List Value) (h : zH), zD 111 72 [l0, l1, l2, some (.int x), l4] S h = zD 111 73 [l0, l1, l2, some (.int x), l4] (.int x :: S) h) ∧
  (∀ (l0 l1 l3 l4 : Option Value) (x : Int32) (S : List Value) (h : zH), zD 111 73 [l0, l1, some (.int x), l3, l4] S h = zD 111 74 [l0, l1, some (.int x), l3, l4] (.int x :: S) h) ∧
  (∀ (l0 l1 l2 l3 l4 : Option Value) (p0 : Int32) (p1 : Int32) (r : List Value) (h : zH) (hcat : zcat r ≤ 8) (hC : (zC 3 [.int p0, .int p1] h).isSome = true), zD 111 74 [l0, l1, l2, l3, l4] (.int p1 :: .int p0 :: r) h = zD 111 77 [l0, l1, l2, l3, l4] (zgv (zC 3 [.int p0, .int p1] h) ++ r) (zgh h (zC 3 [.int p0, .int p1] h))) ∧
  (∀ (l0 l1 l2 l3 : Option Value) (x : Int32) (S : List Value) (h : zH), zD 111 77 [l0, l1, l2, l3, some (.int x)] S h = zD 111 79 [l0, l1, l2, l3, some (.int x)] (.int x :: S) h) ∧
  (∀ (l0 l1 l2 l3 l4 : Option Value) (w i : Int32) (a : Nat) (r : List Value) (h : zH) (hx : zpok (h.2.2 a) i = true), zD 111 79 [l0, l1, l2, l3, l4] (.int w :: .int i :: .ref a :: r) h = zD 111 80 [l0, l1, l2, l3, l4] r (zw h a (zis' (h.2.2 a) i w))) ∧
  (∀ (l0 l2 l3 l4 : Option Value) (x : Int32) (S : List Value) (h : zH), zD 111 80 [l0, some (.int x), l2, l3, l4] S h = zD 111 81 [l0, some (.int x), l2, l3, l4] (.int x :: S) h) ∧
  (∀ (l0 l1 l2 l3 : Option Value) (x : Int32) (S : List Value) (h : zH), zD 111 81 [l0, l1, l2, l3, some (.int x)] S h = zD 111 83 [l0, l1, l2, l3, some (.int x)] (.int x :: S) h) ∧
  (∀ (l0 l1 l2 l3 l4 : Option Value) (x y : Int32) (r : List Value) (h : zH), zD 111 83 [l0, l1, l2, l3, l4] (.int y :: .int x :: r) h = zD 111 84 [l0, l1, l2, l3, l4] (.int (x + y) :: r) h) ∧
  (∀ (l0 l1 l2 l3 l4 : Option Value) (x : Int32) (r : List Value) (h : zH), zD 111 84 [l0, l1, l2, l3, l4] (.int x :: r) h = zD 111 85 [zclr l0, some (.int x), l2, l3, l4] r h) ∧
  (∀ (l0 l1 l2 l4 : Option Value) (x : Int32) (S : List Value) (h : zH), zD 111 85 [l0, l1, l2, some (.int x), l4] S h = zD 111 88 [l0, l1, zclr l2, some (.int (x + (1 : Int32))), l4] S h) ∧
  (∀ (l0 l1 l2 l3 l4 : Option Value) (S : List Value) (h : zH), zD 111 88 [l0, l1, l2, l3, l4] S h = zD 111 17 [l0, l1, l2, l3, l4] S h) ∧
  (∀ (l0 l1 l3 l4 : Option Value) (x : Int32) (S : List Value) (h : zH), zD 111 91 [l0, l1, some (.int x), l3, l4] S h = zD 111 94 [l0, zclr l1, some (.int (x + (1 : Int32))), l3, l4] S h) ∧
  (∀ (l0 l1 l2 l3 l4 : Option Value) (S : List Value) (h : zH), zD 111 94 [l0, l1, l2, l3, l4] S h = zD 111 4 [l0, l1, l2, l3, l4] S h) ∧
  (∀ (l0 l2 l3 l4 : Option Value) (x : Int32) (S : List Value) (h : zH), zD 111 97 [l0, some (.int x), l2, l3, l4] S h = zD 111 98 [l0, some (.int x), l2, l3, l4] (.int x :: S) h) ∧
  (∀ (l0 l1 l2 l3 l4 : Option Value) (v : Int32) (h : zH), zD 111 98 [l0, l1, l2, l3, l4] [.int v] h = some (some (.int v), h)) :=
  ⟨fun l0 l1 l2 l3 l4 S h => zD_icst (n := 0) (by decide +kernel) (by decide +kernel),
  fun l0 l1 l2 l3 l4 x r h => zD_st1 (k := 1) (ins := .istore_n 1) (len := 1) (by decide +kernel) rfl rfl rfl (by decide +kernel) rfl rfl,
  fun l0 l1 l2 l3 l4 S h => zD_icst (n := 1) (by decide +kernel) (by decide +kernel),
  fun l0 l1 l2 l3 l4 x r h => zD_st1 (k := 2) (ins := .istore_n 2) (len := 1) (by decide +kernel) rfl rfl rfl (by decide +kernel) rfl rfl,
  fun l1 l2 l3 l4 x S h => zD_op (ins := .aload_n 0) (len := 1) (c := (6, [some (.ref x), l1, l2, l3, l4], (.ref x :: S), h)) (by decide +kernel) rfl rfl rfl rfl,
  fun l0 l1 l2 l3 l4 a r h hx => zD_getf (i := 12) (ci := 8) (k := 0) (q := (248, 0)) (by decide +kernel) (by decide +kernel) hx,
  fun l0 l1 l2 l3 l4 a r h hx => zD_getf (i := 166) (ci := 3) (k := 2) (q := (90, 1)) (by decide +kernel) (by decide +kernel) hx,
  fun l0 l1 l2 l3 l4 x y r h => zD_if (cnd := .gt) (off := 85) (by decide +kernel) (by decide) rfl,
  fun l0 l1 l2 l3 l4 S h => zD_icst (n := 0) (by decide +kernel) (by decide +kernel),
  fun l0 l1 l2 l3 l4 x r h => zD_st1 (k := 3) (ins := .istore_n 3) (len := 1) (by decide +kernel) rfl rfl rfl (by decide +kernel) rfl rfl,
  fun l1 l2 l3 l4 x S h => zD_op (ins := .aload_n 0) (len := 1) (c := (19, [some (.ref x), l1, l2, l3, l4], (.ref x :: S), h)) (by decide +kernel) rfl rfl rfl rfl,
  fun l0 l1 l2 l3 l4 a r h hx => zD_getf (i := 12) (ci := 8) (k := 0) (q := (248, 0)) (by decide +kernel) (by decide +kernel) hx,
  fun l0 l1 l2 l3 l4 a r h hx => zD_getf (i := 166) (ci := 3) (k := 2) (q := (90, 1)) (by decide +kernel) (by decide +kernel) hx,
  fun l0 l1 l2 l3 l4 x y r h => zD_if (cnd := .gt) (off := 66) (by decide +kernel) (by decide) rfl,
  fun l0 l1 l2 l4 x S h => zD_op (ins := .iload_n 3) (len := 1) (c := (29, [l0, l1, l2, some (.int x), l4], (.int x :: S), h)) (by decide +kernel) rfl rfl rfl rfl,
  fun l0 l1 l3 l4 x S h => zD_op (ins := .iload_n 2) (len := 1) (c := (30, [l0, l1, some (.int x), l3, l4], (.int x :: S), h)) (by decide +kernel) rfl rfl rfl rfl,
  fun l0 l1 l2 l3 l4 x y r h => zD_if (cnd := .eq) (off := 55) (by decide +kernel) (by decide) rfl,
  fun l1 l2 l3 l4 x S h => zD_op (ins := .aload_n 0) (len := 1) (c := (34, [some (.ref x), l1, l2, l3, l4], (.ref x :: S), h)) (by decide +kernel) rfl rfl rfl rfl,
  fun l0 l1 l2 l3 l4 a r h hx => zD_getf (i := 55) (ci := 8) (k := 5) (q := (253, 0)) (by decide +kernel) (by decide +kernel) hx,
  fun l1 l2 l3 l4 x S h => zD_op (ins := .aload_n 0) (len := 1) (c := (38, [some (.ref x), l1, l2, l3, l4], (.ref x :: S), h)) (by decide +kernel) rfl rfl rfl rfl,
  fun l0 l1 l2 l3 l4 a r h hx => zD_getf (i := 12) (ci := 8) (k := 0) (q := (248, 0)) (by decide +kernel) (by decide +kernel) hx,
  fun l0 l1 l2 l3 l4 a r h hx => zD_getf (i := 79) (ci := 3) (k := 0) (q := (79, 1)) (by decide +kernel) (by decide +kernel) hx,
  fun l0 l1 l2 l4 x S h => zD_op (ins := .iload_n 3) (len := 1) (c := (45, [l0, l1, l2, some (.int x), l4], (.int x :: S), h)) (by decide +kernel) rfl rfl rfl rfl,
  fun l0 l1 l2 l3 l4 i a r h hx => zD_iald (by decide +kernel) hx,
  fun l1 l2 l3 l4 x S h => zD_op (ins := .aload_n 0) (len := 1) (c := (47, [some (.ref x), l1, l2, l3, l4], (.ref x :: S), h)) (by decide +kernel) rfl rfl rfl rfl,
  fun l0 l1 l2 l3 l4 a r h hx => zD_getf (i := 12) (ci := 8) (k := 0) (q := (248, 0)) (by decide +kernel) (by decide +kernel) hx,
  fun l0 l1 l2 l3 l4 a r h hx => zD_getf (i := 79) (ci := 3) (k := 0) (q := (79, 1)) (by decide +kernel) (by decide +kernel) hx,
  fun l0 l1 l3 l4 x S h => zD_op (ins := .iload_n 2) (len := 1) (c := (54, [l0, l1, some (.int x), l3, l4], (.int x :: S), h)) (by decide +kernel) rfl rfl rfl rfl,
  fun l0 l1 l2 l3 l4 i a r h hx => zD_iald (by decide +kernel) hx,
  fun l0 l1 l2 l4 x S h => zD_op (ins := .iload_n 3) (len := 1) (c := (56, [l0, l1, l2, some (.int x), l4], (.int x :: S), h)) (by decide +kernel) rfl rfl rfl rfl,
  fun l0 l1 l3 l4 x S h => zD_op (ins := .iload_n 2) (len := 1) (c := (57, [l0, l1, some (.int x), l3, l4], (.int x :: S), h)) (by decide +kernel) rfl rfl rfl rfl,
  fun l0 l1 l2 l3 l4 p0 p1 r h hcat hC => zD_calls (i := 204) (y := 7) (n := 2) (as := [.int p0, .int p1]) (by decide +kernel) (by decide +kernel) rfl (by decide +kernel) (Nat.le_of_ble_eq_true rfl) hcat hC,
  fun l0 l1 l2 l3 l4 p0 p1 p2 a r h hcat hr hC => zD_callv (i := 207) (y := 65) (n := 3) (as := [.int p0, .int p1, .int p2]) (ci := 6) (by decide +kernel) (by decide +kernel) rfl (by decide +kernel) (Nat.le_of_ble_eq_true rfl) (by decide +kernel) hcat hr hC,
  fun l0 l1 l2 l3 l4 x r h => zD_st1 (k := 4) (ins := .istore 4) (len := 2) (by decide +kernel) rfl rfl rfl (by decide +kernel) rfl rfl,
  fun l1 l2 l3 l4 x S h => zD_op (ins := .aload_n 0) (len := 1) (c := (66, [some (.ref x), l1, l2, l3, l4], (.ref x :: S), h)) (by decide +kernel) rfl rfl rfl rfl,
  fun l0 l1 l2 l3 l4 a r h hx => zD_getf (i := 19) (ci := 8) (k := 1) (q := (249, 0)) (by decide +kernel) (by decide +kernel) hx,
  fun l0 l1 l2 l3 l4 a r h hx => zD_getf (i := 93) (ci := 2) (k := 0) (q := (106, 1)) (by decide +kernel) (by decide +kernel) hx,
  fun l0 l1 l2 l4 x S h => zD_op (ins := .iload_n 3) (len := 1) (c := (73, [l0, l1, l2, some (.int x), l4], (.int x :: S), h)) (by decide +kernel) rfl rfl rfl rfl,
  fun l0 l1 l3 l4 x S h => zD_op (ins := .iload_n 2) (len := 1) (c := (74, [l0, l1, some (.int x), l3, l4], (.int x :: S), h)) (by decide +kernel) rfl rfl rfl rfl,
  fun l0 l1 l2 l3 l4 p0 p1 r h hcat hC => zD_calls (i := 89) (y := 3) (n := 2) (as := [.int p0, .int p1]) (by decide +kernel) (by decide +kernel) rfl (by decide +kernel) (Nat.le_of_ble_eq_true rfl) hcat hC,
  fun l0 l1 l2 l3 x S h => zD_op (ins := .iload 4) (len := 2) (c := (79, [l0, l1, l2, l3, some (.int x)], (.int x :: S), h)) (by decide +kernel) rfl rfl rfl rfl,
  fun l0 l1 l2 l3 l4 w i a r h hx => zD_iast (by decide +kernel) hx,
  fun l0 l2 l3 l4 x S h => zD_op (ins := .iload_n 1) (len := 1) (c := (81, [l0, some (.int x), l2, l3, l4], (.int x :: S), h)) (by decide +kernel) rfl rfl rfl rfl,
  fun l0 l1 l2 l3 x S h => zD_op (ins := .iload 4) (len := 2) (c := (83, [l0, l1, l2, l3, some (.int x)], (.int x :: S), h)) (by decide +kernel) rfl rfl rfl rfl,
  fun l0 l1 l2 l3 l4 x y r h => zD_op (ins := .iadd) (len := 1) (c := (84, [l0, l1, l2, l3, l4], (.int (x + y) :: r), h)) (by decide +kernel) rfl rfl rfl rfl,
  fun l0 l1 l2 l3 l4 x r h => zD_st1 (k := 1) (ins := .istore_n 1) (len := 1) (by decide +kernel) rfl rfl rfl (by decide +kernel) rfl rfl,
  fun l0 l1 l2 l4 x S h => zD_iinc (k := 3) (x := x) (c := (1 : Int32)) (n := 1) (by decide +kernel) (by decide +kernel) rfl (by decide +kernel) rfl,
  fun l0 l1 l2 l3 l4 S h => zD_goto (off := (-71)) (by decide +kernel) (by decide),
  fun l0 l1 l3 l4 x S h => zD_iinc (k := 2) (x := x) (c := (1 : Int32)) (n := 1) (by decide +kernel) (by decide +kernel) rfl (by decide +kernel) rfl,
  fun l0 l1 l2 l3 l4 S h => zD_goto (off := (-90)) (by decide +kernel) (by decide),
  fun l0 l2 l3 l4 x S h => zD_op (ins := .iload_n 1) (len := 1) (c := (98, [l0, some (.int x), l2, l3, l4], (.int x :: S), h)) (by decide +kernel) rfl rfl rfl rfl,
  fun l0 l1 l2 l3 l4 v h => zD_ireti (by decide +kernel) rfl⟩
set_option maxRecDepth 100000 in
theorem E_X9_learn_h4 : (∀ (l0 l1 l3 l4 : Option Value) (x : Int32) (S : List Value) (h : zH), zD 111 4 [l0, l1, some (.int x), l3, l4] S h = zD 111 5 [l0, l1, some (.int x), l3, l4] (.int x :: S) h) :=
  fun l0 l1 l3 l4 x S h => zD_op (ins := .iload_n 2) (len := 1) (c := (5, [l0, l1, some (.int x), l3, l4], (.int x :: S), h)) (by decide +kernel) rfl rfl rfl rfl
set_option maxRecDepth 100000 in
theorem E_X9_learn_h17 : (∀ (l0 l1 l2 l4 : Option Value) (x : Int32) (S : List Value) (h : zH), zD 111 17 [l0, l1, l2, some (.int x), l4] S h = zD 111 18 [l0, l1, l2, some (.int x), l4] (.int x :: S) h) :=
  fun l0 l1 l2 l4 x S h => zD_op (ins := .iload_n 3) (len := 1) (c := (18, [l0, l1, l2, some (.int x), l4], (.int x :: S), h)) (by decide +kernel) rfl rfl rfl rfl
set_option maxRecDepth 100000 in
theorem I_X9_learn : (∀ (a : Nat) (h : zH), zC 111 [.ref a] h = zD 111 0 [some (.ref a), none, none, none, none] [] h) :=
  fun a h => zC_def rfl
