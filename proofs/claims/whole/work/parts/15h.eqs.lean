set_option maxRecDepth 100000 in
theorem E_X9_is : (∀ (l0 l1 : Option Value) (S : List Value) (h : zH), zD 135 0 [l0, l1] S h = zD 135 1 [l0, l1] (.int (0 : Int32) :: S) h) ∧
  (∀ (l0 l1 : Option Value) (x : Int32) (r : List Value) (h : zH), zD 135 1 [l0, l1] (.int x :: r) h = zD 135 2 [zclr l0, some (.int x)] r h) ∧
  (∀ (l1 : Option Value) (x : Nat) (S : List Value) (h : zH), zD 135 2 [some (.ref x), l1] S h = zD 135 3 [some (.ref x), l1] (.ref x :: S) h) ∧
  (∀ (l0 l1 : Option Value) (a : Nat) (r : List Value) (h : zH) (hx : zfok (h.2.2 a) 8 0 = true), zD 135 3 [l0, l1] (.ref a :: r) h = zD 135 6 [l0, l1] (zfv (h.2.2 a) 0 :: r) h) ∧
  (∀ (l0 l1 : Option Value) (a : Nat) (r : List Value) (h : zH) (hcat : zcat r ≤ 8) (hr : zis (h.2.2 a) 3 = true) (hC : (zC 92 [.ref a] h).isSome = true), zD 135 6 [l0, l1] (.ref a :: r) h = zD 135 9 [l0, l1] (zgv (zC 92 [.ref a] h) ++ r) (zgh h (zC 92 [.ref a] h))) ∧
  (∀ (l0 l1 : Option Value) (x : Int32) (r : List Value) (h : zH), zD 135 9 [l0, l1] (.int x :: r) h = if x = 0 then zD 135 28 [l0, l1] r h else zD 135 12 [l0, l1] r h) ∧
  (∀ (l1 : Option Value) (x : Nat) (S : List Value) (h : zH), zD 135 12 [some (.ref x), l1] S h = zD 135 13 [some (.ref x), l1] (.ref x :: S) h) ∧
  (∀ (l0 l1 : Option Value) (a : Nat) (r : List Value) (h : zH) (hx : zfok (h.2.2 a) 8 0 = true), zD 135 13 [l0, l1] (.ref a :: r) h = zD 135 16 [l0, l1] (zfv (h.2.2 a) 0 :: r) h) ∧
  (∀ (l0 l1 : Option Value) (a : Nat) (r : List Value) (h : zH) (hcat : zcat r ≤ 8) (hr : zis (h.2.2 a) 3 = true) (hC : (zC 93 [.ref a] h).isSome = true), zD 135 16 [l0, l1] (.ref a :: r) h = zD 135 19 [l0, l1] (zgv (zC 93 [.ref a] h) ++ r) (zgh h (zC 93 [.ref a] h))) ∧
  (∀ (l0 l1 : Option Value) (x : Int32) (r : List Value) (h : zH), zD 135 19 [l0, l1] (.int x :: r) h = if x = 0 then zD 135 26 [l0, l1] r h else zD 135 22 [l0, l1] r h) ∧
  (∀ (l0 l1 : Option Value) (S : List Value) (h : zH), zD 135 22 [l0, l1] S h = zD 135 23 [l0, l1] (.int (2 : Int32) :: S) h) ∧
  (∀ (l0 l1 : Option Value) (S : List Value) (h : zH), zD 135 23 [l0, l1] S h = zD 135 27 [l0, l1] S h) ∧
  (∀ (l0 l1 : Option Value) (S : List Value) (h : zH), zD 135 26 [l0, l1] S h = zD 135 27 [l0, l1] (.int (1 : Int32) :: S) h) ∧
  (∀ (l0 l1 : Option Value) (x : Int32) (r : List Value) (h : zH), zD 135 27 [l0, l1] (.int x :: r) h = zD 135 28 [zclr l0, some (.int x)] r h) ∧
  (∀ (l1 : Option Value) (x : Nat) (S : List Value) (h : zH), zD 135 28 [some (.ref x), l1] S h = zD 135 29 [some (.ref x), l1] (.ref x :: S) h) ∧
  (∀ (l0 l1 : Option Value) (a : Nat) (r : List Value) (h : zH) (hx : zfok (h.2.2 a) 8 1 = true), zD 135 29 [l0, l1] (.ref a :: r) h = zD 135 32 [l0, l1] (zfv (h.2.2 a) 1 :: r) h) ∧
  (∀ (l1 : Option Value) (x : Nat) (S : List Value) (h : zH), zD 135 32 [some (.ref x), l1] S h = zD 135 33 [some (.ref x), l1] (.ref x :: S) h) ∧
  (∀ (l0 l1 : Option Value) (a : Nat) (r : List Value) (h : zH) (hx : zfok (h.2.2 a) 8 0 = true), zD 135 33 [l0, l1] (.ref a :: r) h = zD 135 36 [l0, l1] (zfv (h.2.2 a) 0 :: r) h) ∧
  (∀ (l0 l1 : Option Value) (p0 : Nat) (a : Nat) (r : List Value) (h : zH) (hcat : zcat r ≤ 8) (hr : zis (h.2.2 a) 2 = true) (hC : (zC 88 (.ref a :: [.ref p0]) h).isSome = true), zD 135 36 [l0, l1] (.ref p0 :: .ref a :: r) h = zD 135 39 [l0, l1] (zgv (zC 88 (.ref a :: [.ref p0]) h) ++ r) (zgh h (zC 88 (.ref a :: [.ref p0]) h))) ∧
  (∀ (l0 l1 : Option Value) (x : Int32) (r : List Value) (h : zH), zD 135 39 [l0, l1] (.int x :: r) h = if x = 0 then zD 135 48 [l0, l1] r h else zD 135 42 [l0, l1] r h) ∧
  (∀ (l0 : Option Value) (x : Int32) (S : List Value) (h : zH), zD 135 42 [l0, some (.int x)] S h = zD 135 43 [l0, some (.int x)] (.int x :: S) h) ∧
  (∀ (l0 l1 : Option Value) (S : List Value) (h : zH), zD 135 43 [l0, l1] S h = zD 135 44 [l0, l1] (.int (4 : Int32) :: S) h) ∧
  (∀ (l0 l1 : Option Value) (x y : Int32) (r : List Value) (h : zH), zD 135 44 [l0, l1] (.int y :: .int x :: r) h = zD 135 45 [l0, l1] (.int (x + y) :: r) h) ∧
  (∀ (l0 l1 : Option Value) (S : List Value) (h : zH), zD 135 45 [l0, l1] S h = zD 135 49 [l0, l1] S h) ∧
  (∀ (l0 : Option Value) (x : Int32) (S : List Value) (h : zH), zD 135 48 [l0, some (.int x)] S h = zD 135 49 [l0, some (.int x)] (.int x :: S) h) ∧
  (∀ (l0 l1 : Option Value) (v : Int32) (h : zH), zD 135 49 [l0, l1] [.int v] h = some (some (.int v), h)) :=
  ⟨fun l0 l1 S h => zD_icst (n := 0) (by decide +kernel) (by decide +kernel),
  fun l0 l1 x r h => zD_st1 (k := 1) (ins := .istore_n 1) (len := 1) (by decide +kernel) rfl rfl rfl (by decide +kernel) rfl rfl,
  fun l1 x S h => zD_op (ins := .aload_n 0) (len := 1) (c := (3, [some (.ref x), l1], (.ref x :: S), h)) (by decide +kernel) rfl rfl rfl rfl,
  fun l0 l1 a r h hx => zD_getf (i := 12) (ci := 8) (k := 0) (q := (248, 0)) (by decide +kernel) (by decide +kernel) hx,
  fun l0 l1 a r h hcat hr hC => zD_callv (i := 103) (y := 92) (n := 0) (as := []) (ci := 3) (by decide +kernel) (by decide +kernel) rfl (by decide +kernel) (Nat.le_of_ble_eq_true rfl) (by decide +kernel) hcat hr hC,
  fun l0 l1 x r h => zD_if0 (cnd := .eq) (off := 19) (by decide +kernel) (by decide) rfl,
  fun l1 x S h => zD_op (ins := .aload_n 0) (len := 1) (c := (13, [some (.ref x), l1], (.ref x :: S), h)) (by decide +kernel) rfl rfl rfl rfl,
  fun l0 l1 a r h hx => zD_getf (i := 12) (ci := 8) (k := 0) (q := (248, 0)) (by decide +kernel) (by decide +kernel) hx,
  fun l0 l1 a r h hcat hr hC => zD_callv (i := 107) (y := 93) (n := 0) (as := []) (ci := 3) (by decide +kernel) (by decide +kernel) rfl (by decide +kernel) (Nat.le_of_ble_eq_true rfl) (by decide +kernel) hcat hr hC,
  fun l0 l1 x r h => zD_if0 (cnd := .eq) (off := 7) (by decide +kernel) (by decide) rfl,
  fun l0 l1 S h => zD_icst (n := 2) (by decide +kernel) (by decide +kernel),
  fun l0 l1 S h => zD_goto (off := 4) (by decide +kernel) (by decide),
  fun l0 l1 S h => zD_icst (n := 1) (by decide +kernel) (by decide +kernel),
  fun l0 l1 x r h => zD_st1 (k := 1) (ins := .istore_n 1) (len := 1) (by decide +kernel) rfl rfl rfl (by decide +kernel) rfl rfl,
  fun l1 x S h => zD_op (ins := .aload_n 0) (len := 1) (c := (29, [some (.ref x), l1], (.ref x :: S), h)) (by decide +kernel) rfl rfl rfl rfl,
  fun l0 l1 a r h hx => zD_getf (i := 19) (ci := 8) (k := 1) (q := (249, 0)) (by decide +kernel) (by decide +kernel) hx,
  fun l1 x S h => zD_op (ins := .aload_n 0) (len := 1) (c := (33, [some (.ref x), l1], (.ref x :: S), h)) (by decide +kernel) rfl rfl rfl rfl,
  fun l0 l1 a r h hx => zD_getf (i := 12) (ci := 8) (k := 0) (q := (248, 0)) (by decide +kernel) (by decide +kernel) hx,
  fun l0 l1 p0 a r h hcat hr hC => zD_callv (i := 110) (y := 88) (n := 1) (as := [.ref p0]) (ci := 2) (by decide +kernel) (by decide +kernel) rfl (by decide +kernel) (Nat.le_of_ble_eq_true rfl) (by decide +kernel) hcat hr hC,
  fun l0 l1 x r h => zD_if0 (cnd := .eq) (off := 9) (by decide +kernel) (by decide) rfl,
  fun l0 x S h => zD_op (ins := .iload_n 1) (len := 1) (c := (43, [l0, some (.int x)], (.int x :: S), h)) (by decide +kernel) rfl rfl rfl rfl,
  fun l0 l1 S h => zD_icst (n := 4) (by decide +kernel) (by decide +kernel),
  fun l0 l1 x y r h => zD_op (ins := .iadd) (len := 1) (c := (45, [l0, l1], (.int (x + y) :: r), h)) (by decide +kernel) rfl rfl rfl rfl,
  fun l0 l1 S h => zD_goto (off := 4) (by decide +kernel) (by decide),
  fun l0 x S h => zD_op (ins := .iload_n 1) (len := 1) (c := (49, [l0, some (.int x)], (.int x :: S), h)) (by decide +kernel) rfl rfl rfl rfl,
  fun l0 l1 v h => zD_ireti (by decide +kernel) rfl⟩
set_option maxRecDepth 100000 in
theorem I_X9_is : (∀ (a : Nat) (h : zH), zC 135 [.ref a] h = zD 135 0 [some (.ref a), none] [] h) :=
  fun a h => zC_def rfl
set_option maxRecDepth 100000 in
theorem E_X9_over : (∀ (l1 l2 : Option Value) (x : Nat) (S : List Value) (h : zH), zD 136 0 [some (.ref x), l1, l2] S h = zD 136 1 [some (.ref x), l1, l2] (.ref x :: S) h) ∧
  (∀ (l0 l1 l2 : Option Value) (a : Nat) (r : List Value) (h : zH) (hx : zfok (h.2.2 a) 8 0 = true), zD 136 1 [l0, l1, l2] (.ref a :: r) h = zD 136 4 [l0, l1, l2] (zfv (h.2.2 a) 0 :: r) h) ∧
  (∀ (l0 l2 : Option Value) (x : Int32) (S : List Value) (h : zH), zD 136 4 [l0, some (.int x), l2] S h = zD 136 5 [l0, some (.int x), l2] (.int x :: S) h) ∧
  (∀ (l0 l1 l2 : Option Value) (p0 : Int32) (a : Nat) (r : List Value) (h : zH) (hcat : zcat r ≤ 8) (hr : zis (h.2.2 a) 3 = true) (hC : (zC 6 (.ref a :: [.int p0]) h).isSome = true), zD 136 5 [l0, l1, l2] (.int p0 :: .ref a :: r) h = zD 136 8 [l0, l1, l2] (zgv (zC 6 (.ref a :: [.int p0]) h) ++ r) (zgh h (zC 6 (.ref a :: [.int p0]) h))) ∧
  (∀ (l0 l1 l2 : Option Value) (x : Int32) (r : List Value) (h : zH), zD 136 8 [l0, l1, l2] (.int x :: r) h = if x = 0 then zD 136 22 [l0, l1, l2] r h else zD 136 11 [l0, l1, l2] r h) ∧
  (∀ (l1 l2 : Option Value) (x : Nat) (S : List Value) (h : zH), zD 136 11 [some (.ref x), l1, l2] S h = zD 136 12 [some (.ref x), l1, l2] (.ref x :: S) h) ∧
  (∀ (l0 l1 l2 : Option Value) (a : Nat) (r : List Value) (h : zH) (hx : zfok (h.2.2 a) 8 0 = true), zD 136 12 [l0, l1, l2] (.ref a :: r) h = zD 136 15 [l0, l1, l2] (zfv (h.2.2 a) 0 :: r) h) ∧
  (∀ (l0 l1 : Option Value) (x : Int32) (S : List Value) (h : zH), zD 136 15 [l0, l1, some (.int x)] S h = zD 136 16 [l0, l1, some (.int x)] (.int x :: S) h) ∧
  (∀ (l0 l1 l2 : Option Value) (p0 : Int32) (a : Nat) (r : List Value) (h : zH) (hcat : zcat r ≤ 8) (hr : zis (h.2.2 a) 3 = true) (hC : (zC 5 (.ref a :: [.int p0]) h).isSome = true), zD 136 16 [l0, l1, l2] (.int p0 :: .ref a :: r) h = zD 136 19 [l0, l1, l2] (zgv (zC 5 (.ref a :: [.int p0]) h) ++ r) (zgh h (zC 5 (.ref a :: [.int p0]) h))) ∧
  (∀ (l0 l1 l2 : Option Value) (x : Int32) (r : List Value) (h : zH), zD 136 19 [l0, l1, l2] (.int x :: r) h = if ¬ x = 0 then zD 136 25 [l0, l1, l2] r h else zD 136 22 [l0, l1, l2] r h) ∧
  (∀ (l0 l1 l2 : Option Value) (S : List Value) (h : zH), zD 136 22 [l0, l1, l2] S h = zD 136 24 [l0, l1, l2] (.int (-101 : Int32) :: S) h) ∧
  (∀ (l0 l1 l2 : Option Value) (v : Int32) (h : zH), zD 136 24 [l0, l1, l2] [.int v] h = some (some (.int v), h)) ∧
  (∀ (l1 l2 : Option Value) (x : Nat) (S : List Value) (h : zH), zD 136 25 [some (.ref x), l1, l2] S h = zD 136 26 [some (.ref x), l1, l2] (.ref x :: S) h) ∧
  (∀ (l0 l1 l2 : Option Value) (a : Nat) (r : List Value) (h : zH) (hx : zfok (h.2.2 a) 8 0 = true), zD 136 26 [l0, l1, l2] (.ref a :: r) h = zD 136 29 [l0, l1, l2] (zfv (h.2.2 a) 0 :: r) h) ∧
  (∀ (l0 l1 l2 : Option Value) (a : Nat) (r : List Value) (h : zH) (hcat : zcat r ≤ 8) (hr : zis (h.2.2 a) 3 = true) (hC : (zC 92 [.ref a] h).isSome = true), zD 136 29 [l0, l1, l2] (.ref a :: r) h = zD 136 32 [l0, l1, l2] (zgv (zC 92 [.ref a] h) ++ r) (zgh h (zC 92 [.ref a] h))) ∧
  (∀ (l0 l1 l2 : Option Value) (x : Int32) (r : List Value) (h : zH), zD 136 32 [l0, l1, l2] (.int x :: r) h = if ¬ x = 0 then zD 136 38 [l0, l1, l2] r h else zD 136 35 [l0, l1, l2] r h) ∧
  (∀ (l0 l1 l2 : Option Value) (S : List Value) (h : zH), zD 136 35 [l0, l1, l2] S h = zD 136 37 [l0, l1, l2] (.int (-103 : Int32) :: S) h) ∧
  (∀ (l0 l1 l2 : Option Value) (v : Int32) (h : zH), zD 136 37 [l0, l1, l2] [.int v] h = some (some (.int v), h)) ∧
  (∀ (l1 l2 : Option Value) (x : Nat) (S : List Value) (h : zH), zD 136 38 [some (.ref x), l1, l2] S h = zD 136 39 [some (.ref x), l1, l2] (.ref x :: S) h) ∧
  (∀ (l0 l1 l2 : Option Value) (a : Nat) (r : List Value) (h : zH) (hx : zfok (h.2.2 a) 8 0 = true), zD 136 39 [l0, l1, l2] (.ref a :: r) h = zD 136 42 [l0, l1, l2] (zfv (h.2.2 a) 0 :: r) h) ∧
  (∀ (l0 l2 : Option Value) (x : Int32) (S : List Value) (h : zH), zD 136 42 [l0, some (.int x), l2] S h = zD 136 43 [l0, some (.int x), l2] (.int x :: S) h) ∧
  (∀ (l0 l1 : Option Value) (x : Int32) (S : List Value) (h : zH), zD 136 43 [l0, l1, some (.int x)] S h = zD 136 44 [l0, l1, some (.int x)] (.int x :: S) h) ∧
  (∀ (l0 l1 l2 : Option Value) (p0 : Int32) (p1 : Int32) (a : Nat) (r : List Value) (h : zH) (hcat : zcat r ≤ 8) (hr : zis (h.2.2 a) 3 = true) (hC : (zC 52 (.ref a :: [.int p0, .int p1]) h).isSome = true), zD 136 44 [l0, l1, l2] (.int p1 :: .int p0 :: .ref a :: r) h = zD 136 47 [l0, l1, l2] (zgv (zC 52 (.ref a :: [.int p0, .int p1]) h) ++ r) (zgh h (zC 52 (.ref a :: [.int p0, .int p1]) h))) ∧
  (∀ (l0 l1 l2 : Option Value) (x : Int32) (r : List Value) (h : zH), zD 136 47 [l0, l1, l2] (.int x :: r) h = if x = 0 then zD 136 54 [l0, l1, l2] r h else zD 136 50 [l0, l1, l2] r h) ∧
  (∀ (l0 l1 l2 : Option Value) (S : List Value) (h : zH), zD 136 50 [l0, l1, l2] S h = zD 136 51 [l0, l1, l2] (.int (1 : Int32) :: S) h) ∧
  (∀ (l0 l1 l2 : Option Value) (S : List Value) (h : zH), zD 136 51 [l0, l1, l2] S h = zD 136 55 [l0, l1, l2] S h) ∧
  (∀ (l0 l1 l2 : Option Value) (S : List Value) (h : zH), zD 136 54 [l0, l1, l2] S h = zD 136 55 [l0, l1, l2] (.int (0 : Int32) :: S) h) ∧
  (∀ (l0 l1 l2 : Option Value) (v : Int32) (h : zH), zD 136 55 [l0, l1, l2] [.int v] h = some (some (.int v), h)) :=
  ⟨fun l1 l2 x S h => zD_op (ins := .aload_n 0) (len := 1) (c := (1, [some (.ref x), l1, l2], (.ref x :: S), h)) (by decide +kernel) rfl rfl rfl rfl,
  fun l0 l1 l2 a r h hx => zD_getf (i := 12) (ci := 8) (k := 0) (q := (248, 0)) (by decide +kernel) (by decide +kernel) hx,
  fun l0 l2 x S h => zD_op (ins := .iload_n 1) (len := 1) (c := (5, [l0, some (.int x), l2], (.int x :: S), h)) (by decide +kernel) rfl rfl rfl rfl,
  fun l0 l1 l2 p0 a r h hcat hr hC => zD_callv (i := 124) (y := 6) (n := 1) (as := [.int p0]) (ci := 3) (by decide +kernel) (by decide +kernel) rfl (by decide +kernel) (Nat.le_of_ble_eq_true rfl) (by decide +kernel) hcat hr hC,
  fun l0 l1 l2 x r h => zD_if0 (cnd := .eq) (off := 14) (by decide +kernel) (by decide) rfl,
  fun l1 l2 x S h => zD_op (ins := .aload_n 0) (len := 1) (c := (12, [some (.ref x), l1, l2], (.ref x :: S), h)) (by decide +kernel) rfl rfl rfl rfl,
  fun l0 l1 l2 a r h hx => zD_getf (i := 12) (ci := 8) (k := 0) (q := (248, 0)) (by decide +kernel) (by decide +kernel) hx,
  fun l0 l1 x S h => zD_op (ins := .iload_n 2) (len := 1) (c := (16, [l0, l1, some (.int x)], (.int x :: S), h)) (by decide +kernel) rfl rfl rfl rfl,
  fun l0 l1 l2 p0 a r h hcat hr hC => zD_callv (i := 72) (y := 5) (n := 1) (as := [.int p0]) (ci := 3) (by decide +kernel) (by decide +kernel) rfl (by decide +kernel) (Nat.le_of_ble_eq_true rfl) (by decide +kernel) hcat hr hC,
  fun l0 l1 l2 x r h => zD_if0 (cnd := .ne) (off := 6) (by decide +kernel) (by decide) rfl,
  fun l0 l1 l2 S h => zD_bip (n := (-101)) (by decide +kernel) (by decide +kernel),
  fun l0 l1 l2 v h => zD_ireti (by decide +kernel) rfl,
  fun l1 l2 x S h => zD_op (ins := .aload_n 0) (len := 1) (c := (26, [some (.ref x), l1, l2], (.ref x :: S), h)) (by decide +kernel) rfl rfl rfl rfl,
  fun l0 l1 l2 a r h hx => zD_getf (i := 12) (ci := 8) (k := 0) (q := (248, 0)) (by decide +kernel) (by decide +kernel) hx,
  fun l0 l1 l2 a r h hcat hr hC => zD_callv (i := 103) (y := 92) (n := 0) (as := []) (ci := 3) (by decide +kernel) (by decide +kernel) rfl (by decide +kernel) (Nat.le_of_ble_eq_true rfl) (by decide +kernel) hcat hr hC,
  fun l0 l1 l2 x r h => zD_if0 (cnd := .ne) (off := 6) (by decide +kernel) (by decide) rfl,
  fun l0 l1 l2 S h => zD_bip (n := (-103)) (by decide +kernel) (by decide +kernel),
  fun l0 l1 l2 v h => zD_ireti (by decide +kernel) rfl,
  fun l1 l2 x S h => zD_op (ins := .aload_n 0) (len := 1) (c := (39, [some (.ref x), l1, l2], (.ref x :: S), h)) (by decide +kernel) rfl rfl rfl rfl,
  fun l0 l1 l2 a r h hx => zD_getf (i := 12) (ci := 8) (k := 0) (q := (248, 0)) (by decide +kernel) (by decide +kernel) hx,
  fun l0 l2 x S h => zD_op (ins := .iload_n 1) (len := 1) (c := (43, [l0, some (.int x), l2], (.int x :: S), h)) (by decide +kernel) rfl rfl rfl rfl,
  fun l0 l1 x S h => zD_op (ins := .iload_n 2) (len := 1) (c := (44, [l0, l1, some (.int x)], (.int x :: S), h)) (by decide +kernel) rfl rfl rfl rfl,
  fun l0 l1 l2 p0 p1 a r h hcat hr hC => zD_callv (i := 127) (y := 52) (n := 2) (as := [.int p0, .int p1]) (ci := 3) (by decide +kernel) (by decide +kernel) rfl (by decide +kernel) (Nat.le_of_ble_eq_true rfl) (by decide +kernel) hcat hr hC,
  fun l0 l1 l2 x r h => zD_if0 (cnd := .eq) (off := 7) (by decide +kernel) (by decide) rfl,
  fun l0 l1 l2 S h => zD_icst (n := 1) (by decide +kernel) (by decide +kernel),
  fun l0 l1 l2 S h => zD_goto (off := 4) (by decide +kernel) (by decide),
  fun l0 l1 l2 S h => zD_icst (n := 0) (by decide +kernel) (by decide +kernel),
  fun l0 l1 l2 v h => zD_ireti (by decide +kernel) rfl⟩
set_option maxRecDepth 100000 in
theorem I_X9_over : (∀ (a : Nat) (p0 : Int32) (p1 : Int32) (h : zH), zC 136 [.ref a, .int p0, .int p1] h = zD 136 0 [some (.ref a), some (.int p0), some (.int p1)] [] h) :=
  fun a p0 p1 h => zC_def rfl
set_option maxRecDepth 100000 in
theorem E_X9_about : (∀ (l1 l2 : Option Value) (x : Nat) (S : List Value) (h : zH), zD 137 0 [some (.ref x), l1, l2] S h = zD 137 1 [some (.ref x), l1, l2] (.ref x :: S) h) ∧
  (∀ (l0 l1 l2 : Option Value) (a : Nat) (r : List Value) (h : zH) (hx : zfok (h.2.2 a) 8 0 = true), zD 137 1 [l0, l1, l2] (.ref a :: r) h = zD 137 4 [l0, l1, l2] (zfv (h.2.2 a) 0 :: r) h) ∧
  (∀ (l0 l2 : Option Value) (x : Int32) (S : List Value) (h : zH), zD 137 4 [l0, some (.int x), l2] S h = zD 137 5 [l0, some (.int x), l2] (.int x :: S) h) ∧
  (∀ (l0 l1 l2 : Option Value) (p0 : Int32) (a : Nat) (r : List Value) (h : zH) (hcat : zcat r ≤ 8) (hr : zis (h.2.2 a) 3 = true) (hC : (zC 5 (.ref a :: [.int p0]) h).isSome = true), zD 137 5 [l0, l1, l2] (.int p0 :: .ref a :: r) h = zD 137 8 [l0, l1, l2] (zgv (zC 5 (.ref a :: [.int p0]) h) ++ r) (zgh h (zC 5 (.ref a :: [.int p0]) h))) ∧
  (∀ (l0 l1 l2 : Option Value) (x : Int32) (r : List Value) (h : zH), zD 137 8 [l0, l1, l2] (.int x :: r) h = if ¬ x = 0 then zD 137 14 [l0, l1, l2] r h else zD 137 11 [l0, l1, l2] r h) ∧
  (∀ (l0 l1 l2 : Option Value) (S : List Value) (h : zH), zD 137 11 [l0, l1, l2] S h = zD 137 13 [l0, l1, l2] (.int (-101 : Int32) :: S) h) ∧
  (∀ (l0 l1 l2 : Option Value) (v : Int32) (h : zH), zD 137 13 [l0, l1, l2] [.int v] h = some (some (.int v), h)) ∧
  (∀ (l0 l1 : Option Value) (x : Int32) (S : List Value) (h : zH), zD 137 14 [l0, l1, some (.int x)] S h = zD 137 15 [l0, l1, some (.int x)] (.int x :: S) h) ∧
  (∀ (l0 l1 l2 : Option Value) (x : Int32) (r : List Value) (h : zH), zD 137 15 [l0, l1, l2] (.int x :: r) h = if x < 0 then zD 137 23 [l0, l1, l2] r h else zD 137 18 [l0, l1, l2] r h) ∧
  (∀ (l0 l1 : Option Value) (x : Int32) (S : List Value) (h : zH), zD 137 18 [l0, l1, some (.int x)] S h = zD 137 19 [l0, l1, some (.int x)] (.int x :: S) h) ∧
  (∀ (l0 l1 l2 : Option Value) (S : List Value) (h : zH), zD 137 19 [l0, l1, l2] S h = zD 137 20 [l0, l1, l2] (.int (3 : Int32) :: S) h) ∧
  (∀ (l0 l1 l2 : Option Value) (x y : Int32) (r : List Value) (h : zH), zD 137 20 [l0, l1, l2] (.int y :: .int x :: r) h = if x ≤ y then zD 137 26 [l0, l1, l2] r h else zD 137 23 [l0, l1, l2] r h) ∧
  (∀ (l0 l1 l2 : Option Value) (S : List Value) (h : zH), zD 137 23 [l0, l1, l2] S h = zD 137 25 [l0, l1, l2] (.int (-102 : Int32) :: S) h) ∧
  (∀ (l0 l1 l2 : Option Value) (v : Int32) (h : zH), zD 137 25 [l0, l1, l2] [.int v] h = some (some (.int v), h)) ∧
  (∀ (l1 l2 : Option Value) (x : Nat) (S : List Value) (h : zH), zD 137 26 [some (.ref x), l1, l2] S h = zD 137 27 [some (.ref x), l1, l2] (.ref x :: S) h) ∧
  (∀ (l0 l1 l2 : Option Value) (a : Nat) (r : List Value) (h : zH) (hx : zfok (h.2.2 a) 8 0 = true), zD 137 27 [l0, l1, l2] (.ref a :: r) h = zD 137 30 [l0, l1, l2] (zfv (h.2.2 a) 0 :: r) h) ∧
  (∀ (l0 l1 l2 : Option Value) (a : Nat) (r : List Value) (h : zH) (hcat : zcat r ≤ 8) (hr : zis (h.2.2 a) 3 = true) (hC : (zC 92 [.ref a] h).isSome = true), zD 137 30 [l0, l1, l2] (.ref a :: r) h = zD 137 33 [l0, l1, l2] (zgv (zC 92 [.ref a] h) ++ r) (zgh h (zC 92 [.ref a] h))) ∧
  (∀ (l0 l1 l2 : Option Value) (x : Int32) (r : List Value) (h : zH), zD 137 33 [l0, l1, l2] (.int x :: r) h = if ¬ x = 0 then zD 137 39 [l0, l1, l2] r h else zD 137 36 [l0, l1, l2] r h) ∧
  (∀ (l0 l1 l2 : Option Value) (S : List Value) (h : zH), zD 137 36 [l0, l1, l2] S h = zD 137 38 [l0, l1, l2] (.int (-103 : Int32) :: S) h) ∧
  (∀ (l0 l1 l2 : Option Value) (v : Int32) (h : zH), zD 137 38 [l0, l1, l2] [.int v] h = some (some (.int v), h)) ∧
  (∀ (l0 l1 : Option Value) (x : Int32) (S : List Value) (h : zH), zD 137 39 [l0, l1, some (.int x)] S h = zD 137 40 [l0, l1, some (.int x)] (.int x :: S) h) ∧
  (∀ (l0 l1 l2 : Option Value) (x : Int32) (t : Nat) (r : List Value) (h : zH) (hx : ztab 40 55 0 2 #[28, 37, 46] x [l0, l1, l2] r h = some (t, [l0, l1, l2], r, h)), zD 137 40 [l0, l1, l2] (.int x :: r) h = zD 137 t [l0, l1, l2] r h) ∧
  (∀ (l1 l2 : Option Value) (x : Nat) (S : List Value) (h : zH), zD 137 68 [some (.ref x), l1, l2] S h = zD 137 69 [some (.ref x), l1, l2] (.ref x :: S) h) ∧
  (∀ (l0 l1 l2 : Option Value) (a : Nat) (r : List Value) (h : zH) (hx : zfok (h.2.2 a) 8 0 = true), zD 137 69 [l0, l1, l2] (.ref a :: r) h = zD 137 72 [l0, l1, l2] (zfv (h.2.2 a) 0 :: r) h) ∧
  (∀ (l0 l2 : Option Value) (x : Int32) (S : List Value) (h : zH), zD 137 72 [l0, some (.int x), l2] S h = zD 137 73 [l0, some (.int x), l2] (.int x :: S) h) ∧
  (∀ (l0 l1 l2 : Option Value) (p0 : Int32) (a : Nat) (r : List Value) (h : zH) (hcat : zcat r ≤ 8) (hr : zis (h.2.2 a) 3 = true) (hC : (zC 53 (.ref a :: [.int p0]) h).isSome = true), zD 137 73 [l0, l1, l2] (.int p0 :: .ref a :: r) h = zD 137 76 [l0, l1, l2] (zgv (zC 53 (.ref a :: [.int p0]) h) ++ r) (zgh h (zC 53 (.ref a :: [.int p0]) h))) ∧
  (∀ (l0 l1 l2 : Option Value) (v : Int32) (h : zH), zD 137 76 [l0, l1, l2] [.int v] h = some (some (.int v), h)) ∧
  (∀ (l1 l2 : Option Value) (x : Nat) (S : List Value) (h : zH), zD 137 77 [some (.ref x), l1, l2] S h = zD 137 78 [some (.ref x), l1, l2] (.ref x :: S) h) ∧
  (∀ (l0 l1 l2 : Option Value) (a : Nat) (r : List Value) (h : zH) (hx : zfok (h.2.2 a) 8 0 = true), zD 137 78 [l0, l1, l2] (.ref a :: r) h = zD 137 81 [l0, l1, l2] (zfv (h.2.2 a) 0 :: r) h) ∧
  (∀ (l0 l2 : Option Value) (x : Int32) (S : List Value) (h : zH), zD 137 81 [l0, some (.int x), l2] S h = zD 137 82 [l0, some (.int x), l2] (.int x :: S) h) ∧
  (∀ (l0 l1 l2 : Option Value) (p0 : Int32) (a : Nat) (r : List Value) (h : zH) (hcat : zcat r ≤ 8) (hr : zis (h.2.2 a) 3 = true) (hC : (zC 94 (.ref a :: [.int p0]) h).isSome = true), zD 137 82 [l0, l1, l2] (.int p0 :: .ref a :: r) h = zD 137 85 [l0, l1, l2] (zgv (zC 94 (.ref a :: [.int p0]) h) ++ r) (zgh h (zC 94 (.ref a :: [.int p0]) h))) ∧
  (∀ (l0 l1 l2 : Option Value) (v : Int32) (h : zH), zD 137 85 [l0, l1, l2] [.int v] h = some (some (.int v), h)) ∧
  (∀ (l1 l2 : Option Value) (x : Nat) (S : List Value) (h : zH), zD 137 86 [some (.ref x), l1, l2] S h = zD 137 87 [some (.ref x), l1, l2] (.ref x :: S) h) ∧
  (∀ (l0 l1 l2 : Option Value) (a : Nat) (r : List Value) (h : zH) (hx : zfok (h.2.2 a) 8 0 = true), zD 137 87 [l0, l1, l2] (.ref a :: r) h = zD 137 90 [l0, l1, l2] (zfv (h.2.2 a) 0 :: r) h) ∧
  (∀ (l0 l2 : Option Value) (x : Int32) (S : List Value) (h : zH), zD 137 90 [l0, some (.int x), l2] S h = zD 137 91 [l0, some (.int x), l2] (.int x :: S) h) ∧
  (∀ (l0 l1 l2 : Option Value) (p0 : Int32) (a : Nat) (r : List Value) (h : zH) (hcat : zcat r ≤ 8) (hr : zis (h.2.2 a) 3 = true) (hC : (zC 95 (.ref a :: [.int p0]) h).isSome = true), zD 137 91 [l0, l1, l2] (.int p0 :: .ref a :: r) h = zD 137 94 [l0, l1, l2] (zgv (zC 95 (.ref a :: [.int p0]) h) ++ r) (zgh h (zC 95 (.ref a :: [.int p0]) h))) ∧
  (∀ (l0 l1 l2 : Option Value) (v : Int32) (h : zH), zD 137 94 [l0, l1, l2] [.int v] h = some (some (.int v), h)) ∧
  (∀ (l1 l2 : Option Value) (x : Nat) (S : List Value) (h : zH), zD 137 95 [some (.ref x), l1, l2] S h = zD 137 96 [some (.ref x), l1, l2] (.ref x :: S) h) ∧
  (∀ (l0 l1 l2 : Option Value) (a : Nat) (r : List Value) (h : zH) (hx : zfok (h.2.2 a) 8 0 = true), zD 137 96 [l0, l1, l2] (.ref a :: r) h = zD 137 99 [l0, l1, l2] (zfv (h.2.2 a) 0 :: r) h) ∧
  (∀ (l0 l2 : Option Value) (x : Int32) (S : List Value) (h : zH), zD 137 99 [l0, some (.int x), l2] S h = zD 137 100 [l0, some (.int x), l2] (.int x :: S) h) ∧
  (∀ (l0 l1 l2 : Option Value) (p0 : Int32) (a : Nat) (r : List Value) (h : zH) (hcat : zcat r ≤ 8) (hr : zis (h.2.2 a) 3 = true) (hC : (zC 96 (.ref a :: [.int p0]) h).isSome = true), zD 137 100 [l0, l1, l2] (.int p0 :: .ref a :: r) h = zD 137 103 [l0, l1, l2] (zgv (zC 96 (.ref a :: [.int p0]) h) ++ r) (zgh h (zC 96 (.ref a :: [.int p0]) h))) ∧
  (∀ (l0 l1 l2 : Option Value) (v : Int32) (h : zH), zD 137 103 [l0, l1, l2] [.int v] h = some (some (.int v), h)) :=
  ⟨fun l1 l2 x S h => zD_op (ins := .aload_n 0) (len := 1) (c := (1, [some (.ref x), l1, l2], (.ref x :: S), h)) (by decide +kernel) rfl rfl rfl rfl,
  fun l0 l1 l2 a r h hx => zD_getf (i := 12) (ci := 8) (k := 0) (q := (248, 0)) (by decide +kernel) (by decide +kernel) hx,
  fun l0 l2 x S h => zD_op (ins := .iload_n 1) (len := 1) (c := (5, [l0, some (.int x), l2], (.int x :: S), h)) (by decide +kernel) rfl rfl rfl rfl,
  fun l0 l1 l2 p0 a r h hcat hr hC => zD_callv (i := 72) (y := 5) (n := 1) (as := [.int p0]) (ci := 3) (by decide +kernel) (by decide +kernel) rfl (by decide +kernel) (Nat.le_of_ble_eq_true rfl) (by decide +kernel) hcat hr hC,
  fun l0 l1 l2 x r h => zD_if0 (cnd := .ne) (off := 6) (by decide +kernel) (by decide) rfl,
  fun l0 l1 l2 S h => zD_bip (n := (-101)) (by decide +kernel) (by decide +kernel),
  fun l0 l1 l2 v h => zD_ireti (by decide +kernel) rfl,
  fun l0 l1 x S h => zD_op (ins := .iload_n 2) (len := 1) (c := (15, [l0, l1, some (.int x)], (.int x :: S), h)) (by decide +kernel) rfl rfl rfl rfl,
  fun l0 l1 l2 x r h => zD_if0 (cnd := .lt) (off := 8) (by decide +kernel) (by decide) rfl,
  fun l0 l1 x S h => zD_op (ins := .iload_n 2) (len := 1) (c := (19, [l0, l1, some (.int x)], (.int x :: S), h)) (by decide +kernel) rfl rfl rfl rfl,
  fun l0 l1 l2 S h => zD_icst (n := 3) (by decide +kernel) (by decide +kernel),
  fun l0 l1 l2 x y r h => zD_if (cnd := .le) (off := 6) (by decide +kernel) (by decide) rfl,
  fun l0 l1 l2 S h => zD_bip (n := (-102)) (by decide +kernel) (by decide +kernel),
  fun l0 l1 l2 v h => zD_ireti (by decide +kernel) rfl,
  fun l1 l2 x S h => zD_op (ins := .aload_n 0) (len := 1) (c := (27, [some (.ref x), l1, l2], (.ref x :: S), h)) (by decide +kernel) rfl rfl rfl rfl,
  fun l0 l1 l2 a r h hx => zD_getf (i := 12) (ci := 8) (k := 0) (q := (248, 0)) (by decide +kernel) (by decide +kernel) hx,
  fun l0 l1 l2 a r h hcat hr hC => zD_callv (i := 103) (y := 92) (n := 0) (as := []) (ci := 3) (by decide +kernel) (by decide +kernel) rfl (by decide +kernel) (Nat.le_of_ble_eq_true rfl) (by decide +kernel) hcat hr hC,
  fun l0 l1 l2 x r h => zD_if0 (cnd := .ne) (off := 6) (by decide +kernel) (by decide) rfl,
  fun l0 l1 l2 S h => zD_bip (n := (-103)) (by decide +kernel) (by decide +kernel),
  fun l0 l1 l2 v h => zD_ireti (by decide +kernel) rfl,
  fun l0 l1 x S h => zD_op (ins := .iload_n 2) (len := 1) (c := (40, [l0, l1, some (.int x)], (.int x :: S), h)) (by decide +kernel) rfl rfl rfl rfl,
  fun l0 l1 l2 x t r h hx => zD_sw (len := 28) (by decide +kernel) hx,
  fun l1 l2 x S h => zD_op (ins := .aload_n 0) (len := 1) (c := (69, [some (.ref x), l1, l2], (.ref x :: S), h)) (by decide +kernel) rfl rfl rfl rfl,
  fun l0 l1 l2 a r h hx => zD_getf (i := 12) (ci := 8) (k := 0) (q := (248, 0)) (by decide +kernel) (by decide +kernel) hx,
  fun l0 l2 x S h => zD_op (ins := .iload_n 1) (len := 1) (c := (73, [l0, some (.int x), l2], (.int x :: S), h)) (by decide +kernel) rfl rfl rfl rfl,
  fun l0 l1 l2 p0 a r h hcat hr hC => zD_callv (i := 130) (y := 53) (n := 1) (as := [.int p0]) (ci := 3) (by decide +kernel) (by decide +kernel) rfl (by decide +kernel) (Nat.le_of_ble_eq_true rfl) (by decide +kernel) hcat hr hC,
  fun l0 l1 l2 v h => zD_ireti (by decide +kernel) rfl,
  fun l1 l2 x S h => zD_op (ins := .aload_n 0) (len := 1) (c := (78, [some (.ref x), l1, l2], (.ref x :: S), h)) (by decide +kernel) rfl rfl rfl rfl,
  fun l0 l1 l2 a r h hx => zD_getf (i := 12) (ci := 8) (k := 0) (q := (248, 0)) (by decide +kernel) (by decide +kernel) hx,
  fun l0 l2 x S h => zD_op (ins := .iload_n 1) (len := 1) (c := (82, [l0, some (.int x), l2], (.int x :: S), h)) (by decide +kernel) rfl rfl rfl rfl,
  fun l0 l1 l2 p0 a r h hcat hr hC => zD_callv (i := 134) (y := 94) (n := 1) (as := [.int p0]) (ci := 3) (by decide +kernel) (by decide +kernel) rfl (by decide +kernel) (Nat.le_of_ble_eq_true rfl) (by decide +kernel) hcat hr hC,
  fun l0 l1 l2 v h => zD_ireti (by decide +kernel) rfl,
  fun l1 l2 x S h => zD_op (ins := .aload_n 0) (len := 1) (c := (87, [some (.ref x), l1, l2], (.ref x :: S), h)) (by decide +kernel) rfl rfl rfl rfl,
  fun l0 l1 l2 a r h hx => zD_getf (i := 12) (ci := 8) (k := 0) (q := (248, 0)) (by decide +kernel) (by decide +kernel) hx,
  fun l0 l2 x S h => zD_op (ins := .iload_n 1) (len := 1) (c := (91, [l0, some (.int x), l2], (.int x :: S), h)) (by decide +kernel) rfl rfl rfl rfl,
  fun l0 l1 l2 p0 a r h hcat hr hC => zD_callv (i := 137) (y := 95) (n := 1) (as := [.int p0]) (ci := 3) (by decide +kernel) (by decide +kernel) rfl (by decide +kernel) (Nat.le_of_ble_eq_true rfl) (by decide +kernel) hcat hr hC,
  fun l0 l1 l2 v h => zD_ireti (by decide +kernel) rfl,
  fun l1 l2 x S h => zD_op (ins := .aload_n 0) (len := 1) (c := (96, [some (.ref x), l1, l2], (.ref x :: S), h)) (by decide +kernel) rfl rfl rfl rfl,
  fun l0 l1 l2 a r h hx => zD_getf (i := 12) (ci := 8) (k := 0) (q := (248, 0)) (by decide +kernel) (by decide +kernel) hx,
  fun l0 l2 x S h => zD_op (ins := .iload_n 1) (len := 1) (c := (100, [l0, some (.int x), l2], (.int x :: S), h)) (by decide +kernel) rfl rfl rfl rfl,
  fun l0 l1 l2 p0 a r h hcat hr hC => zD_callv (i := 140) (y := 96) (n := 1) (as := [.int p0]) (ci := 3) (by decide +kernel) (by decide +kernel) rfl (by decide +kernel) (Nat.le_of_ble_eq_true rfl) (by decide +kernel) hcat hr hC,
  fun l0 l1 l2 v h => zD_ireti (by decide +kernel) rfl⟩
set_option maxRecDepth 100000 in
theorem I_X9_about : (∀ (a : Nat) (p0 : Int32) (p1 : Int32) (h : zH), zC 137 [.ref a, .int p0, .int p1] h = zD 137 0 [some (.ref a), some (.int p0), some (.int p1)] [] h) :=
  fun a p0 p1 h => zC_def rfl
set_option maxRecDepth 100000 in
theorem E_X9_areComparable : (∀ (l1 : Option Value) (x : Nat) (S : List Value) (h : zH), zD 138 0 [some (.ref x), l1] S h = zD 138 1 [some (.ref x), l1] (.ref x :: S) h) ∧
  (∀ (l0 l1 : Option Value) (a : Nat) (r : List Value) (h : zH) (hx : zfok (h.2.2 a) 3 2 = true), zD 138 1 [l0, l1] (.ref a :: r) h = zD 138 4 [l0, l1] (zfv (h.2.2 a) 2 :: r) h) ∧
  (∀ (l0 : Option Value) (x : Nat) (S : List Value) (h : zH), zD 138 4 [l0, some (.ref x)] S h = zD 138 5 [l0, some (.ref x)] (.ref x :: S) h) ∧
  (∀ (l0 : Option Value) (S : List Value) (h : zH), zD 138 4 [l0, some .null] S h = zD 138 5 [l0, some .null] (.null :: S) h) ∧
  (∀ (l0 l1 : Option Value) (a : Nat) (r : List Value) (h : zH) (hx : zfok (h.2.2 a) 3 2 = true), zD 138 5 [l0, l1] (.ref a :: r) h = zD 138 8 [l0, l1] (zfv (h.2.2 a) 2 :: r) h) ∧
  (∀ (l0 l1 : Option Value) (x y : Int32) (r : List Value) (h : zH), zD 138 8 [l0, l1] (.int y :: .int x :: r) h = if ¬ x = y then zD 138 29 [l0, l1] r h else zD 138 11 [l0, l1] r h) ∧
  (∀ (l1 : Option Value) (x : Nat) (S : List Value) (h : zH), zD 138 11 [some (.ref x), l1] S h = zD 138 12 [some (.ref x), l1] (.ref x :: S) h) ∧
  (∀ (l0 l1 : Option Value) (a : Nat) (r : List Value) (h : zH) (hcat : zcat r ≤ 8) (hr : zis (h.2.2 a) 3 = true) (hC : (zC 92 [.ref a] h).isSome = true), zD 138 12 [l0, l1] (.ref a :: r) h = zD 138 15 [l0, l1] (zgv (zC 92 [.ref a] h) ++ r) (zgh h (zC 92 [.ref a] h))) ∧
  (∀ (l0 l1 : Option Value) (x : Int32) (r : List Value) (h : zH), zD 138 15 [l0, l1] (.int x :: r) h = if x = 0 then zD 138 29 [l0, l1] r h else zD 138 18 [l0, l1] r h) ∧
  (∀ (l0 : Option Value) (x : Nat) (S : List Value) (h : zH), zD 138 18 [l0, some (.ref x)] S h = zD 138 19 [l0, some (.ref x)] (.ref x :: S) h) ∧
  (∀ (l0 : Option Value) (S : List Value) (h : zH), zD 138 18 [l0, some .null] S h = zD 138 19 [l0, some .null] (.null :: S) h) ∧
  (∀ (l0 l1 : Option Value) (a : Nat) (r : List Value) (h : zH) (hcat : zcat r ≤ 8) (hr : zis (h.2.2 a) 3 = true) (hC : (zC 92 [.ref a] h).isSome = true), zD 138 19 [l0, l1] (.ref a :: r) h = zD 138 22 [l0, l1] (zgv (zC 92 [.ref a] h) ++ r) (zgh h (zC 92 [.ref a] h))) ∧
  (∀ (l0 l1 : Option Value) (x : Int32) (r : List Value) (h : zH), zD 138 22 [l0, l1] (.int x :: r) h = if x = 0 then zD 138 29 [l0, l1] r h else zD 138 25 [l0, l1] r h) ∧
  (∀ (l0 l1 : Option Value) (S : List Value) (h : zH), zD 138 25 [l0, l1] S h = zD 138 26 [l0, l1] (.int (1 : Int32) :: S) h) ∧
  (∀ (l0 l1 : Option Value) (S : List Value) (h : zH), zD 138 26 [l0, l1] S h = zD 138 30 [l0, l1] S h) ∧
  (∀ (l0 l1 : Option Value) (S : List Value) (h : zH), zD 138 29 [l0, l1] S h = zD 138 30 [l0, l1] (.int (0 : Int32) :: S) h) ∧
  (∀ (l0 l1 : Option Value) (v : Int32) (h : zH) (hv : zbv v), zD 138 30 [l0, l1] [.int v] h = some (some (.int v), h)) :=
  ⟨fun l1 x S h => zD_op (ins := .aload_n 0) (len := 1) (c := (1, [some (.ref x), l1], (.ref x :: S), h)) (by decide +kernel) rfl rfl rfl rfl,
  fun l0 l1 a r h hx => zD_getf (i := 166) (ci := 3) (k := 2) (q := (90, 1)) (by decide +kernel) (by decide +kernel) hx,
  fun l0 x S h => zD_op (ins := .aload_n 1) (len := 1) (c := (5, [l0, some (.ref x)], (.ref x :: S), h)) (by decide +kernel) rfl rfl rfl rfl,
  fun l0 S h => zD_op (ins := .aload_n 1) (len := 1) (c := (5, [l0, some .null], (.null :: S), h)) (by decide +kernel) rfl rfl rfl rfl,
  fun l0 l1 a r h hx => zD_getf (i := 166) (ci := 3) (k := 2) (q := (90, 1)) (by decide +kernel) (by decide +kernel) hx,
  fun l0 l1 x y r h => zD_if (cnd := .ne) (off := 21) (by decide +kernel) (by decide) rfl,
  fun l1 x S h => zD_op (ins := .aload_n 0) (len := 1) (c := (12, [some (.ref x), l1], (.ref x :: S), h)) (by decide +kernel) rfl rfl rfl rfl,
  fun l0 l1 a r h hcat hr hC => zD_callv (i := 103) (y := 92) (n := 0) (as := []) (ci := 3) (by decide +kernel) (by decide +kernel) rfl (by decide +kernel) (Nat.le_of_ble_eq_true rfl) (by decide +kernel) hcat hr hC,
  fun l0 l1 x r h => zD_if0 (cnd := .eq) (off := 14) (by decide +kernel) (by decide) rfl,
  fun l0 x S h => zD_op (ins := .aload_n 1) (len := 1) (c := (19, [l0, some (.ref x)], (.ref x :: S), h)) (by decide +kernel) rfl rfl rfl rfl,
  fun l0 S h => zD_op (ins := .aload_n 1) (len := 1) (c := (19, [l0, some .null], (.null :: S), h)) (by decide +kernel) rfl rfl rfl rfl,
  fun l0 l1 a r h hcat hr hC => zD_callv (i := 103) (y := 92) (n := 0) (as := []) (ci := 3) (by decide +kernel) (by decide +kernel) rfl (by decide +kernel) (Nat.le_of_ble_eq_true rfl) (by decide +kernel) hcat hr hC,
  fun l0 l1 x r h => zD_if0 (cnd := .eq) (off := 7) (by decide +kernel) (by decide) rfl,
  fun l0 l1 S h => zD_icst (n := 1) (by decide +kernel) (by decide +kernel),
  fun l0 l1 S h => zD_goto (off := 4) (by decide +kernel) (by decide),
  fun l0 l1 S h => zD_icst (n := 0) (by decide +kernel) (by decide +kernel),
  fun l0 l1 v h hv => zD_iretz (by decide +kernel) rfl hv⟩
set_option maxRecDepth 100000 in
theorem I_X9_areComparable : (∀ (p0 : Nat) (p1 : Nat) (h : zH), zC 138 [.ref p0, .ref p1] h = zD 138 0 [some (.ref p0), some (.ref p1)] [] h) :=
  fun p0 p1 h => zC_def rfl
set_option maxRecDepth 100000 in
theorem E_X10_weight : (∀ (l1 l2 l3 l4 : Option Value) (x : Nat) (S : List Value) (h : zH), zD 139 0 [some (.ref x), l1, l2, l3, l4] S h = zD 139 1 [some (.ref x), l1, l2, l3, l4] (.ref x :: S) h) ∧
  (∀ (l0 l2 l3 l4 : Option Value) (x : Int32) (S : List Value) (h : zH), zD 139 1 [l0, some (.int x), l2, l3, l4] S h = zD 139 2 [l0, some (.int x), l2, l3, l4] (.int x :: S) h) ∧
  (∀ (l0 l1 l3 l4 : Option Value) (x : Int32) (S : List Value) (h : zH), zD 139 2 [l0, l1, some (.int x), l3, l4] S h = zD 139 3 [l0, l1, some (.int x), l3, l4] (.int x :: S) h) ∧
  (∀ (l0 l1 l2 l3 l4 : Option Value) (p0 : Int32) (p1 : Int32) (a : Nat) (r : List Value) (h : zH) (hcat : zcat r ≤ 8) (hr : zis (h.2.2 a) 9 = true) (hC : (zC 113 (.ref a :: [.int p0, .int p1]) h).isSome = true), zD 139 3 [l0, l1, l2, l3, l4] (.int p1 :: .int p0 :: .ref a :: r) h = zD 139 6 [l0, l1, l2, l3, l4] (zgv (zC 113 (.ref a :: [.int p0, .int p1]) h) ++ r) (zgh h (zC 113 (.ref a :: [.int p0, .int p1]) h))) ∧
  (∀ (l0 l1 l2 l3 l4 : Option Value) (x : Int32) (r : List Value) (h : zH), zD 139 6 [l0, l1, l2, l3, l4] (.int x :: r) h = if ¬ x = 0 then zD 139 12 [l0, l1, l2, l3, l4] r h else zD 139 9 [l0, l1, l2, l3, l4] r h) ∧
  (∀ (l0 l1 l2 l3 l4 : Option Value) (S : List Value) (h : zH), zD 139 9 [l0, l1, l2, l3, l4] S h = zD 139 11 [l0, l1, l2, l3, l4] (.int (-101 : Int32) :: S) h) ∧
  (∀ (l0 l1 l2 l3 l4 : Option Value) (v : Int32) (h : zH), zD 139 11 [l0, l1, l2, l3, l4] [.int v] h = some (some (.int v), h)) ∧
  (∀ (l0 l1 l2 l4 : Option Value) (x : Int32) (S : List Value) (h : zH), zD 139 12 [l0, l1, l2, some (.int x), l4] S h = zD 139 13 [l0, l1, l2, some (.int x), l4] (.int x :: S) h) ∧
  (∀ (l0 l1 l2 l3 l4 : Option Value) (S : List Value) (h : zH), zD 139 13 [l0, l1, l2, l3, l4] S h = zD 139 15 [l0, l1, l2, l3, l4] (.int (-1000000 : Int32) :: S) h) ∧
  (∀ (l0 l1 l2 l3 l4 : Option Value) (S : List Value) (h : zH), zD 139 15 [l0, l1, l2, l3, l4] S h = zD 139 17 [l0, l1, l2, l3, l4] (.int (1000000 : Int32) :: S) h) ∧
  (∀ (l0 l1 l2 l3 l4 : Option Value) (p0 : Int32) (p1 : Int32) (p2 : Int32) (r : List Value) (h : zH) (hcat : zcat r ≤ 8) (hC : (zC 26 [.int p0, .int p1, .int p2] h).isSome = true), zD 139 17 [l0, l1, l2, l3, l4] (.int p2 :: .int p1 :: .int p0 :: r) h = zD 139 20 [l0, l1, l2, l3, l4] (zgv (zC 26 [.int p0, .int p1, .int p2] h) ++ r) (zgh h (zC 26 [.int p0, .int p1, .int p2] h))) ∧
  (∀ (l0 l1 l2 l3 l4 : Option Value) (x : Int32) (r : List Value) (h : zH), zD 139 20 [l0, l1, l2, l3, l4] (.int x :: r) h = if ¬ x = 0 then zD 139 26 [l0, l1, l2, l3, l4] r h else zD 139 23 [l0, l1, l2, l3, l4] r h) ∧
  (∀ (l0 l1 l2 l3 l4 : Option Value) (S : List Value) (h : zH), zD 139 23 [l0, l1, l2, l3, l4] S h = zD 139 25 [l0, l1, l2, l3, l4] (.int (-102 : Int32) :: S) h) ∧
  (∀ (l0 l1 l2 l3 l4 : Option Value) (v : Int32) (h : zH), zD 139 25 [l0, l1, l2, l3, l4] [.int v] h = some (some (.int v), h)) ∧
  (∀ (l1 l2 l3 l4 : Option Value) (x : Nat) (S : List Value) (h : zH), zD 139 26 [some (.ref x), l1, l2, l3, l4] S h = zD 139 27 [some (.ref x), l1, l2, l3, l4] (.ref x :: S) h) ∧
  (∀ (l0 l1 l2 l3 l4 : Option Value) (a : Nat) (r : List Value) (h : zH) (hx : zfok (h.2.2 a) 9 3 = true), zD 139 27 [l0, l1, l2, l3, l4] (.ref a :: r) h = zD 139 30 [l0, l1, l2, l3, l4] (zfv (h.2.2 a) 3 :: r) h) ∧
  (∀ (l0 l1 l2 l3 l4 : Option Value) (S : List Value) (h : zH), zD 139 30 [l0, l1, l2, l3, l4] S h = zD 139 32 [l0, l1, l2, l3, l4] (.int (8 : Int32) :: S) h) ∧
  (∀ (l0 l1 l3 l4 : Option Value) (x : Int32) (S : List Value) (h : zH), zD 139 32 [l0, l1, some (.int x), l3, l4] S h = zD 139 33 [l0, l1, some (.int x), l3, l4] (.int x :: S) h) ∧
  (∀ (l0 l1 l2 l3 l4 : Option Value) (x y : Int32) (r : List Value) (h : zH), zD 139 33 [l0, l1, l2, l3, l4] (.int y :: .int x :: r) h = zD 139 34 [l0, l1, l2, l3, l4] (.int (x * y) :: r) h) ∧
  (∀ (l0 l2 l3 l4 : Option Value) (x : Int32) (S : List Value) (h : zH), zD 139 34 [l0, some (.int x), l2, l3, l4] S h = zD 139 35 [l0, some (.int x), l2, l3, l4] (.int x :: S) h) ∧
  (∀ (l0 l1 l2 l3 l4 : Option Value) (x y : Int32) (r : List Value) (h : zH), zD 139 35 [l0, l1, l2, l3, l4] (.int y :: .int x :: r) h = zD 139 36 [l0, l1, l2, l3, l4] (.int (x + y) :: r) h) ∧
  (∀ (l0 l1 l2 l3 l4 : Option Value) (i : Int32) (a : Nat) (r : List Value) (h : zH) (hx : ziok a (h.2.2 a) i = true), zD 139 36 [l0, l1, l2, l3, l4] (.int i :: .ref a :: r) h = zD 139 37 [l0, l1, l2, l3, l4] (.int (ziv (h.2.2 a) i) :: r) h) ∧
  (∀ (l0 l1 l2 l3 l4 : Option Value) (x : Int32) (r : List Value) (h : zH), zD 139 37 [l0, l1, l2, l3, l4] (.int x :: r) h = zD 139 39 [l0, l1, l2, zclr l3, some (.int x)] r h) ∧
  (∀ (l1 l2 l3 l4 : Option Value) (x : Nat) (S : List Value) (h : zH), zD 139 39 [some (.ref x), l1, l2, l3, l4] S h = zD 139 40 [some (.ref x), l1, l2, l3, l4] (.ref x :: S) h) ∧
  (∀ (l0 l1 l2 l3 l4 : Option Value) (a : Nat) (r : List Value) (h : zH) (hx : zfok (h.2.2 a) 9 3 = true), zD 139 40 [l0, l1, l2, l3, l4] (.ref a :: r) h = zD 139 43 [l0, l1, l2, l3, l4] (zfv (h.2.2 a) 3 :: r) h) ∧
  (∀ (l0 l1 l2 l3 l4 : Option Value) (S : List Value) (h : zH), zD 139 43 [l0, l1, l2, l3, l4] S h = zD 139 45 [l0, l1, l2, l3, l4] (.int (8 : Int32) :: S) h) ∧
  (∀ (l0 l1 l3 l4 : Option Value) (x : Int32) (S : List Value) (h : zH), zD 139 45 [l0, l1, some (.int x), l3, l4] S h = zD 139 46 [l0, l1, some (.int x), l3, l4] (.int x :: S) h) ∧
  (∀ (l0 l1 l2 l3 l4 : Option Value) (x y : Int32) (r : List Value) (h : zH), zD 139 46 [l0, l1, l2, l3, l4] (.int y :: .int x :: r) h = zD 139 47 [l0, l1, l2, l3, l4] (.int (x * y) :: r) h) ∧
  (∀ (l0 l2 l3 l4 : Option Value) (x : Int32) (S : List Value) (h : zH), zD 139 47 [l0, some (.int x), l2, l3, l4] S h = zD 139 48 [l0, some (.int x), l2, l3, l4] (.int x :: S) h) ∧
  (∀ (l0 l1 l2 l3 l4 : Option Value) (x y : Int32) (r : List Value) (h : zH), zD 139 48 [l0, l1, l2, l3, l4] (.int y :: .int x :: r) h = zD 139 49 [l0, l1, l2, l3, l4] (.int (x + y) :: r) h) ∧
  (∀ (l0 l1 l2 l4 : Option Value) (x : Int32) (S : List Value) (h : zH), zD 139 49 [l0, l1, l2, some (.int x), l4] S h = zD 139 50 [l0, l1, l2, some (.int x), l4] (.int x :: S) h) ∧
  (∀ (l0 l1 l2 l3 l4 : Option Value) (w i : Int32) (a : Nat) (r : List Value) (h : zH) (hx : zpok (h.2.2 a) i = true), zD 139 50 [l0, l1, l2, l3, l4] (.int w :: .int i :: .ref a :: r) h = zD 139 51 [l0, l1, l2, l3, l4] r (zw h a (zis' (h.2.2 a) i w))) ∧
  (∀ (l1 l2 l3 l4 : Option Value) (x : Nat) (S : List Value) (h : zH), zD 139 51 [some (.ref x), l1, l2, l3, l4] S h = zD 139 52 [some (.ref x), l1, l2, l3, l4] (.ref x :: S) h) ∧
  (∀ (l0 l1 l2 l3 l4 : Option Value) (S : List Value) (h : zH), zD 139 52 [l0, l1, l2, l3, l4] S h = zD 139 53 [l0, l1, l2, l3, l4] (.int (0 : Int32) :: S) h) ∧
  (∀ (l0 l1 l2 l3 l4 : Option Value) (v : Int32) (a : Nat) (r : List Value) (h : zH) (hx : zfok (h.2.2 a) 9 5 = true) (hf : fits .boolean (.int v) = true) (hn : zbv v), zD 139 53 [l0, l1, l2, l3, l4] (.int v :: .ref a :: r) h = zD 139 56 [l0, l1, l2, l3, l4] r (zw h a (zfs' (h.2.2 a) 5 (.int v)))) ∧
  (∀ (l0 l1 l2 l3 : Option Value) (x : Int32) (S : List Value) (h : zH), zD 139 56 [l0, l1, l2, l3, some (.int x)] S h = zD 139 58 [l0, l1, l2, l3, some (.int x)] (.int x :: S) h) ∧
  (∀ (l0 l1 l2 l3 l4 : Option Value) (v : Int32) (h : zH), zD 139 58 [l0, l1, l2, l3, l4] [.int v] h = some (some (.int v), h)) :=
  ⟨fun l1 l2 l3 l4 x S h => zD_op (ins := .aload_n 0) (len := 1) (c := (1, [some (.ref x), l1, l2, l3, l4], (.ref x :: S), h)) (by decide +kernel) rfl rfl rfl rfl,
  fun l0 l2 l3 l4 x S h => zD_op (ins := .iload_n 1) (len := 1) (c := (2, [l0, some (.int x), l2, l3, l4], (.int x :: S), h)) (by decide +kernel) rfl rfl rfl rfl,
  fun l0 l1 l3 l4 x S h => zD_op (ins := .iload_n 2) (len := 1) (c := (3, [l0, l1, some (.int x), l3, l4], (.int x :: S), h)) (by decide +kernel) rfl rfl rfl rfl,
  fun l0 l1 l2 l3 l4 p0 p1 a r h hcat hr hC => zD_callv (i := 89) (y := 113) (n := 2) (as := [.int p0, .int p1]) (ci := 9) (by decide +kernel) (by decide +kernel) rfl (by decide +kernel) (Nat.le_of_ble_eq_true rfl) (by decide +kernel) hcat hr hC,
  fun l0 l1 l2 l3 l4 x r h => zD_if0 (cnd := .ne) (off := 6) (by decide +kernel) (by decide) rfl,
  fun l0 l1 l2 l3 l4 S h => zD_bip (n := (-101)) (by decide +kernel) (by decide +kernel),
  fun l0 l1 l2 l3 l4 v h => zD_ireti (by decide +kernel) rfl,
  fun l0 l1 l2 l4 x S h => zD_op (ins := .iload_n 3) (len := 1) (c := (13, [l0, l1, l2, some (.int x), l4], (.int x :: S), h)) (by decide +kernel) rfl rfl rfl rfl,
  fun l0 l1 l2 l3 l4 S h => zD_ldc (i := 93) (q := 815) (by decide +kernel) (by decide +kernel),
  fun l0 l1 l2 l3 l4 S h => zD_ldc (i := 94) (q := 816) (by decide +kernel) (by decide +kernel),
  fun l0 l1 l2 l3 l4 p0 p1 p2 r h hcat hC => zD_calls (i := 77) (y := 26) (n := 3) (as := [.int p0, .int p1, .int p2]) (by decide +kernel) (by decide +kernel) rfl (by decide +kernel) (Nat.le_of_ble_eq_true rfl) hcat hC,
  fun l0 l1 l2 l3 l4 x r h => zD_if0 (cnd := .ne) (off := 6) (by decide +kernel) (by decide) rfl,
  fun l0 l1 l2 l3 l4 S h => zD_bip (n := (-102)) (by decide +kernel) (by decide +kernel),
  fun l0 l1 l2 l3 l4 v h => zD_ireti (by decide +kernel) rfl,
  fun l1 l2 l3 l4 x S h => zD_op (ins := .aload_n 0) (len := 1) (c := (27, [some (.ref x), l1, l2, l3, l4], (.ref x :: S), h)) (by decide +kernel) rfl rfl rfl rfl,
  fun l0 l1 l2 l3 l4 a r h hx => zD_getf (i := 20) (ci := 9) (k := 3) (q := (714, 0)) (by decide +kernel) (by decide +kernel) hx,
  fun l0 l1 l2 l3 l4 S h => zD_bip (n := 8) (by decide +kernel) (by decide +kernel),
  fun l0 l1 l3 l4 x S h => zD_op (ins := .iload_n 2) (len := 1) (c := (33, [l0, l1, some (.int x), l3, l4], (.int x :: S), h)) (by decide +kernel) rfl rfl rfl rfl,
  fun l0 l1 l2 l3 l4 x y r h => zD_op (ins := .imul) (len := 1) (c := (34, [l0, l1, l2, l3, l4], (.int (x * y) :: r), h)) (by decide +kernel) rfl rfl rfl rfl,
  fun l0 l2 l3 l4 x S h => zD_op (ins := .iload_n 1) (len := 1) (c := (35, [l0, some (.int x), l2, l3, l4], (.int x :: S), h)) (by decide +kernel) rfl rfl rfl rfl,
  fun l0 l1 l2 l3 l4 x y r h => zD_op (ins := .iadd) (len := 1) (c := (36, [l0, l1, l2, l3, l4], (.int (x + y) :: r), h)) (by decide +kernel) rfl rfl rfl rfl,
  fun l0 l1 l2 l3 l4 i a r h hx => zD_iald (by decide +kernel) hx,
  fun l0 l1 l2 l3 l4 x r h => zD_st1 (k := 4) (ins := .istore 4) (len := 2) (by decide +kernel) rfl rfl rfl (by decide +kernel) rfl rfl,
  fun l1 l2 l3 l4 x S h => zD_op (ins := .aload_n 0) (len := 1) (c := (40, [some (.ref x), l1, l2, l3, l4], (.ref x :: S), h)) (by decide +kernel) rfl rfl rfl rfl,
  fun l0 l1 l2 l3 l4 a r h hx => zD_getf (i := 20) (ci := 9) (k := 3) (q := (714, 0)) (by decide +kernel) (by decide +kernel) hx,
  fun l0 l1 l2 l3 l4 S h => zD_bip (n := 8) (by decide +kernel) (by decide +kernel),
  fun l0 l1 l3 l4 x S h => zD_op (ins := .iload_n 2) (len := 1) (c := (46, [l0, l1, some (.int x), l3, l4], (.int x :: S), h)) (by decide +kernel) rfl rfl rfl rfl,
  fun l0 l1 l2 l3 l4 x y r h => zD_op (ins := .imul) (len := 1) (c := (47, [l0, l1, l2, l3, l4], (.int (x * y) :: r), h)) (by decide +kernel) rfl rfl rfl rfl,
  fun l0 l2 l3 l4 x S h => zD_op (ins := .iload_n 1) (len := 1) (c := (48, [l0, some (.int x), l2, l3, l4], (.int x :: S), h)) (by decide +kernel) rfl rfl rfl rfl,
  fun l0 l1 l2 l3 l4 x y r h => zD_op (ins := .iadd) (len := 1) (c := (49, [l0, l1, l2, l3, l4], (.int (x + y) :: r), h)) (by decide +kernel) rfl rfl rfl rfl,
  fun l0 l1 l2 l4 x S h => zD_op (ins := .iload_n 3) (len := 1) (c := (50, [l0, l1, l2, some (.int x), l4], (.int x :: S), h)) (by decide +kernel) rfl rfl rfl rfl,
  fun l0 l1 l2 l3 l4 w i a r h hx => zD_iast (by decide +kernel) hx,
  fun l1 l2 l3 l4 x S h => zD_op (ins := .aload_n 0) (len := 1) (c := (52, [some (.ref x), l1, l2, l3, l4], (.ref x :: S), h)) (by decide +kernel) rfl rfl rfl rfl,
  fun l0 l1 l2 l3 l4 S h => zD_icst (n := 0) (by decide +kernel) (by decide +kernel),
  fun l0 l1 l2 l3 l4 v a r h hx hf hn => zD_putf (i := 73) (ci := 9) (k := 5) (q := (716, 0)) (by decide +kernel) (by decide +kernel) (by decide +kernel) hx hf (congrArg Value.int hn),
  fun l0 l1 l2 l3 x S h => zD_op (ins := .iload 4) (len := 2) (c := (58, [l0, l1, l2, l3, some (.int x)], (.int x :: S), h)) (by decide +kernel) rfl rfl rfl rfl,
  fun l0 l1 l2 l3 l4 v h => zD_ireti (by decide +kernel) rfl⟩
set_option maxRecDepth 100000 in
theorem I_X10_weight : (∀ (a : Nat) (p0 : Int32) (p1 : Int32) (p2 : Int32) (h : zH), zC 139 [.ref a, .int p0, .int p1, .int p2] h = zD 139 0 [some (.ref a), some (.int p0), some (.int p1), some (.int p2), none] [] h) :=
  fun a p0 p1 p2 h => zC_def rfl
set_option maxRecDepth 100000 in
theorem E_X10_forbid : (∀ (l1 l2 l3 l4 : Option Value) (x : Nat) (S : List Value) (h : zH), zD 140 0 [some (.ref x), l1, l2, l3, l4] S h = zD 140 1 [some (.ref x), l1, l2, l3, l4] (.ref x :: S) h) ∧
  (∀ (l0 l2 l3 l4 : Option Value) (x : Int32) (S : List Value) (h : zH), zD 140 1 [l0, some (.int x), l2, l3, l4] S h = zD 140 2 [l0, some (.int x), l2, l3, l4] (.int x :: S) h) ∧
  (∀ (l0 l1 l3 l4 : Option Value) (x : Int32) (S : List Value) (h : zH), zD 140 2 [l0, l1, some (.int x), l3, l4] S h = zD 140 3 [l0, l1, some (.int x), l3, l4] (.int x :: S) h) ∧
  (∀ (l0 l1 l2 l3 l4 : Option Value) (p0 : Int32) (p1 : Int32) (a : Nat) (r : List Value) (h : zH) (hcat : zcat r ≤ 8) (hr : zis (h.2.2 a) 9 = true) (hC : (zC 113 (.ref a :: [.int p0, .int p1]) h).isSome = true), zD 140 3 [l0, l1, l2, l3, l4] (.int p1 :: .int p0 :: .ref a :: r) h = zD 140 6 [l0, l1, l2, l3, l4] (zgv (zC 113 (.ref a :: [.int p0, .int p1]) h) ++ r) (zgh h (zC 113 (.ref a :: [.int p0, .int p1]) h))) ∧
  (∀ (l0 l1 l2 l3 l4 : Option Value) (x : Int32) (r : List Value) (h : zH), zD 140 6 [l0, l1, l2, l3, l4] (.int x :: r) h = if ¬ x = 0 then zD 140 12 [l0, l1, l2, l3, l4] r h else zD 140 9 [l0, l1, l2, l3, l4] r h) ∧
  (∀ (l0 l1 l2 l3 l4 : Option Value) (S : List Value) (h : zH), zD 140 9 [l0, l1, l2, l3, l4] S h = zD 140 11 [l0, l1, l2, l3, l4] (.int (-101 : Int32) :: S) h) ∧
  (∀ (l0 l1 l2 l3 l4 : Option Value) (v : Int32) (h : zH), zD 140 11 [l0, l1, l2, l3, l4] [.int v] h = some (some (.int v), h)) ∧
  (∀ (l1 l2 l3 l4 : Option Value) (x : Nat) (S : List Value) (h : zH), zD 140 12 [some (.ref x), l1, l2, l3, l4] S h = zD 140 13 [some (.ref x), l1, l2, l3, l4] (.ref x :: S) h) ∧
  (∀ (l0 l1 l2 l3 l4 : Option Value) (a : Nat) (r : List Value) (h : zH) (hx : zfok (h.2.2 a) 9 4 = true), zD 140 13 [l0, l1, l2, l3, l4] (.ref a :: r) h = zD 140 16 [l0, l1, l2, l3, l4] (zfv (h.2.2 a) 4 :: r) h) ∧
  (∀ (l0 l1 l2 l3 l4 : Option Value) (S : List Value) (h : zH), zD 140 16 [l0, l1, l2, l3, l4] S h = zD 140 18 [l0, l1, l2, l3, l4] (.int (8 : Int32) :: S) h) ∧
  (∀ (l0 l1 l3 l4 : Option Value) (x : Int32) (S : List Value) (h : zH), zD 140 18 [l0, l1, some (.int x), l3, l4] S h = zD 140 19 [l0, l1, some (.int x), l3, l4] (.int x :: S) h) ∧
  (∀ (l0 l1 l2 l3 l4 : Option Value) (x y : Int32) (r : List Value) (h : zH), zD 140 19 [l0, l1, l2, l3, l4] (.int y :: .int x :: r) h = zD 140 20 [l0, l1, l2, l3, l4] (.int (x * y) :: r) h) ∧
  (∀ (l0 l2 l3 l4 : Option Value) (x : Int32) (S : List Value) (h : zH), zD 140 20 [l0, some (.int x), l2, l3, l4] S h = zD 140 21 [l0, some (.int x), l2, l3, l4] (.int x :: S) h) ∧
  (∀ (l0 l1 l2 l3 l4 : Option Value) (x y : Int32) (r : List Value) (h : zH), zD 140 21 [l0, l1, l2, l3, l4] (.int y :: .int x :: r) h = zD 140 22 [l0, l1, l2, l3, l4] (.int (x + y) :: r) h) ∧
  (∀ (l0 l1 l2 l3 l4 : Option Value) (i : Int32) (a : Nat) (r : List Value) (h : zH) (hx : zbok (h.2.2 a) i = true), zD 140 22 [l0, l1, l2, l3, l4] (.int i :: .ref a :: r) h = zD 140 23 [l0, l1, l2, l3, l4] (.int (ziv (h.2.2 a) i) :: r) h) ∧
  (∀ (l0 l1 l2 l3 l4 : Option Value) (x : Int32) (r : List Value) (h : zH), zD 140 23 [l0, l1, l2, l3, l4] (.int x :: r) h = if x = 0 then zD 140 30 [l0, l1, l2, l3, l4] r h else zD 140 26 [l0, l1, l2, l3, l4] r h) ∧
  (∀ (l0 l1 l2 l3 l4 : Option Value) (S : List Value) (h : zH), zD 140 26 [l0, l1, l2, l3, l4] S h = zD 140 27 [l0, l1, l2, l3, l4] (.int (1 : Int32) :: S) h) ∧
  (∀ (l0 l1 l2 l3 l4 : Option Value) (S : List Value) (h : zH), zD 140 27 [l0, l1, l2, l3, l4] S h = zD 140 31 [l0, l1, l2, l3, l4] S h) ∧
  (∀ (l0 l1 l2 l3 l4 : Option Value) (S : List Value) (h : zH), zD 140 30 [l0, l1, l2, l3, l4] S h = zD 140 31 [l0, l1, l2, l3, l4] (.int (0 : Int32) :: S) h) ∧
  (∀ (l0 l1 l2 l3 l4 : Option Value) (x : Int32) (r : List Value) (h : zH), zD 140 31 [l0, l1, l2, l3, l4] (.int x :: r) h = zD 140 33 [l0, l1, l2, zclr l3, some (.int x)] r h) ∧
  (∀ (l1 l2 l3 l4 : Option Value) (x : Nat) (S : List Value) (h : zH), zD 140 33 [some (.ref x), l1, l2, l3, l4] S h = zD 140 34 [some (.ref x), l1, l2, l3, l4] (.ref x :: S) h) ∧
  (∀ (l0 l1 l2 l3 l4 : Option Value) (a : Nat) (r : List Value) (h : zH) (hx : zfok (h.2.2 a) 9 4 = true), zD 140 34 [l0, l1, l2, l3, l4] (.ref a :: r) h = zD 140 37 [l0, l1, l2, l3, l4] (zfv (h.2.2 a) 4 :: r) h) ∧
  (∀ (l0 l1 l2 l3 l4 : Option Value) (S : List Value) (h : zH), zD 140 37 [l0, l1, l2, l3, l4] S h = zD 140 39 [l0, l1, l2, l3, l4] (.int (8 : Int32) :: S) h) ∧
  (∀ (l0 l1 l3 l4 : Option Value) (x : Int32) (S : List Value) (h : zH), zD 140 39 [l0, l1, some (.int x), l3, l4] S h = zD 140 40 [l0, l1, some (.int x), l3, l4] (.int x :: S) h) ∧
  (∀ (l0 l1 l2 l3 l4 : Option Value) (x y : Int32) (r : List Value) (h : zH), zD 140 40 [l0, l1, l2, l3, l4] (.int y :: .int x :: r) h = zD 140 41 [l0, l1, l2, l3, l4] (.int (x * y) :: r) h) ∧
  (∀ (l0 l2 l3 l4 : Option Value) (x : Int32) (S : List Value) (h : zH), zD 140 41 [l0, some (.int x), l2, l3, l4] S h = zD 140 42 [l0, some (.int x), l2, l3, l4] (.int x :: S) h) ∧
  (∀ (l0 l1 l2 l3 l4 : Option Value) (x y : Int32) (r : List Value) (h : zH), zD 140 42 [l0, l1, l2, l3, l4] (.int y :: .int x :: r) h = zD 140 43 [l0, l1, l2, l3, l4] (.int (x + y) :: r) h) ∧
  (∀ (l0 l1 l2 l4 : Option Value) (x : Int32) (S : List Value) (h : zH), zD 140 43 [l0, l1, l2, some (.int x), l4] S h = zD 140 44 [l0, l1, l2, some (.int x), l4] (.int x :: S) h) ∧
  (∀ (l0 l1 l2 l3 l4 : Option Value) (w i : Int32) (a : Nat) (r : List Value) (h : zH) (hx : zbok (h.2.2 a) i = true), zD 140 44 [l0, l1, l2, l3, l4] (.int w :: .int i :: .ref a :: r) h = zD 140 45 [l0, l1, l2, l3, l4] r (zw h a (zis' (h.2.2 a) i (vp_nar .boolean w)))) ∧
  (∀ (l1 l2 l3 l4 : Option Value) (x : Nat) (S : List Value) (h : zH), zD 140 45 [some (.ref x), l1, l2, l3, l4] S h = zD 140 46 [some (.ref x), l1, l2, l3, l4] (.ref x :: S) h) ∧
  (∀ (l0 l1 l2 l3 l4 : Option Value) (S : List Value) (h : zH), zD 140 46 [l0, l1, l2, l3, l4] S h = zD 140 47 [l0, l1, l2, l3, l4] (.int (0 : Int32) :: S) h) ∧
  (∀ (l0 l1 l2 l3 l4 : Option Value) (v : Int32) (a : Nat) (r : List Value) (h : zH) (hx : zfok (h.2.2 a) 9 5 = true) (hf : fits .boolean (.int v) = true) (hn : zbv v), zD 140 47 [l0, l1, l2, l3, l4] (.int v :: .ref a :: r) h = zD 140 50 [l0, l1, l2, l3, l4] r (zw h a (zfs' (h.2.2 a) 5 (.int v)))) ∧
  (∀ (l0 l1 l2 l3 : Option Value) (x : Int32) (S : List Value) (h : zH), zD 140 50 [l0, l1, l2, l3, some (.int x)] S h = zD 140 52 [l0, l1, l2, l3, some (.int x)] (.int x :: S) h) ∧
  (∀ (l0 l1 l2 l3 l4 : Option Value) (v : Int32) (h : zH), zD 140 52 [l0, l1, l2, l3, l4] [.int v] h = some (some (.int v), h)) :=
  ⟨fun l1 l2 l3 l4 x S h => zD_op (ins := .aload_n 0) (len := 1) (c := (1, [some (.ref x), l1, l2, l3, l4], (.ref x :: S), h)) (by decide +kernel) rfl rfl rfl rfl,
  fun l0 l2 l3 l4 x S h => zD_op (ins := .iload_n 1) (len := 1) (c := (2, [l0, some (.int x), l2, l3, l4], (.int x :: S), h)) (by decide +kernel) rfl rfl rfl rfl,
  fun l0 l1 l3 l4 x S h => zD_op (ins := .iload_n 2) (len := 1) (c := (3, [l0, l1, some (.int x), l3, l4], (.int x :: S), h)) (by decide +kernel) rfl rfl rfl rfl,
  fun l0 l1 l2 l3 l4 p0 p1 a r h hcat hr hC => zD_callv (i := 89) (y := 113) (n := 2) (as := [.int p0, .int p1]) (ci := 9) (by decide +kernel) (by decide +kernel) rfl (by decide +kernel) (Nat.le_of_ble_eq_true rfl) (by decide +kernel) hcat hr hC,
  fun l0 l1 l2 l3 l4 x r h => zD_if0 (cnd := .ne) (off := 6) (by decide +kernel) (by decide) rfl,
  fun l0 l1 l2 l3 l4 S h => zD_bip (n := (-101)) (by decide +kernel) (by decide +kernel),
  fun l0 l1 l2 l3 l4 v h => zD_ireti (by decide +kernel) rfl,
  fun l1 l2 l3 l4 x S h => zD_op (ins := .aload_n 0) (len := 1) (c := (13, [some (.ref x), l1, l2, l3, l4], (.ref x :: S), h)) (by decide +kernel) rfl rfl rfl rfl,
  fun l0 l1 l2 l3 l4 a r h hx => zD_getf (i := 23) (ci := 9) (k := 4) (q := (715, 0)) (by decide +kernel) (by decide +kernel) hx,
  fun l0 l1 l2 l3 l4 S h => zD_bip (n := 8) (by decide +kernel) (by decide +kernel),
  fun l0 l1 l3 l4 x S h => zD_op (ins := .iload_n 2) (len := 1) (c := (19, [l0, l1, some (.int x), l3, l4], (.int x :: S), h)) (by decide +kernel) rfl rfl rfl rfl,
  fun l0 l1 l2 l3 l4 x y r h => zD_op (ins := .imul) (len := 1) (c := (20, [l0, l1, l2, l3, l4], (.int (x * y) :: r), h)) (by decide +kernel) rfl rfl rfl rfl,
  fun l0 l2 l3 l4 x S h => zD_op (ins := .iload_n 1) (len := 1) (c := (21, [l0, some (.int x), l2, l3, l4], (.int x :: S), h)) (by decide +kernel) rfl rfl rfl rfl,
  fun l0 l1 l2 l3 l4 x y r h => zD_op (ins := .iadd) (len := 1) (c := (22, [l0, l1, l2, l3, l4], (.int (x + y) :: r), h)) (by decide +kernel) rfl rfl rfl rfl,
  fun l0 l1 l2 l3 l4 i a r h hx => zD_bald (by decide +kernel) hx,
  fun l0 l1 l2 l3 l4 x r h => zD_if0 (cnd := .eq) (off := 7) (by decide +kernel) (by decide) rfl,
  fun l0 l1 l2 l3 l4 S h => zD_icst (n := 1) (by decide +kernel) (by decide +kernel),
  fun l0 l1 l2 l3 l4 S h => zD_goto (off := 4) (by decide +kernel) (by decide),
  fun l0 l1 l2 l3 l4 S h => zD_icst (n := 0) (by decide +kernel) (by decide +kernel),
  fun l0 l1 l2 l3 l4 x r h => zD_st1 (k := 4) (ins := .istore 4) (len := 2) (by decide +kernel) rfl rfl rfl (by decide +kernel) rfl rfl,
  fun l1 l2 l3 l4 x S h => zD_op (ins := .aload_n 0) (len := 1) (c := (34, [some (.ref x), l1, l2, l3, l4], (.ref x :: S), h)) (by decide +kernel) rfl rfl rfl rfl,
  fun l0 l1 l2 l3 l4 a r h hx => zD_getf (i := 23) (ci := 9) (k := 4) (q := (715, 0)) (by decide +kernel) (by decide +kernel) hx,
  fun l0 l1 l2 l3 l4 S h => zD_bip (n := 8) (by decide +kernel) (by decide +kernel),
  fun l0 l1 l3 l4 x S h => zD_op (ins := .iload_n 2) (len := 1) (c := (40, [l0, l1, some (.int x), l3, l4], (.int x :: S), h)) (by decide +kernel) rfl rfl rfl rfl,
  fun l0 l1 l2 l3 l4 x y r h => zD_op (ins := .imul) (len := 1) (c := (41, [l0, l1, l2, l3, l4], (.int (x * y) :: r), h)) (by decide +kernel) rfl rfl rfl rfl,
  fun l0 l2 l3 l4 x S h => zD_op (ins := .iload_n 1) (len := 1) (c := (42, [l0, some (.int x), l2, l3, l4], (.int x :: S), h)) (by decide +kernel) rfl rfl rfl rfl,
  fun l0 l1 l2 l3 l4 x y r h => zD_op (ins := .iadd) (len := 1) (c := (43, [l0, l1, l2, l3, l4], (.int (x + y) :: r), h)) (by decide +kernel) rfl rfl rfl rfl,
  fun l0 l1 l2 l4 x S h => zD_op (ins := .iload_n 3) (len := 1) (c := (44, [l0, l1, l2, some (.int x), l4], (.int x :: S), h)) (by decide +kernel) rfl rfl rfl rfl,
  fun l0 l1 l2 l3 l4 w i a r h hx => zD_bast (by decide +kernel) hx,
  fun l1 l2 l3 l4 x S h => zD_op (ins := .aload_n 0) (len := 1) (c := (46, [some (.ref x), l1, l2, l3, l4], (.ref x :: S), h)) (by decide +kernel) rfl rfl rfl rfl,
  fun l0 l1 l2 l3 l4 S h => zD_icst (n := 0) (by decide +kernel) (by decide +kernel),
  fun l0 l1 l2 l3 l4 v a r h hx hf hn => zD_putf (i := 73) (ci := 9) (k := 5) (q := (716, 0)) (by decide +kernel) (by decide +kernel) (by decide +kernel) hx hf (congrArg Value.int hn),
  fun l0 l1 l2 l3 x S h => zD_op (ins := .iload 4) (len := 2) (c := (52, [l0, l1, l2, l3, some (.int x)], (.int x :: S), h)) (by decide +kernel) rfl rfl rfl rfl,
  fun l0 l1 l2 l3 l4 v h => zD_ireti (by decide +kernel) rfl⟩
set_option maxRecDepth 100000 in
theorem I_X10_forbid : (∀ (a : Nat) (p0 : Int32) (p1 : Int32) (p2 : Int32) (h : zH), zC 140 [.ref a, .int p0, .int p1, .int p2] h = zD 140 0 [some (.ref a), some (.int p0), some (.int p1), some (.int p2), none] [] h) :=
  fun a p0 p1 p2 h => zC_def rfl
set_option maxRecDepth 100000 in
theorem E_X10_weighs : (∀ (l1 l2 : Option Value) (x : Nat) (S : List Value) (h : zH), zD 141 0 [some (.ref x), l1, l2] S h = zD 141 1 [some (.ref x), l1, l2] (.ref x :: S) h) ∧
  (∀ (l0 l2 : Option Value) (x : Int32) (S : List Value) (h : zH), zD 141 1 [l0, some (.int x), l2] S h = zD 141 2 [l0, some (.int x), l2] (.int x :: S) h) ∧
  (∀ (l0 l1 : Option Value) (x : Int32) (S : List Value) (h : zH), zD 141 2 [l0, l1, some (.int x)] S h = zD 141 3 [l0, l1, some (.int x)] (.int x :: S) h) ∧
  (∀ (l0 l1 l2 : Option Value) (p0 : Int32) (p1 : Int32) (a : Nat) (r : List Value) (h : zH) (hcat : zcat r ≤ 8) (hr : zis (h.2.2 a) 9 = true) (hC : (zC 113 (.ref a :: [.int p0, .int p1]) h).isSome = true), zD 141 3 [l0, l1, l2] (.int p1 :: .int p0 :: .ref a :: r) h = zD 141 6 [l0, l1, l2] (zgv (zC 113 (.ref a :: [.int p0, .int p1]) h) ++ r) (zgh h (zC 113 (.ref a :: [.int p0, .int p1]) h))) ∧
  (∀ (l0 l1 l2 : Option Value) (x : Int32) (r : List Value) (h : zH), zD 141 6 [l0, l1, l2] (.int x :: r) h = if x = 0 then zD 141 23 [l0, l1, l2] r h else zD 141 9 [l0, l1, l2] r h) ∧
  (∀ (l1 l2 : Option Value) (x : Nat) (S : List Value) (h : zH), zD 141 9 [some (.ref x), l1, l2] S h = zD 141 10 [some (.ref x), l1, l2] (.ref x :: S) h) ∧
  (∀ (l0 l1 l2 : Option Value) (a : Nat) (r : List Value) (h : zH) (hx : zfok (h.2.2 a) 9 3 = true), zD 141 10 [l0, l1, l2] (.ref a :: r) h = zD 141 13 [l0, l1, l2] (zfv (h.2.2 a) 3 :: r) h) ∧
  (∀ (l0 l1 l2 : Option Value) (S : List Value) (h : zH), zD 141 13 [l0, l1, l2] S h = zD 141 15 [l0, l1, l2] (.int (8 : Int32) :: S) h) ∧
  (∀ (l0 l1 : Option Value) (x : Int32) (S : List Value) (h : zH), zD 141 15 [l0, l1, some (.int x)] S h = zD 141 16 [l0, l1, some (.int x)] (.int x :: S) h) ∧
  (∀ (l0 l1 l2 : Option Value) (x y : Int32) (r : List Value) (h : zH), zD 141 16 [l0, l1, l2] (.int y :: .int x :: r) h = zD 141 17 [l0, l1, l2] (.int (x * y) :: r) h) ∧
  (∀ (l0 l2 : Option Value) (x : Int32) (S : List Value) (h : zH), zD 141 17 [l0, some (.int x), l2] S h = zD 141 18 [l0, some (.int x), l2] (.int x :: S) h) ∧
  (∀ (l0 l1 l2 : Option Value) (x y : Int32) (r : List Value) (h : zH), zD 141 18 [l0, l1, l2] (.int y :: .int x :: r) h = zD 141 19 [l0, l1, l2] (.int (x + y) :: r) h) ∧
  (∀ (l0 l1 l2 : Option Value) (i : Int32) (a : Nat) (r : List Value) (h : zH) (hx : ziok a (h.2.2 a) i = true), zD 141 19 [l0, l1, l2] (.int i :: .ref a :: r) h = zD 141 20 [l0, l1, l2] (.int (ziv (h.2.2 a) i) :: r) h) ∧
  (∀ (l0 l1 l2 : Option Value) (S : List Value) (h : zH), zD 141 20 [l0, l1, l2] S h = zD 141 25 [l0, l1, l2] S h) ∧
  (∀ (l0 l1 l2 : Option Value) (S : List Value) (h : zH), zD 141 23 [l0, l1, l2] S h = zD 141 25 [l0, l1, l2] (.int (-2000000 : Int32) :: S) h) ∧
  (∀ (l0 l1 l2 : Option Value) (v : Int32) (h : zH), zD 141 25 [l0, l1, l2] [.int v] h = some (some (.int v), h)) :=
  ⟨fun l1 l2 x S h => zD_op (ins := .aload_n 0) (len := 1) (c := (1, [some (.ref x), l1, l2], (.ref x :: S), h)) (by decide +kernel) rfl rfl rfl rfl,
  fun l0 l2 x S h => zD_op (ins := .iload_n 1) (len := 1) (c := (2, [l0, some (.int x), l2], (.int x :: S), h)) (by decide +kernel) rfl rfl rfl rfl,
  fun l0 l1 x S h => zD_op (ins := .iload_n 2) (len := 1) (c := (3, [l0, l1, some (.int x)], (.int x :: S), h)) (by decide +kernel) rfl rfl rfl rfl,
  fun l0 l1 l2 p0 p1 a r h hcat hr hC => zD_callv (i := 89) (y := 113) (n := 2) (as := [.int p0, .int p1]) (ci := 9) (by decide +kernel) (by decide +kernel) rfl (by decide +kernel) (Nat.le_of_ble_eq_true rfl) (by decide +kernel) hcat hr hC,
  fun l0 l1 l2 x r h => zD_if0 (cnd := .eq) (off := 17) (by decide +kernel) (by decide) rfl,
  fun l1 l2 x S h => zD_op (ins := .aload_n 0) (len := 1) (c := (10, [some (.ref x), l1, l2], (.ref x :: S), h)) (by decide +kernel) rfl rfl rfl rfl,
  fun l0 l1 l2 a r h hx => zD_getf (i := 20) (ci := 9) (k := 3) (q := (714, 0)) (by decide +kernel) (by decide +kernel) hx,
  fun l0 l1 l2 S h => zD_bip (n := 8) (by decide +kernel) (by decide +kernel),
  fun l0 l1 x S h => zD_op (ins := .iload_n 2) (len := 1) (c := (16, [l0, l1, some (.int x)], (.int x :: S), h)) (by decide +kernel) rfl rfl rfl rfl,
  fun l0 l1 l2 x y r h => zD_op (ins := .imul) (len := 1) (c := (17, [l0, l1, l2], (.int (x * y) :: r), h)) (by decide +kernel) rfl rfl rfl rfl,
  fun l0 l2 x S h => zD_op (ins := .iload_n 1) (len := 1) (c := (18, [l0, some (.int x), l2], (.int x :: S), h)) (by decide +kernel) rfl rfl rfl rfl,
  fun l0 l1 l2 x y r h => zD_op (ins := .iadd) (len := 1) (c := (19, [l0, l1, l2], (.int (x + y) :: r), h)) (by decide +kernel) rfl rfl rfl rfl,
  fun l0 l1 l2 i a r h hx => zD_iald (by decide +kernel) hx,
  fun l0 l1 l2 S h => zD_goto (off := 5) (by decide +kernel) (by decide),
  fun l0 l1 l2 S h => zD_ldc (i := 95) (q := 825) (by decide +kernel) (by decide +kernel),
  fun l0 l1 l2 v h => zD_ireti (by decide +kernel) rfl⟩
set_option maxRecDepth 100000 in
theorem I_X10_weighs : (∀ (a : Nat) (p0 : Int32) (p1 : Int32) (h : zH), zC 141 [.ref a, .int p0, .int p1] h = zD 141 0 [some (.ref a), some (.int p0), some (.int p1)] [] h) :=
  fun a p0 p1 h => zC_def rfl
set_option maxRecDepth 100000 in
theorem E_X10_head : (∀ (l1 l2 l3 : Option Value) (x : Nat) (S : List Value) (h : zH), zD 142 0 [some (.ref x), l1, l2, l3] S h = zD 142 1 [some (.ref x), l1, l2, l3] (.ref x :: S) h) ∧
  (∀ (l0 l1 l3 : Option Value) (x : Int32) (S : List Value) (h : zH), zD 142 1 [l0, l1, some (.int x), l3] S h = zD 142 2 [l0, l1, some (.int x), l3] (.int x :: S) h) ∧
  (∀ (l0 l2 l3 : Option Value) (x : Int32) (S : List Value) (h : zH), zD 142 2 [l0, some (.int x), l2, l3] S h = zD 142 3 [l0, some (.int x), l2, l3] (.int x :: S) h) ∧
  (∀ (l0 l1 l2 l3 : Option Value) (p0 : Int32) (p1 : Int32) (a : Nat) (r : List Value) (h : zH) (hcat : zcat r ≤ 8) (hr : zis (h.2.2 a) 9 = true) (hC : (zC 113 (.ref a :: [.int p0, .int p1]) h).isSome = true), zD 142 3 [l0, l1, l2, l3] (.int p1 :: .int p0 :: .ref a :: r) h = zD 142 6 [l0, l1, l2, l3] (zgv (zC 113 (.ref a :: [.int p0, .int p1]) h) ++ r) (zgh h (zC 113 (.ref a :: [.int p0, .int p1]) h))) ∧
  (∀ (l0 l1 l2 l3 : Option Value) (x : Int32) (r : List Value) (h : zH), zD 142 6 [l0, l1, l2, l3] (.int x :: r) h = if ¬ x = 0 then zD 142 12 [l0, l1, l2, l3] r h else zD 142 9 [l0, l1, l2, l3] r h) ∧
  (∀ (l0 l1 l2 l3 : Option Value) (S : List Value) (h : zH), zD 142 9 [l0, l1, l2, l3] S h = zD 142 11 [l0, l1, l2, l3] (.int (-101 : Int32) :: S) h) ∧
  (∀ (l0 l1 l2 l3 : Option Value) (v : Int32) (h : zH), zD 142 11 [l0, l1, l2, l3] [.int v] h = some (some (.int v), h)) ∧
  (∀ (l1 l2 l3 : Option Value) (x : Nat) (S : List Value) (h : zH), zD 142 12 [some (.ref x), l1, l2, l3] S h = zD 142 13 [some (.ref x), l1, l2, l3] (.ref x :: S) h) ∧
  (∀ (l0 l1 l2 l3 : Option Value) (a : Nat) (r : List Value) (h : zH) (hx : zfok (h.2.2 a) 9 2 = true), zD 142 13 [l0, l1, l2, l3] (.ref a :: r) h = zD 142 16 [l0, l1, l2, l3] (zfv (h.2.2 a) 2 :: r) h) ∧
  (∀ (l0 l2 l3 : Option Value) (x : Int32) (S : List Value) (h : zH), zD 142 16 [l0, some (.int x), l2, l3] S h = zD 142 17 [l0, some (.int x), l2, l3] (.int x :: S) h) ∧
  (∀ (l0 l1 l2 l3 : Option Value) (i : Int32) (a : Nat) (r : List Value) (h : zH) (hx : ziok a (h.2.2 a) i = true), zD 142 17 [l0, l1, l2, l3] (.int i :: .ref a :: r) h = zD 142 18 [l0, l1, l2, l3] (.int (ziv (h.2.2 a) i) :: r) h) ∧
  (∀ (l0 l1 l2 l3 : Option Value) (x : Int32) (r : List Value) (h : zH), zD 142 18 [l0, l1, l2, l3] (.int x :: r) h = zD 142 19 [l0, l1, zclr l2, some (.int x)] r h) ∧
  (∀ (l1 l2 l3 : Option Value) (x : Nat) (S : List Value) (h : zH), zD 142 19 [some (.ref x), l1, l2, l3] S h = zD 142 20 [some (.ref x), l1, l2, l3] (.ref x :: S) h) ∧
  (∀ (l0 l1 l2 l3 : Option Value) (a : Nat) (r : List Value) (h : zH) (hx : zfok (h.2.2 a) 9 2 = true), zD 142 20 [l0, l1, l2, l3] (.ref a :: r) h = zD 142 23 [l0, l1, l2, l3] (zfv (h.2.2 a) 2 :: r) h) ∧
  (∀ (l0 l2 l3 : Option Value) (x : Int32) (S : List Value) (h : zH), zD 142 23 [l0, some (.int x), l2, l3] S h = zD 142 24 [l0, some (.int x), l2, l3] (.int x :: S) h) ∧
  (∀ (l0 l1 l3 : Option Value) (x : Int32) (S : List Value) (h : zH), zD 142 24 [l0, l1, some (.int x), l3] S h = zD 142 25 [l0, l1, some (.int x), l3] (.int x :: S) h) ∧
  (∀ (l0 l1 l2 l3 : Option Value) (w i : Int32) (a : Nat) (r : List Value) (h : zH) (hx : zpok (h.2.2 a) i = true), zD 142 25 [l0, l1, l2, l3] (.int w :: .int i :: .ref a :: r) h = zD 142 26 [l0, l1, l2, l3] r (zw h a (zis' (h.2.2 a) i w))) ∧
  (∀ (l0 l1 l2 : Option Value) (x : Int32) (S : List Value) (h : zH), zD 142 26 [l0, l1, l2, some (.int x)] S h = zD 142 27 [l0, l1, l2, some (.int x)] (.int x :: S) h) ∧
  (∀ (l0 l1 l2 l3 : Option Value) (v : Int32) (h : zH), zD 142 27 [l0, l1, l2, l3] [.int v] h = some (some (.int v), h)) :=
  ⟨fun l1 l2 l3 x S h => zD_op (ins := .aload_n 0) (len := 1) (c := (1, [some (.ref x), l1, l2, l3], (.ref x :: S), h)) (by decide +kernel) rfl rfl rfl rfl,
  fun l0 l1 l3 x S h => zD_op (ins := .iload_n 2) (len := 1) (c := (2, [l0, l1, some (.int x), l3], (.int x :: S), h)) (by decide +kernel) rfl rfl rfl rfl,
  fun l0 l2 l3 x S h => zD_op (ins := .iload_n 1) (len := 1) (c := (3, [l0, some (.int x), l2, l3], (.int x :: S), h)) (by decide +kernel) rfl rfl rfl rfl,
  fun l0 l1 l2 l3 p0 p1 a r h hcat hr hC => zD_callv (i := 89) (y := 113) (n := 2) (as := [.int p0, .int p1]) (ci := 9) (by decide +kernel) (by decide +kernel) rfl (by decide +kernel) (Nat.le_of_ble_eq_true rfl) (by decide +kernel) hcat hr hC,
  fun l0 l1 l2 l3 x r h => zD_if0 (cnd := .ne) (off := 6) (by decide +kernel) (by decide) rfl,
  fun l0 l1 l2 l3 S h => zD_bip (n := (-101)) (by decide +kernel) (by decide +kernel),
  fun l0 l1 l2 l3 v h => zD_ireti (by decide +kernel) rfl,
  fun l1 l2 l3 x S h => zD_op (ins := .aload_n 0) (len := 1) (c := (13, [some (.ref x), l1, l2, l3], (.ref x :: S), h)) (by decide +kernel) rfl rfl rfl rfl,
  fun l0 l1 l2 l3 a r h hx => zD_getf (i := 17) (ci := 9) (k := 2) (q := (713, 0)) (by decide +kernel) (by decide +kernel) hx,
  fun l0 l2 l3 x S h => zD_op (ins := .iload_n 1) (len := 1) (c := (17, [l0, some (.int x), l2, l3], (.int x :: S), h)) (by decide +kernel) rfl rfl rfl rfl,
  fun l0 l1 l2 l3 i a r h hx => zD_iald (by decide +kernel) hx,
  fun l0 l1 l2 l3 x r h => zD_st1 (k := 3) (ins := .istore_n 3) (len := 1) (by decide +kernel) rfl rfl rfl (by decide +kernel) rfl rfl,
  fun l1 l2 l3 x S h => zD_op (ins := .aload_n 0) (len := 1) (c := (20, [some (.ref x), l1, l2, l3], (.ref x :: S), h)) (by decide +kernel) rfl rfl rfl rfl,
  fun l0 l1 l2 l3 a r h hx => zD_getf (i := 17) (ci := 9) (k := 2) (q := (713, 0)) (by decide +kernel) (by decide +kernel) hx,
  fun l0 l2 l3 x S h => zD_op (ins := .iload_n 1) (len := 1) (c := (24, [l0, some (.int x), l2, l3], (.int x :: S), h)) (by decide +kernel) rfl rfl rfl rfl,
  fun l0 l1 l3 x S h => zD_op (ins := .iload_n 2) (len := 1) (c := (25, [l0, l1, some (.int x), l3], (.int x :: S), h)) (by decide +kernel) rfl rfl rfl rfl,
  fun l0 l1 l2 l3 w i a r h hx => zD_iast (by decide +kernel) hx,
  fun l0 l1 l2 x S h => zD_op (ins := .iload_n 3) (len := 1) (c := (27, [l0, l1, l2, some (.int x)], (.int x :: S), h)) (by decide +kernel) rfl rfl rfl rfl,
  fun l0 l1 l2 l3 v h => zD_ireti (by decide +kernel) rfl⟩
set_option maxRecDepth 100000 in
theorem I_X10_head : (∀ (a : Nat) (p0 : Int32) (p1 : Int32) (h : zH), zC 142 [.ref a, .int p0, .int p1] h = zD 142 0 [some (.ref a), some (.int p0), some (.int p1), none] [] h) :=
  fun a p0 p1 h => zC_def rfl
set_option maxRecDepth 100000 in
theorem E_X10_best : (∀ (l0 l2 l3 : Option Value) (x : Int32) (S : List Value) (h : zH), zD 143 0 [l0, some (.int x), l2, l3] S h = zD 143 1 [l0, some (.int x), l2, l3] (.int x :: S) h) ∧
  (∀ (l0 l1 l2 l3 : Option Value) (S : List Value) (h : zH), zD 143 1 [l0, l1, l2, l3] S h = zD 143 2 [l0, l1, l2, l3] (.int (0 : Int32) :: S) h) ∧
  (∀ (l0 l1 l2 l3 : Option Value) (S : List Value) (h : zH), zD 143 2 [l0, l1, l2, l3] S h = zD 143 3 [l0, l1, l2, l3] (.int (1 : Int32) :: S) h) ∧
  (∀ (l0 l1 l2 l3 : Option Value) (p0 : Int32) (p1 : Int32) (p2 : Int32) (r : List Value) (h : zH) (hcat : zcat r ≤ 8) (hC : (zC 26 [.int p0, .int p1, .int p2] h).isSome = true), zD 143 3 [l0, l1, l2, l3] (.int p2 :: .int p1 :: .int p0 :: r) h = zD 143 6 [l0, l1, l2, l3] (zgv (zC 26 [.int p0, .int p1, .int p2] h) ++ r) (zgh h (zC 26 [.int p0, .int p1, .int p2] h))) ∧
  (∀ (l0 l1 l2 l3 : Option Value) (x : Int32) (r : List Value) (h : zH), zD 143 6 [l0, l1, l2, l3] (.int x :: r) h = if x = 0 then zD 143 19 [l0, l1, l2, l3] r h else zD 143 9 [l0, l1, l2, l3] r h) ∧
  (∀ (l0 l1 l3 : Option Value) (x : Int32) (S : List Value) (h : zH), zD 143 9 [l0, l1, some (.int x), l3] S h = zD 143 10 [l0, l1, some (.int x), l3] (.int x :: S) h) ∧
  (∀ (l0 l1 l2 l3 : Option Value) (S : List Value) (h : zH), zD 143 10 [l0, l1, l2, l3] S h = zD 143 11 [l0, l1, l2, l3] (.int (0 : Int32) :: S) h) ∧
  (∀ (l0 l1 l2 l3 : Option Value) (S : List Value) (h : zH), zD 143 11 [l0, l1, l2, l3] S h = zD 143 13 [l0, l1, l2, l3] (.int (30 : Int32) :: S) h) ∧
  (∀ (l0 l1 l2 l3 : Option Value) (p0 : Int32) (p1 : Int32) (p2 : Int32) (r : List Value) (h : zH) (hcat : zcat r ≤ 8) (hC : (zC 26 [.int p0, .int p1, .int p2] h).isSome = true), zD 143 13 [l0, l1, l2, l3] (.int p2 :: .int p1 :: .int p0 :: r) h = zD 143 16 [l0, l1, l2, l3] (zgv (zC 26 [.int p0, .int p1, .int p2] h) ++ r) (zgh h (zC 26 [.int p0, .int p1, .int p2] h))) ∧
  (∀ (l0 l1 l2 l3 : Option Value) (x : Int32) (r : List Value) (h : zH), zD 143 16 [l0, l1, l2, l3] (.int x :: r) h = if ¬ x = 0 then zD 143 22 [l0, l1, l2, l3] r h else zD 143 19 [l0, l1, l2, l3] r h) ∧
  (∀ (l0 l1 l2 l3 : Option Value) (S : List Value) (h : zH), zD 143 19 [l0, l1, l2, l3] S h = zD 143 21 [l0, l1, l2, l3] (.int (-100000001 : Int32) :: S) h) ∧
  (∀ (l0 l1 l2 l3 : Option Value) (v : Int32) (h : zH), zD 143 21 [l0, l1, l2, l3] [.int v] h = some (some (.int v), h)) ∧
  (∀ (l1 l2 l3 : Option Value) (x : Nat) (S : List Value) (h : zH), zD 143 22 [some (.ref x), l1, l2, l3] S h = zD 143 23 [some (.ref x), l1, l2, l3] (.ref x :: S) h) ∧
  (∀ (l0 l1 l2 l3 : Option Value) (a : Nat) (r : List Value) (h : zH) (hcat : zcat r ≤ 8) (hr : zis (h.2.2 a) 9 = true) (hC : (zC 119 [.ref a] h).isSome = true), zD 143 23 [l0, l1, l2, l3] (.ref a :: r) h = zD 143 26 [l0, l1, l2, l3] (zgv (zC 119 [.ref a] h) ++ r) (zgh h (zC 119 [.ref a] h))) ∧
  (∀ (l0 l1 l3 : Option Value) (x : Int32) (S : List Value) (h : zH), zD 143 26 [l0, l1, some (.int x), l3] S h = zD 143 27 [l0, l1, some (.int x), l3] (.int x :: S) h) ∧
  (∀ (l1 l2 l3 : Option Value) (x : Nat) (S : List Value) (h : zH), zD 143 27 [some (.ref x), l1, l2, l3] S h = zD 143 28 [some (.ref x), l1, l2, l3] (.ref x :: S) h) ∧
  (∀ (l0 l1 l2 l3 : Option Value) (a : Nat) (r : List Value) (h : zH) (hx : zfok (h.2.2 a) 9 7 = true), zD 143 28 [l0, l1, l2, l3] (.ref a :: r) h = zD 143 31 [l0, l1, l2, l3] (zfv (h.2.2 a) 7 :: r) h) ∧
  (∀ (l0 l2 l3 : Option Value) (x : Int32) (S : List Value) (h : zH), zD 143 31 [l0, some (.int x), l2, l3] S h = zD 143 32 [l0, some (.int x), l2, l3] (.int x :: S) h) ∧
  (∀ (l0 l1 l2 l3 : Option Value) (i : Int32) (a : Nat) (r : List Value) (h : zH) (hx : ziok a (h.2.2 a) i = true), zD 143 32 [l0, l1, l2, l3] (.int i :: .ref a :: r) h = zD 143 33 [l0, l1, l2, l3] (.int (ziv (h.2.2 a) i) :: r) h) ∧
  (∀ (l0 l1 l2 l3 : Option Value) (x y : Int32) (r : List Value) (h : zH), zD 143 33 [l0, l1, l2, l3] (.int y :: .int x :: r) h = if x < y then zD 143 39 [l0, l1, l2, l3] r h else zD 143 36 [l0, l1, l2, l3] r h) ∧
  (∀ (l0 l1 l2 l3 : Option Value) (S : List Value) (h : zH), zD 143 36 [l0, l1, l2, l3] S h = zD 143 38 [l0, l1, l2, l3] (.int (-100000000 : Int32) :: S) h) ∧
  (∀ (l0 l1 l2 l3 : Option Value) (v : Int32) (h : zH), zD 143 38 [l0, l1, l2, l3] [.int v] h = some (some (.int v), h)) ∧
  (∀ (l0 l1 l2 l3 : Option Value) (S : List Value) (h : zH), zD 143 39 [l0, l1, l2, l3] S h = zD 143 40 [l0, l1, l2, l3] (.int (1 : Int32) :: S) h) ∧
  (∀ (l0 l1 l2 l3 : Option Value) (x : Int32) (r : List Value) (h : zH), zD 143 40 [l0, l1, l2, l3] (.int x :: r) h = zD 143 41 [l0, l1, zclr l2, some (.int x)] r h) ∧
  (∀ (l1 l2 l3 : Option Value) (x : Nat) (S : List Value) (h : zH), zD 143 42 [some (.ref x), l1, l2, l3] S h = zD 143 43 [some (.ref x), l1, l2, l3] (.ref x :: S) h) ∧
  (∀ (l0 l1 l2 l3 : Option Value) (a : Nat) (r : List Value) (h : zH) (hx : zfok (h.2.2 a) 9 0 = true), zD 143 43 [l0, l1, l2, l3] (.ref a :: r) h = zD 143 46 [l0, l1, l2, l3] (zfv (h.2.2 a) 0 :: r) h) ∧
  (∀ (l0 l1 l2 l3 : Option Value) (x y : Int32) (r : List Value) (h : zH), zD 143 46 [l0, l1, l2, l3] (.int y :: .int x :: r) h = if y < x then zD 143 77 [l0, l1, l2, l3] r h else zD 143 49 [l0, l1, l2, l3] r h) ∧
  (∀ (l1 l2 l3 : Option Value) (x : Nat) (S : List Value) (h : zH), zD 143 49 [some (.ref x), l1, l2, l3] S h = zD 143 50 [some (.ref x), l1, l2, l3] (.ref x :: S) h) ∧
  (∀ (l0 l1 l2 l3 : Option Value) (a : Nat) (r : List Value) (h : zH) (hx : zfok (h.2.2 a) 9 2 = true), zD 143 50 [l0, l1, l2, l3] (.ref a :: r) h = zD 143 53 [l0, l1, l2, l3] (zfv (h.2.2 a) 2 :: r) h) ∧
  (∀ (l0 l1 l2 : Option Value) (x : Int32) (S : List Value) (h : zH), zD 143 53 [l0, l1, l2, some (.int x)] S h = zD 143 54 [l0, l1, l2, some (.int x)] (.int x :: S) h) ∧
  (∀ (l1 l2 l3 : Option Value) (x : Nat) (S : List Value) (h : zH), zD 143 54 [some (.ref x), l1, l2, l3] S h = zD 143 55 [some (.ref x), l1, l2, l3] (.ref x :: S) h) ∧
  (∀ (l0 l1 l2 l3 : Option Value) (a : Nat) (r : List Value) (h : zH) (hx : zfok (h.2.2 a) 9 9 = true), zD 143 55 [l0, l1, l2, l3] (.ref a :: r) h = zD 143 58 [l0, l1, l2, l3] (zfv (h.2.2 a) 9 :: r) h) ∧
  (∀ (l0 l1 l2 l3 : Option Value) (S : List Value) (h : zH), zD 143 58 [l0, l1, l2, l3] S h = zD 143 60 [l0, l1, l2, l3] (.int (8 : Int32) :: S) h) ∧
  (∀ (l0 l1 l2 l3 : Option Value) (S : List Value) (h : zH), zD 143 60 [l0, l1, l2, l3] S h = zD 143 62 [l0, l1, l2, l3] (.int (31 : Int32) :: S) h) ∧
  (∀ (l0 l2 l3 : Option Value) (x : Int32) (S : List Value) (h : zH), zD 143 62 [l0, some (.int x), l2, l3] S h = zD 143 63 [l0, some (.int x), l2, l3] (.int x :: S) h) ∧
  (∀ (l0 l1 l2 l3 : Option Value) (x y : Int32) (r : List Value) (h : zH), zD 143 63 [l0, l1, l2, l3] (.int y :: .int x :: r) h = zD 143 64 [l0, l1, l2, l3] (.int (x * y) :: r) h) ∧
  (∀ (l0 l1 l3 : Option Value) (x : Int32) (S : List Value) (h : zH), zD 143 64 [l0, l1, some (.int x), l3] S h = zD 143 65 [l0, l1, some (.int x), l3] (.int x :: S) h) ∧
  (∀ (l0 l1 l2 l3 : Option Value) (x y : Int32) (r : List Value) (h : zH), zD 143 65 [l0, l1, l2, l3] (.int y :: .int x :: r) h = zD 143 66 [l0, l1, l2, l3] (.int (x + y) :: r) h) ∧
  (∀ (l0 l1 l2 l3 : Option Value) (x y : Int32) (r : List Value) (h : zH), zD 143 66 [l0, l1, l2, l3] (.int y :: .int x :: r) h = zD 143 67 [l0, l1, l2, l3] (.int (x * y) :: r) h) ∧
  (∀ (l0 l1 l2 : Option Value) (x : Int32) (S : List Value) (h : zH), zD 143 67 [l0, l1, l2, some (.int x)] S h = zD 143 68 [l0, l1, l2, some (.int x)] (.int x :: S) h) ∧
  (∀ (l0 l1 l2 l3 : Option Value) (x y : Int32) (r : List Value) (h : zH), zD 143 68 [l0, l1, l2, l3] (.int y :: .int x :: r) h = zD 143 69 [l0, l1, l2, l3] (.int (x + y) :: r) h) ∧
  (∀ (l0 l1 l2 l3 : Option Value) (i : Int32) (a : Nat) (r : List Value) (h : zH) (hx : ziok a (h.2.2 a) i = true), zD 143 69 [l0, l1, l2, l3] (.int i :: .ref a :: r) h = zD 143 70 [l0, l1, l2, l3] (.int (ziv (h.2.2 a) i) :: r) h) ∧
  (∀ (l0 l1 l2 l3 : Option Value) (w i : Int32) (a : Nat) (r : List Value) (h : zH) (hx : zpok (h.2.2 a) i = true), zD 143 70 [l0, l1, l2, l3] (.int w :: .int i :: .ref a :: r) h = zD 143 71 [l0, l1, l2, l3] r (zw h a (zis' (h.2.2 a) i w))) ∧
  (∀ (l0 l1 l2 : Option Value) (x : Int32) (S : List Value) (h : zH), zD 143 71 [l0, l1, l2, some (.int x)] S h = zD 143 74 [l0, l1, zclr l2, some (.int (x + (1 : Int32)))] S h) ∧
  (∀ (l0 l1 l2 l3 : Option Value) (S : List Value) (h : zH), zD 143 74 [l0, l1, l2, l3] S h = zD 143 41 [l0, l1, l2, l3] S h) ∧
  (∀ (l1 l2 l3 : Option Value) (x : Nat) (S : List Value) (h : zH), zD 143 77 [some (.ref x), l1, l2, l3] S h = zD 143 78 [some (.ref x), l1, l2, l3] (.ref x :: S) h) ∧
  (∀ (l0 l1 l2 l3 : Option Value) (a : Nat) (r : List Value) (h : zH) (hx : zfok (h.2.2 a) 9 8 = true), zD 143 78 [l0, l1, l2, l3] (.ref a :: r) h = zD 143 81 [l0, l1, l2, l3] (zfv (h.2.2 a) 8 :: r) h) ∧
  (∀ (l0 l1 l2 l3 : Option Value) (S : List Value) (h : zH), zD 143 81 [l0, l1, l2, l3] S h = zD 143 83 [l0, l1, l2, l3] (.int (31 : Int32) :: S) h) ∧
  (∀ (l0 l2 l3 : Option Value) (x : Int32) (S : List Value) (h : zH), zD 143 83 [l0, some (.int x), l2, l3] S h = zD 143 84 [l0, some (.int x), l2, l3] (.int x :: S) h) ∧
  (∀ (l0 l1 l2 l3 : Option Value) (x y : Int32) (r : List Value) (h : zH), zD 143 84 [l0, l1, l2, l3] (.int y :: .int x :: r) h = zD 143 85 [l0, l1, l2, l3] (.int (x * y) :: r) h) ∧
  (∀ (l0 l1 l3 : Option Value) (x : Int32) (S : List Value) (h : zH), zD 143 85 [l0, l1, some (.int x), l3] S h = zD 143 86 [l0, l1, some (.int x), l3] (.int x :: S) h) ∧
  (∀ (l0 l1 l2 l3 : Option Value) (x y : Int32) (r : List Value) (h : zH), zD 143 86 [l0, l1, l2, l3] (.int y :: .int x :: r) h = zD 143 87 [l0, l1, l2, l3] (.int (x + y) :: r) h) ∧
  (∀ (l0 l1 l2 l3 : Option Value) (i : Int32) (a : Nat) (r : List Value) (h : zH) (hx : ziok a (h.2.2 a) i = true), zD 143 87 [l0, l1, l2, l3] (.int i :: .ref a :: r) h = zD 143 88 [l0, l1, l2, l3] (.int (ziv (h.2.2 a) i) :: r) h) ∧
  (∀ (l0 l1 l2 l3 : Option Value) (v : Int32) (h : zH), zD 143 88 [l0, l1, l2, l3] [.int v] h = some (some (.int v), h)) :=
  ⟨fun l0 l2 l3 x S h => zD_op (ins := .iload_n 1) (len := 1) (c := (1, [l0, some (.int x), l2, l3], (.int x :: S), h)) (by decide +kernel) rfl rfl rfl rfl,
  fun l0 l1 l2 l3 S h => zD_icst (n := 0) (by decide +kernel) (by decide +kernel),
  fun l0 l1 l2 l3 S h => zD_icst (n := 1) (by decide +kernel) (by decide +kernel),
  fun l0 l1 l2 l3 p0 p1 p2 r h hcat hC => zD_calls (i := 77) (y := 26) (n := 3) (as := [.int p0, .int p1, .int p2]) (by decide +kernel) (by decide +kernel) rfl (by decide +kernel) (Nat.le_of_ble_eq_true rfl) hcat hC,
  fun l0 l1 l2 l3 x r h => zD_if0 (cnd := .eq) (off := 13) (by decide +kernel) (by decide) rfl,
  fun l0 l1 l3 x S h => zD_op (ins := .iload_n 2) (len := 1) (c := (10, [l0, l1, some (.int x), l3], (.int x :: S), h)) (by decide +kernel) rfl rfl rfl rfl,
  fun l0 l1 l2 l3 S h => zD_icst (n := 0) (by decide +kernel) (by decide +kernel),
  fun l0 l1 l2 l3 S h => zD_bip (n := 30) (by decide +kernel) (by decide +kernel),
  fun l0 l1 l2 l3 p0 p1 p2 r h hcat hC => zD_calls (i := 77) (y := 26) (n := 3) (as := [.int p0, .int p1, .int p2]) (by decide +kernel) (by decide +kernel) rfl (by decide +kernel) (Nat.le_of_ble_eq_true rfl) hcat hC,
  fun l0 l1 l2 l3 x r h => zD_if0 (cnd := .ne) (off := 6) (by decide +kernel) (by decide) rfl,
  fun l0 l1 l2 l3 S h => zD_ldc (i := 119) (q := 874) (by decide +kernel) (by decide +kernel),
  fun l0 l1 l2 l3 v h => zD_ireti (by decide +kernel) rfl,
  fun l1 l2 l3 x S h => zD_op (ins := .aload_n 0) (len := 1) (c := (23, [some (.ref x), l1, l2, l3], (.ref x :: S), h)) (by decide +kernel) rfl rfl rfl rfl,
  fun l0 l1 l2 l3 a r h hcat hr hC => zD_callv (i := 120) (y := 119) (n := 0) (as := []) (ci := 9) (by decide +kernel) (by decide +kernel) rfl (by decide +kernel) (Nat.le_of_ble_eq_true rfl) (by decide +kernel) hcat hr hC,
  fun l0 l1 l3 x S h => zD_op (ins := .iload_n 2) (len := 1) (c := (27, [l0, l1, some (.int x), l3], (.int x :: S), h)) (by decide +kernel) rfl rfl rfl rfl,
  fun l1 l2 l3 x S h => zD_op (ins := .aload_n 0) (len := 1) (c := (28, [some (.ref x), l1, l2, l3], (.ref x :: S), h)) (by decide +kernel) rfl rfl rfl rfl,
  fun l0 l1 l2 l3 a r h hx => zD_getf (i := 31) (ci := 9) (k := 7) (q := (718, 0)) (by decide +kernel) (by decide +kernel) hx,
  fun l0 l2 l3 x S h => zD_op (ins := .iload_n 1) (len := 1) (c := (32, [l0, some (.int x), l2, l3], (.int x :: S), h)) (by decide +kernel) rfl rfl rfl rfl,
  fun l0 l1 l2 l3 i a r h hx => zD_iald (by decide +kernel) hx,
  fun l0 l1 l2 l3 x y r h => zD_if (cnd := .lt) (off := 6) (by decide +kernel) (by decide) rfl,
  fun l0 l1 l2 l3 S h => zD_ldc (i := 123) (q := 887) (by decide +kernel) (by decide +kernel),
  fun l0 l1 l2 l3 v h => zD_ireti (by decide +kernel) rfl,
  fun l0 l1 l2 l3 S h => zD_icst (n := 1) (by decide +kernel) (by decide +kernel),
  fun l0 l1 l2 l3 x r h => zD_st1 (k := 3) (ins := .istore_n 3) (len := 1) (by decide +kernel) rfl rfl rfl (by decide +kernel) rfl rfl,
  fun l1 l2 l3 x S h => zD_op (ins := .aload_n 0) (len := 1) (c := (43, [some (.ref x), l1, l2, l3], (.ref x :: S), h)) (by decide +kernel) rfl rfl rfl rfl,
  fun l0 l1 l2 l3 a r h hx => zD_getf (i := 7) (ci := 9) (k := 0) (q := (711, 0)) (by decide +kernel) (by decide +kernel) hx,
  fun l0 l1 l2 l3 x y r h => zD_if (cnd := .gt) (off := 31) (by decide +kernel) (by decide) rfl,
  fun l1 l2 l3 x S h => zD_op (ins := .aload_n 0) (len := 1) (c := (50, [some (.ref x), l1, l2, l3], (.ref x :: S), h)) (by decide +kernel) rfl rfl rfl rfl,
  fun l0 l1 l2 l3 a r h hx => zD_getf (i := 17) (ci := 9) (k := 2) (q := (713, 0)) (by decide +kernel) (by decide +kernel) hx,
  fun l0 l1 l2 x S h => zD_op (ins := .iload_n 3) (len := 1) (c := (54, [l0, l1, l2, some (.int x)], (.int x :: S), h)) (by decide +kernel) rfl rfl rfl rfl,
  fun l1 l2 l3 x S h => zD_op (ins := .aload_n 0) (len := 1) (c := (55, [some (.ref x), l1, l2, l3], (.ref x :: S), h)) (by decide +kernel) rfl rfl rfl rfl,
  fun l0 l1 l2 l3 a r h hx => zD_getf (i := 37) (ci := 9) (k := 9) (q := (720, 0)) (by decide +kernel) (by decide +kernel) hx,
  fun l0 l1 l2 l3 S h => zD_bip (n := 8) (by decide +kernel) (by decide +kernel),
  fun l0 l1 l2 l3 S h => zD_bip (n := 31) (by decide +kernel) (by decide +kernel),
  fun l0 l2 l3 x S h => zD_op (ins := .iload_n 1) (len := 1) (c := (63, [l0, some (.int x), l2, l3], (.int x :: S), h)) (by decide +kernel) rfl rfl rfl rfl,
  fun l0 l1 l2 l3 x y r h => zD_op (ins := .imul) (len := 1) (c := (64, [l0, l1, l2, l3], (.int (x * y) :: r), h)) (by decide +kernel) rfl rfl rfl rfl,
  fun l0 l1 l3 x S h => zD_op (ins := .iload_n 2) (len := 1) (c := (65, [l0, l1, some (.int x), l3], (.int x :: S), h)) (by decide +kernel) rfl rfl rfl rfl,
  fun l0 l1 l2 l3 x y r h => zD_op (ins := .iadd) (len := 1) (c := (66, [l0, l1, l2, l3], (.int (x + y) :: r), h)) (by decide +kernel) rfl rfl rfl rfl,
  fun l0 l1 l2 l3 x y r h => zD_op (ins := .imul) (len := 1) (c := (67, [l0, l1, l2, l3], (.int (x * y) :: r), h)) (by decide +kernel) rfl rfl rfl rfl,
  fun l0 l1 l2 x S h => zD_op (ins := .iload_n 3) (len := 1) (c := (68, [l0, l1, l2, some (.int x)], (.int x :: S), h)) (by decide +kernel) rfl rfl rfl rfl,
  fun l0 l1 l2 l3 x y r h => zD_op (ins := .iadd) (len := 1) (c := (69, [l0, l1, l2, l3], (.int (x + y) :: r), h)) (by decide +kernel) rfl rfl rfl rfl,
  fun l0 l1 l2 l3 i a r h hx => zD_iald (by decide +kernel) hx,
  fun l0 l1 l2 l3 w i a r h hx => zD_iast (by decide +kernel) hx,
  fun l0 l1 l2 x S h => zD_iinc (k := 3) (x := x) (c := (1 : Int32)) (n := 1) (by decide +kernel) (by decide +kernel) rfl (by decide +kernel) rfl,
  fun l0 l1 l2 l3 S h => zD_goto (off := (-33)) (by decide +kernel) (by decide),
  fun l1 l2 l3 x S h => zD_op (ins := .aload_n 0) (len := 1) (c := (78, [some (.ref x), l1, l2, l3], (.ref x :: S), h)) (by decide +kernel) rfl rfl rfl rfl,
  fun l0 l1 l2 l3 a r h hx => zD_getf (i := 34) (ci := 9) (k := 8) (q := (719, 0)) (by decide +kernel) (by decide +kernel) hx,
  fun l0 l1 l2 l3 S h => zD_bip (n := 31) (by decide +kernel) (by decide +kernel),
  fun l0 l2 l3 x S h => zD_op (ins := .iload_n 1) (len := 1) (c := (84, [l0, some (.int x), l2, l3], (.int x :: S), h)) (by decide +kernel) rfl rfl rfl rfl,
  fun l0 l1 l2 l3 x y r h => zD_op (ins := .imul) (len := 1) (c := (85, [l0, l1, l2, l3], (.int (x * y) :: r), h)) (by decide +kernel) rfl rfl rfl rfl,
  fun l0 l1 l3 x S h => zD_op (ins := .iload_n 2) (len := 1) (c := (86, [l0, l1, some (.int x), l3], (.int x :: S), h)) (by decide +kernel) rfl rfl rfl rfl,
  fun l0 l1 l2 l3 x y r h => zD_op (ins := .iadd) (len := 1) (c := (87, [l0, l1, l2, l3], (.int (x + y) :: r), h)) (by decide +kernel) rfl rfl rfl rfl,
  fun l0 l1 l2 l3 i a r h hx => zD_iald (by decide +kernel) hx,
  fun l0 l1 l2 l3 v h => zD_ireti (by decide +kernel) rfl⟩
set_option maxRecDepth 100000 in
theorem E_X10_best_h41 : (∀ (l0 l1 l2 : Option Value) (x : Int32) (S : List Value) (h : zH), zD 143 41 [l0, l1, l2, some (.int x)] S h = zD 143 42 [l0, l1, l2, some (.int x)] (.int x :: S) h) :=
  fun l0 l1 l2 x S h => zD_op (ins := .iload_n 3) (len := 1) (c := (42, [l0, l1, l2, some (.int x)], (.int x :: S), h)) (by decide +kernel) rfl rfl rfl rfl
set_option maxRecDepth 100000 in
theorem I_X10_best : (∀ (a : Nat) (p0 : Int32) (p1 : Int32) (h : zH), zC 143 [.ref a, .int p0, .int p1] h = zD 143 0 [some (.ref a), some (.int p0), some (.int p1), none] [] h) :=
  fun a p0 p1 h => zC_def rfl
set_option maxRecDepth 100000 in
theorem E_X10_trees : (∀ (l0 : Option Value) (x : Int32) (S : List Value) (h : zH), zD 144 0 [l0, some (.int x)] S h = zD 144 1 [l0, some (.int x)] (.int x :: S) h) ∧
  (∀ (l0 l1 : Option Value) (S : List Value) (h : zH), zD 144 1 [l0, l1] S h = zD 144 2 [l0, l1] (.int (0 : Int32) :: S) h) ∧
  (∀ (l0 l1 : Option Value) (S : List Value) (h : zH), zD 144 2 [l0, l1] S h = zD 144 3 [l0, l1] (.int (1 : Int32) :: S) h) ∧
  (∀ (l0 l1 : Option Value) (p0 : Int32) (p1 : Int32) (p2 : Int32) (r : List Value) (h : zH) (hcat : zcat r ≤ 8) (hC : (zC 26 [.int p0, .int p1, .int p2] h).isSome = true), zD 144 3 [l0, l1] (.int p2 :: .int p1 :: .int p0 :: r) h = zD 144 6 [l0, l1] (zgv (zC 26 [.int p0, .int p1, .int p2] h) ++ r) (zgh h (zC 26 [.int p0, .int p1, .int p2] h))) ∧
  (∀ (l0 l1 : Option Value) (x : Int32) (r : List Value) (h : zH), zD 144 6 [l0, l1] (.int x :: r) h = if ¬ x = 0 then zD 144 13 [l0, l1] r h else zD 144 9 [l0, l1] r h) ∧
  (∀ (l0 l1 : Option Value) (S : List Value) (h : zH), zD 144 9 [l0, l1] S h = zD 144 12 [l0, l1] (.long (-102 : Int64) :: S) h) ∧
  (∀ (l0 l1 : Option Value) (v : Int64) (h : zH), zD 144 12 [l0, l1] [.long v] h = some (some (.long v), h)) ∧
  (∀ (l1 : Option Value) (x : Nat) (S : List Value) (h : zH), zD 144 13 [some (.ref x), l1] S h = zD 144 14 [some (.ref x), l1] (.ref x :: S) h) ∧
  (∀ (l0 l1 : Option Value) (a : Nat) (r : List Value) (h : zH) (hcat : zcat r ≤ 8) (hr : zis (h.2.2 a) 9 = true) (hC : (zC 119 [.ref a] h).isSome = true), zD 144 14 [l0, l1] (.ref a :: r) h = zD 144 17 [l0, l1] (zgv (zC 119 [.ref a] h) ++ r) (zgh h (zC 119 [.ref a] h))) ∧
  (∀ (l1 : Option Value) (x : Nat) (S : List Value) (h : zH), zD 144 17 [some (.ref x), l1] S h = zD 144 18 [some (.ref x), l1] (.ref x :: S) h) ∧
  (∀ (l0 l1 : Option Value) (a : Nat) (r : List Value) (h : zH) (hx : zfok (h.2.2 a) 9 6 = true), zD 144 18 [l0, l1] (.ref a :: r) h = zD 144 21 [l0, l1] (zfv (h.2.2 a) 6 :: r) h) ∧
  (∀ (l0 : Option Value) (x : Int32) (S : List Value) (h : zH), zD 144 21 [l0, some (.int x)] S h = zD 144 22 [l0, some (.int x)] (.int x :: S) h) ∧
  (∀ (l0 l1 : Option Value) (i : Int32) (a : Nat) (r : List Value) (h : zH) (hx : zlok (h.2.2 a) i = true), zD 144 22 [l0, l1] (.int i :: .ref a :: r) h = zD 144 23 [l0, l1] (.long (zlv' (h.2.2 a) i) :: r) h) ∧
  (∀ (l0 l1 : Option Value) (v : Int64) (h : zH), zD 144 23 [l0, l1] [.long v] h = some (some (.long v), h)) :=
  ⟨fun l0 x S h => zD_op (ins := .iload_n 1) (len := 1) (c := (1, [l0, some (.int x)], (.int x :: S), h)) (by decide +kernel) rfl rfl rfl rfl,
  fun l0 l1 S h => zD_icst (n := 0) (by decide +kernel) (by decide +kernel),
  fun l0 l1 S h => zD_icst (n := 1) (by decide +kernel) (by decide +kernel),
  fun l0 l1 p0 p1 p2 r h hcat hC => zD_calls (i := 77) (y := 26) (n := 3) (as := [.int p0, .int p1, .int p2]) (by decide +kernel) (by decide +kernel) rfl (by decide +kernel) (Nat.le_of_ble_eq_true rfl) hcat hC,
  fun l0 l1 x r h => zD_if0 (cnd := .ne) (off := 7) (by decide +kernel) (by decide) rfl,
  fun l0 l1 S h => zD_ldc2 (i := 124) (q := 892) (by decide +kernel) (by decide +kernel),
  fun l0 l1 v h => zD_lret (by decide +kernel) rfl,
  fun l1 x S h => zD_op (ins := .aload_n 0) (len := 1) (c := (14, [some (.ref x), l1], (.ref x :: S), h)) (by decide +kernel) rfl rfl rfl rfl,
  fun l0 l1 a r h hcat hr hC => zD_callv (i := 120) (y := 119) (n := 0) (as := []) (ci := 9) (by decide +kernel) (by decide +kernel) rfl (by decide +kernel) (Nat.le_of_ble_eq_true rfl) (by decide +kernel) hcat hr hC,
  fun l1 x S h => zD_op (ins := .aload_n 0) (len := 1) (c := (18, [some (.ref x), l1], (.ref x :: S), h)) (by decide +kernel) rfl rfl rfl rfl,
  fun l0 l1 a r h hx => zD_getf (i := 27) (ci := 9) (k := 6) (q := (717, 0)) (by decide +kernel) (by decide +kernel) hx,
  fun l0 x S h => zD_op (ins := .iload_n 1) (len := 1) (c := (22, [l0, some (.int x)], (.int x :: S), h)) (by decide +kernel) rfl rfl rfl rfl,
  fun l0 l1 i a r h hx => zD_lald (by decide +kernel) hx,
  fun l0 l1 v h => zD_lret (by decide +kernel) rfl⟩
set_option maxRecDepth 100000 in
theorem I_X10_trees : (∀ (a : Nat) (p0 : Int32) (h : zH), zC 144 [.ref a, .int p0] h = zD 144 0 [some (.ref a), some (.int p0)] [] h) :=
  fun a p0 h => zC_def rfl
set_option maxRecDepth 100000 in
theorem E_X10_rank : (∀ (l0 l2 l3 l4 : Option Value) (x : Int32) (S : List Value) (h : zH), zD 145 0 [l0, some (.int x), l2, l3, l4] S h = zD 145 1 [l0, some (.int x), l2, l3, l4] (.int x :: S) h) ∧
  (∀ (l0 l1 l2 l3 l4 : Option Value) (S : List Value) (h : zH), zD 145 1 [l0, l1, l2, l3, l4] S h = zD 145 2 [l0, l1, l2, l3, l4] (.int (0 : Int32) :: S) h) ∧
  (∀ (l0 l1 l2 l3 l4 : Option Value) (S : List Value) (h : zH), zD 145 2 [l0, l1, l2, l3, l4] S h = zD 145 3 [l0, l1, l2, l3, l4] (.int (1 : Int32) :: S) h) ∧
  (∀ (l0 l1 l2 l3 l4 : Option Value) (p0 : Int32) (p1 : Int32) (p2 : Int32) (r : List Value) (h : zH) (hcat : zcat r ≤ 8) (hC : (zC 26 [.int p0, .int p1, .int p2] h).isSome = true), zD 145 3 [l0, l1, l2, l3, l4] (.int p2 :: .int p1 :: .int p0 :: r) h = zD 145 6 [l0, l1, l2, l3, l4] (zgv (zC 26 [.int p0, .int p1, .int p2] h) ++ r) (zgh h (zC 26 [.int p0, .int p1, .int p2] h))) ∧
  (∀ (l0 l1 l2 l3 l4 : Option Value) (x : Int32) (r : List Value) (h : zH), zD 145 6 [l0, l1, l2, l3, l4] (.int x :: r) h = if ¬ x = 0 then zD 145 12 [l0, l1, l2, l3, l4] r h else zD 145 9 [l0, l1, l2, l3, l4] r h) ∧
  (∀ (l0 l1 l2 l3 l4 : Option Value) (S : List Value) (h : zH), zD 145 9 [l0, l1, l2, l3, l4] S h = zD 145 11 [l0, l1, l2, l3, l4] (.int (-102 : Int32) :: S) h) ∧
  (∀ (l0 l1 l2 l3 l4 : Option Value) (v : Int32) (h : zH), zD 145 11 [l0, l1, l2, l3, l4] [.int v] h = some (some (.int v), h)) ∧
  (∀ (l1 l2 l3 l4 : Option Value) (x : Nat) (S : List Value) (h : zH), zD 145 12 [some (.ref x), l1, l2, l3, l4] S h = zD 145 13 [some (.ref x), l1, l2, l3, l4] (.ref x :: S) h) ∧
  (∀ (l0 l1 l2 l3 l4 : Option Value) (a : Nat) (r : List Value) (h : zH) (hcat : zcat r ≤ 8) (hr : zis (h.2.2 a) 9 = true) (hC : (zC 119 [.ref a] h).isSome = true), zD 145 13 [l0, l1, l2, l3, l4] (.ref a :: r) h = zD 145 16 [l0, l1, l2, l3, l4] (zgv (zC 119 [.ref a] h) ++ r) (zgh h (zC 119 [.ref a] h))) ∧
  (∀ (l0 l1 l2 l3 l4 : Option Value) (S : List Value) (h : zH), zD 145 16 [l0, l1, l2, l3, l4] S h = zD 145 17 [l0, l1, l2, l3, l4] (.int (0 : Int32) :: S) h) ∧
  (∀ (l0 l1 l2 l3 l4 : Option Value) (x : Int32) (r : List Value) (h : zH), zD 145 17 [l0, l1, l2, l3, l4] (.int x :: r) h = zD 145 18 [l0, zclr l1, some (.int x), l3, l4] r h) ∧
  (∀ (l1 l2 l3 l4 : Option Value) (x : Nat) (S : List Value) (h : zH), zD 145 19 [some (.ref x), l1, l2, l3, l4] S h = zD 145 20 [some (.ref x), l1, l2, l3, l4] (.ref x :: S) h) ∧
  (∀ (l0 l1 l2 l3 l4 : Option Value) (a : Nat) (r : List Value) (h : zH) (hx : zfok (h.2.2 a) 9 7 = true), zD 145 20 [l0, l1, l2, l3, l4] (.ref a :: r) h = zD 145 23 [l0, l1, l2, l3, l4] (zfv (h.2.2 a) 7 :: r) h) ∧
  (∀ (l0 l2 l3 l4 : Option Value) (x : Int32) (S : List Value) (h : zH), zD 145 23 [l0, some (.int x), l2, l3, l4] S h = zD 145 24 [l0, some (.int x), l2, l3, l4] (.int x :: S) h) ∧
  (∀ (l0 l1 l2 l3 l4 : Option Value) (i : Int32) (a : Nat) (r : List Value) (h : zH) (hx : ziok a (h.2.2 a) i = true), zD 145 24 [l0, l1, l2, l3, l4] (.int i :: .ref a :: r) h = zD 145 25 [l0, l1, l2, l3, l4] (.int (ziv (h.2.2 a) i) :: r) h) ∧
  (∀ (l0 l1 l2 l3 l4 : Option Value) (x y : Int32) (r : List Value) (h : zH), zD 145 25 [l0, l1, l2, l3, l4] (.int y :: .int x :: r) h = if y ≤ x then zD 145 97 [l0, l1, l2, l3, l4] r h else zD 145 28 [l0, l1, l2, l3, l4] r h) ∧
  (∀ (l0 l1 l2 l3 l4 : Option Value) (S : List Value) (h : zH), zD 145 28 [l0, l1, l2, l3, l4] S h = zD 145 29 [l0, l1, l2, l3, l4] (.int (1 : Int32) :: S) h) ∧
  (∀ (l0 l1 l2 l3 l4 : Option Value) (x : Int32) (r : List Value) (h : zH), zD 145 29 [l0, l1, l2, l3, l4] (.int x :: r) h = zD 145 30 [l0, l1, zclr l2, some (.int x), l4] r h) ∧
  (∀ (l0 l1 l2 l3 l4 : Option Value) (S : List Value) (h : zH), zD 145 30 [l0, l1, l2, l3, l4] S h = zD 145 31 [l0, l1, l2, l3, l4] (.int (1 : Int32) :: S) h) ∧
  (∀ (l0 l1 l2 l3 l4 : Option Value) (x : Int32) (r : List Value) (h : zH), zD 145 31 [l0, l1, l2, l3, l4] (.int x :: r) h = zD 145 33 [l0, l1, l2, zclr l3, some (.int x)] r h) ∧
  (∀ (l1 l2 l3 l4 : Option Value) (x : Nat) (S : List Value) (h : zH), zD 145 35 [some (.ref x), l1, l2, l3, l4] S h = zD 145 36 [some (.ref x), l1, l2, l3, l4] (.ref x :: S) h) ∧
  (∀ (l0 l1 l2 l3 l4 : Option Value) (a : Nat) (r : List Value) (h : zH) (hx : zfok (h.2.2 a) 9 0 = true), zD 145 36 [l0, l1, l2, l3, l4] (.ref a :: r) h = zD 145 39 [l0, l1, l2, l3, l4] (zfv (h.2.2 a) 0 :: r) h) ∧
  (∀ (l0 l1 l2 l3 l4 : Option Value) (x y : Int32) (r : List Value) (h : zH), zD 145 39 [l0, l1, l2, l3, l4] (.int y :: .int x :: r) h = if y < x then zD 145 85 [l0, l1, l2, l3, l4] r h else zD 145 42 [l0, l1, l2, l3, l4] r h) ∧
  (∀ (l0 l1 l2 l4 : Option Value) (x : Int32) (S : List Value) (h : zH), zD 145 42 [l0, l1, l2, some (.int x), l4] S h = zD 145 43 [l0, l1, l2, some (.int x), l4] (.int x :: S) h) ∧
  (∀ (l0 l1 l2 l3 l4 : Option Value) (x : Int32) (r : List Value) (h : zH), zD 145 43 [l0, l1, l2, l3, l4] (.int x :: r) h = if x = 0 then zD 145 85 [l0, l1, l2, l3, l4] r h else zD 145 46 [l0, l1, l2, l3, l4] r h) ∧
  (∀ (l1 l2 l3 l4 : Option Value) (x : Nat) (S : List Value) (h : zH), zD 145 46 [some (.ref x), l1, l2, l3, l4] S h = zD 145 47 [some (.ref x), l1, l2, l3, l4] (.ref x :: S) h) ∧
  (∀ (l0 l1 l2 l3 l4 : Option Value) (a : Nat) (r : List Value) (h : zH) (hx : zfok (h.2.2 a) 9 9 = true), zD 145 47 [l0, l1, l2, l3, l4] (.ref a :: r) h = zD 145 50 [l0, l1, l2, l3, l4] (zfv (h.2.2 a) 9 :: r) h) ∧
  (∀ (l0 l1 l2 l3 l4 : Option Value) (S : List Value) (h : zH), zD 145 50 [l0, l1, l2, l3, l4] S h = zD 145 52 [l0, l1, l2, l3, l4] (.int (8 : Int32) :: S) h) ∧
  (∀ (l0 l1 l2 l3 l4 : Option Value) (S : List Value) (h : zH), zD 145 52 [l0, l1, l2, l3, l4] S h = zD 145 54 [l0, l1, l2, l3, l4] (.int (31 : Int32) :: S) h) ∧
  (∀ (l0 l2 l3 l4 : Option Value) (x : Int32) (S : List Value) (h : zH), zD 145 54 [l0, some (.int x), l2, l3, l4] S h = zD 145 55 [l0, some (.int x), l2, l3, l4] (.int x :: S) h) ∧
  (∀ (l0 l1 l2 l3 l4 : Option Value) (x y : Int32) (r : List Value) (h : zH), zD 145 55 [l0, l1, l2, l3, l4] (.int y :: .int x :: r) h = zD 145 56 [l0, l1, l2, l3, l4] (.int (x * y) :: r) h) ∧
  (∀ (l0 l1 l3 l4 : Option Value) (x : Int32) (S : List Value) (h : zH), zD 145 56 [l0, l1, some (.int x), l3, l4] S h = zD 145 57 [l0, l1, some (.int x), l3, l4] (.int x :: S) h) ∧
  (∀ (l0 l1 l2 l3 l4 : Option Value) (x y : Int32) (r : List Value) (h : zH), zD 145 57 [l0, l1, l2, l3, l4] (.int y :: .int x :: r) h = zD 145 58 [l0, l1, l2, l3, l4] (.int (x + y) :: r) h) ∧
  (∀ (l0 l1 l2 l3 l4 : Option Value) (x y : Int32) (r : List Value) (h : zH), zD 145 58 [l0, l1, l2, l3, l4] (.int y :: .int x :: r) h = zD 145 59 [l0, l1, l2, l3, l4] (.int (x * y) :: r) h) ∧
  (∀ (l0 l1 l2 l3 : Option Value) (x : Int32) (S : List Value) (h : zH), zD 145 59 [l0, l1, l2, l3, some (.int x)] S h = zD 145 61 [l0, l1, l2, l3, some (.int x)] (.int x :: S) h) ∧
  (∀ (l0 l1 l2 l3 l4 : Option Value) (x y : Int32) (r : List Value) (h : zH), zD 145 61 [l0, l1, l2, l3, l4] (.int y :: .int x :: r) h = zD 145 62 [l0, l1, l2, l3, l4] (.int (x + y) :: r) h) ∧
  (∀ (l0 l1 l2 l3 l4 : Option Value) (i : Int32) (a : Nat) (r : List Value) (h : zH) (hx : ziok a (h.2.2 a) i = true), zD 145 62 [l0, l1, l2, l3, l4] (.int i :: .ref a :: r) h = zD 145 63 [l0, l1, l2, l3, l4] (.int (ziv (h.2.2 a) i) :: r) h) ∧
  (∀ (l1 l2 l3 l4 : Option Value) (x : Nat) (S : List Value) (h : zH), zD 145 63 [some (.ref x), l1, l2, l3, l4] S h = zD 145 64 [some (.ref x), l1, l2, l3, l4] (.ref x :: S) h) ∧
  (∀ (l0 l1 l2 l3 l4 : Option Value) (a : Nat) (r : List Value) (h : zH) (hx : zfok (h.2.2 a) 9 2 = true), zD 145 64 [l0, l1, l2, l3, l4] (.ref a :: r) h = zD 145 67 [l0, l1, l2, l3, l4] (zfv (h.2.2 a) 2 :: r) h) ∧
  (∀ (l0 l1 l2 l3 : Option Value) (x : Int32) (S : List Value) (h : zH), zD 145 67 [l0, l1, l2, l3, some (.int x)] S h = zD 145 69 [l0, l1, l2, l3, some (.int x)] (.int x :: S) h) ∧
  (∀ (l0 l1 l2 l3 l4 : Option Value) (i : Int32) (a : Nat) (r : List Value) (h : zH) (hx : ziok a (h.2.2 a) i = true), zD 145 69 [l0, l1, l2, l3, l4] (.int i :: .ref a :: r) h = zD 145 70 [l0, l1, l2, l3, l4] (.int (ziv (h.2.2 a) i) :: r) h) ∧
  (∀ (l0 l1 l2 l3 l4 : Option Value) (x y : Int32) (r : List Value) (h : zH), zD 145 70 [l0, l1, l2, l3, l4] (.int y :: .int x :: r) h = if ¬ x = y then zD 145 77 [l0, l1, l2, l3, l4] r h else zD 145 73 [l0, l1, l2, l3, l4] r h) ∧
  (∀ (l0 l1 l2 l3 l4 : Option Value) (S : List Value) (h : zH), zD 145 73 [l0, l1, l2, l3, l4] S h = zD 145 74 [l0, l1, l2, l3, l4] (.int (1 : Int32) :: S) h) ∧
  (∀ (l0 l1 l2 l3 l4 : Option Value) (S : List Value) (h : zH), zD 145 74 [l0, l1, l2, l3, l4] S h = zD 145 78 [l0, l1, l2, l3, l4] S h) ∧
  (∀ (l0 l1 l2 l3 l4 : Option Value) (S : List Value) (h : zH), zD 145 77 [l0, l1, l2, l3, l4] S h = zD 145 78 [l0, l1, l2, l3, l4] (.int (0 : Int32) :: S) h) ∧
  (∀ (l0 l1 l2 l3 l4 : Option Value) (x : Int32) (r : List Value) (h : zH), zD 145 78 [l0, l1, l2, l3, l4] (.int x :: r) h = zD 145 79 [l0, l1, zclr l2, some (.int x), l4] r h) ∧
  (∀ (l0 l1 l2 l3 : Option Value) (x : Int32) (S : List Value) (h : zH), zD 145 79 [l0, l1, l2, l3, some (.int x)] S h = zD 145 82 [l0, l1, l2, zclr l3, some (.int (x + (1 : Int32)))] S h) ∧
  (∀ (l0 l1 l2 l3 l4 : Option Value) (S : List Value) (h : zH), zD 145 82 [l0, l1, l2, l3, l4] S h = zD 145 33 [l0, l1, l2, l3, l4] S h) ∧
  (∀ (l0 l1 l2 l4 : Option Value) (x : Int32) (S : List Value) (h : zH), zD 145 85 [l0, l1, l2, some (.int x), l4] S h = zD 145 86 [l0, l1, l2, some (.int x), l4] (.int x :: S) h) ∧
  (∀ (l0 l1 l2 l3 l4 : Option Value) (x : Int32) (r : List Value) (h : zH), zD 145 86 [l0, l1, l2, l3, l4] (.int x :: r) h = if x = 0 then zD 145 91 [l0, l1, l2, l3, l4] r h else zD 145 89 [l0, l1, l2, l3, l4] r h) ∧
  (∀ (l0 l1 l3 l4 : Option Value) (x : Int32) (S : List Value) (h : zH), zD 145 89 [l0, l1, some (.int x), l3, l4] S h = zD 145 90 [l0, l1, some (.int x), l3, l4] (.int x :: S) h) ∧
  (∀ (l0 l1 l2 l3 l4 : Option Value) (v : Int32) (h : zH), zD 145 90 [l0, l1, l2, l3, l4] [.int v] h = some (some (.int v), h)) ∧
  (∀ (l0 l1 l3 l4 : Option Value) (x : Int32) (S : List Value) (h : zH), zD 145 91 [l0, l1, some (.int x), l3, l4] S h = zD 145 94 [l0, zclr l1, some (.int (x + (1 : Int32))), l3, l4] S h) ∧
  (∀ (l0 l1 l2 l3 l4 : Option Value) (S : List Value) (h : zH), zD 145 94 [l0, l1, l2, l3, l4] S h = zD 145 18 [l0, l1, l2, l3, l4] S h) ∧
  (∀ (l0 l1 l2 l3 l4 : Option Value) (S : List Value) (h : zH), zD 145 97 [l0, l1, l2, l3, l4] S h = zD 145 98 [l0, l1, l2, l3, l4] (.int (-1 : Int32) :: S) h) ∧
  (∀ (l0 l1 l2 l3 l4 : Option Value) (v : Int32) (h : zH), zD 145 98 [l0, l1, l2, l3, l4] [.int v] h = some (some (.int v), h)) :=
  ⟨fun l0 l2 l3 l4 x S h => zD_op (ins := .iload_n 1) (len := 1) (c := (1, [l0, some (.int x), l2, l3, l4], (.int x :: S), h)) (by decide +kernel) rfl rfl rfl rfl,
  fun l0 l1 l2 l3 l4 S h => zD_icst (n := 0) (by decide +kernel) (by decide +kernel),
  fun l0 l1 l2 l3 l4 S h => zD_icst (n := 1) (by decide +kernel) (by decide +kernel),
  fun l0 l1 l2 l3 l4 p0 p1 p2 r h hcat hC => zD_calls (i := 77) (y := 26) (n := 3) (as := [.int p0, .int p1, .int p2]) (by decide +kernel) (by decide +kernel) rfl (by decide +kernel) (Nat.le_of_ble_eq_true rfl) hcat hC,
  fun l0 l1 l2 l3 l4 x r h => zD_if0 (cnd := .ne) (off := 6) (by decide +kernel) (by decide) rfl,
  fun l0 l1 l2 l3 l4 S h => zD_bip (n := (-102)) (by decide +kernel) (by decide +kernel),
  fun l0 l1 l2 l3 l4 v h => zD_ireti (by decide +kernel) rfl,
  fun l1 l2 l3 l4 x S h => zD_op (ins := .aload_n 0) (len := 1) (c := (13, [some (.ref x), l1, l2, l3, l4], (.ref x :: S), h)) (by decide +kernel) rfl rfl rfl rfl,
  fun l0 l1 l2 l3 l4 a r h hcat hr hC => zD_callv (i := 120) (y := 119) (n := 0) (as := []) (ci := 9) (by decide +kernel) (by decide +kernel) rfl (by decide +kernel) (Nat.le_of_ble_eq_true rfl) (by decide +kernel) hcat hr hC,
  fun l0 l1 l2 l3 l4 S h => zD_icst (n := 0) (by decide +kernel) (by decide +kernel),
  fun l0 l1 l2 l3 l4 x r h => zD_st1 (k := 2) (ins := .istore_n 2) (len := 1) (by decide +kernel) rfl rfl rfl (by decide +kernel) rfl rfl,
  fun l1 l2 l3 l4 x S h => zD_op (ins := .aload_n 0) (len := 1) (c := (20, [some (.ref x), l1, l2, l3, l4], (.ref x :: S), h)) (by decide +kernel) rfl rfl rfl rfl,
  fun l0 l1 l2 l3 l4 a r h hx => zD_getf (i := 31) (ci := 9) (k := 7) (q := (718, 0)) (by decide +kernel) (by decide +kernel) hx,
  fun l0 l2 l3 l4 x S h => zD_op (ins := .iload_n 1) (len := 1) (c := (24, [l0, some (.int x), l2, l3, l4], (.int x :: S), h)) (by decide +kernel) rfl rfl rfl rfl,
  fun l0 l1 l2 l3 l4 i a r h hx => zD_iald (by decide +kernel) hx,
  fun l0 l1 l2 l3 l4 x y r h => zD_if (cnd := .ge) (off := 72) (by decide +kernel) (by decide) rfl,
  fun l0 l1 l2 l3 l4 S h => zD_icst (n := 1) (by decide +kernel) (by decide +kernel),
  fun l0 l1 l2 l3 l4 x r h => zD_st1 (k := 3) (ins := .istore_n 3) (len := 1) (by decide +kernel) rfl rfl rfl (by decide +kernel) rfl rfl,
  fun l0 l1 l2 l3 l4 S h => zD_icst (n := 1) (by decide +kernel) (by decide +kernel),
  fun l0 l1 l2 l3 l4 x r h => zD_st1 (k := 4) (ins := .istore 4) (len := 2) (by decide +kernel) rfl rfl rfl (by decide +kernel) rfl rfl,
  fun l1 l2 l3 l4 x S h => zD_op (ins := .aload_n 0) (len := 1) (c := (36, [some (.ref x), l1, l2, l3, l4], (.ref x :: S), h)) (by decide +kernel) rfl rfl rfl rfl,
  fun l0 l1 l2 l3 l4 a r h hx => zD_getf (i := 7) (ci := 9) (k := 0) (q := (711, 0)) (by decide +kernel) (by decide +kernel) hx,
  fun l0 l1 l2 l3 l4 x y r h => zD_if (cnd := .gt) (off := 46) (by decide +kernel) (by decide) rfl,
  fun l0 l1 l2 l4 x S h => zD_op (ins := .iload_n 3) (len := 1) (c := (43, [l0, l1, l2, some (.int x), l4], (.int x :: S), h)) (by decide +kernel) rfl rfl rfl rfl,
  fun l0 l1 l2 l3 l4 x r h => zD_if0 (cnd := .eq) (off := 42) (by decide +kernel) (by decide) rfl,
  fun l1 l2 l3 l4 x S h => zD_op (ins := .aload_n 0) (len := 1) (c := (47, [some (.ref x), l1, l2, l3, l4], (.ref x :: S), h)) (by decide +kernel) rfl rfl rfl rfl,
  fun l0 l1 l2 l3 l4 a r h hx => zD_getf (i := 37) (ci := 9) (k := 9) (q := (720, 0)) (by decide +kernel) (by decide +kernel) hx,
  fun l0 l1 l2 l3 l4 S h => zD_bip (n := 8) (by decide +kernel) (by decide +kernel),
  fun l0 l1 l2 l3 l4 S h => zD_bip (n := 31) (by decide +kernel) (by decide +kernel),
  fun l0 l2 l3 l4 x S h => zD_op (ins := .iload_n 1) (len := 1) (c := (55, [l0, some (.int x), l2, l3, l4], (.int x :: S), h)) (by decide +kernel) rfl rfl rfl rfl,
  fun l0 l1 l2 l3 l4 x y r h => zD_op (ins := .imul) (len := 1) (c := (56, [l0, l1, l2, l3, l4], (.int (x * y) :: r), h)) (by decide +kernel) rfl rfl rfl rfl,
  fun l0 l1 l3 l4 x S h => zD_op (ins := .iload_n 2) (len := 1) (c := (57, [l0, l1, some (.int x), l3, l4], (.int x :: S), h)) (by decide +kernel) rfl rfl rfl rfl,
  fun l0 l1 l2 l3 l4 x y r h => zD_op (ins := .iadd) (len := 1) (c := (58, [l0, l1, l2, l3, l4], (.int (x + y) :: r), h)) (by decide +kernel) rfl rfl rfl rfl,
  fun l0 l1 l2 l3 l4 x y r h => zD_op (ins := .imul) (len := 1) (c := (59, [l0, l1, l2, l3, l4], (.int (x * y) :: r), h)) (by decide +kernel) rfl rfl rfl rfl,
  fun l0 l1 l2 l3 x S h => zD_op (ins := .iload 4) (len := 2) (c := (61, [l0, l1, l2, l3, some (.int x)], (.int x :: S), h)) (by decide +kernel) rfl rfl rfl rfl,
  fun l0 l1 l2 l3 l4 x y r h => zD_op (ins := .iadd) (len := 1) (c := (62, [l0, l1, l2, l3, l4], (.int (x + y) :: r), h)) (by decide +kernel) rfl rfl rfl rfl,
  fun l0 l1 l2 l3 l4 i a r h hx => zD_iald (by decide +kernel) hx,
  fun l1 l2 l3 l4 x S h => zD_op (ins := .aload_n 0) (len := 1) (c := (64, [some (.ref x), l1, l2, l3, l4], (.ref x :: S), h)) (by decide +kernel) rfl rfl rfl rfl,
  fun l0 l1 l2 l3 l4 a r h hx => zD_getf (i := 17) (ci := 9) (k := 2) (q := (713, 0)) (by decide +kernel) (by decide +kernel) hx,
  fun l0 l1 l2 l3 x S h => zD_op (ins := .iload 4) (len := 2) (c := (69, [l0, l1, l2, l3, some (.int x)], (.int x :: S), h)) (by decide +kernel) rfl rfl rfl rfl,
  fun l0 l1 l2 l3 l4 i a r h hx => zD_iald (by decide +kernel) hx,
  fun l0 l1 l2 l3 l4 x y r h => zD_if (cnd := .ne) (off := 7) (by decide +kernel) (by decide) rfl,
  fun l0 l1 l2 l3 l4 S h => zD_icst (n := 1) (by decide +kernel) (by decide +kernel),
  fun l0 l1 l2 l3 l4 S h => zD_goto (off := 4) (by decide +kernel) (by decide),
  fun l0 l1 l2 l3 l4 S h => zD_icst (n := 0) (by decide +kernel) (by decide +kernel),
  fun l0 l1 l2 l3 l4 x r h => zD_st1 (k := 3) (ins := .istore_n 3) (len := 1) (by decide +kernel) rfl rfl rfl (by decide +kernel) rfl rfl,
  fun l0 l1 l2 l3 x S h => zD_iinc (k := 4) (x := x) (c := (1 : Int32)) (n := 1) (by decide +kernel) (by decide +kernel) rfl (by decide +kernel) rfl,
  fun l0 l1 l2 l3 l4 S h => zD_goto (off := (-49)) (by decide +kernel) (by decide),
  fun l0 l1 l2 l4 x S h => zD_op (ins := .iload_n 3) (len := 1) (c := (86, [l0, l1, l2, some (.int x), l4], (.int x :: S), h)) (by decide +kernel) rfl rfl rfl rfl,
  fun l0 l1 l2 l3 l4 x r h => zD_if0 (cnd := .eq) (off := 5) (by decide +kernel) (by decide) rfl,
  fun l0 l1 l3 l4 x S h => zD_op (ins := .iload_n 2) (len := 1) (c := (90, [l0, l1, some (.int x), l3, l4], (.int x :: S), h)) (by decide +kernel) rfl rfl rfl rfl,
  fun l0 l1 l2 l3 l4 v h => zD_ireti (by decide +kernel) rfl,
  fun l0 l1 l3 l4 x S h => zD_iinc (k := 2) (x := x) (c := (1 : Int32)) (n := 1) (by decide +kernel) (by decide +kernel) rfl (by decide +kernel) rfl,
  fun l0 l1 l2 l3 l4 S h => zD_goto (off := (-76)) (by decide +kernel) (by decide),
  fun l0 l1 l2 l3 l4 S h => zD_icst (n := (-1)) (by decide +kernel) (by decide +kernel),
  fun l0 l1 l2 l3 l4 v h => zD_ireti (by decide +kernel) rfl⟩
set_option maxRecDepth 100000 in
theorem E_X10_rank_h18 : (∀ (l0 l1 l3 l4 : Option Value) (x : Int32) (S : List Value) (h : zH), zD 145 18 [l0, l1, some (.int x), l3, l4] S h = zD 145 19 [l0, l1, some (.int x), l3, l4] (.int x :: S) h) :=
  fun l0 l1 l3 l4 x S h => zD_op (ins := .iload_n 2) (len := 1) (c := (19, [l0, l1, some (.int x), l3, l4], (.int x :: S), h)) (by decide +kernel) rfl rfl rfl rfl
set_option maxRecDepth 100000 in
theorem E_X10_rank_h33 : (∀ (l0 l1 l2 l3 : Option Value) (x : Int32) (S : List Value) (h : zH), zD 145 33 [l0, l1, l2, l3, some (.int x)] S h = zD 145 35 [l0, l1, l2, l3, some (.int x)] (.int x :: S) h) :=
  fun l0 l1 l2 l3 x S h => zD_op (ins := .iload 4) (len := 2) (c := (35, [l0, l1, l2, l3, some (.int x)], (.int x :: S), h)) (by decide +kernel) rfl rfl rfl rfl
set_option maxRecDepth 100000 in
theorem I_X10_rank : (∀ (a : Nat) (p0 : Int32) (h : zH), zC 145 [.ref a, .int p0] h = zD 145 0 [some (.ref a), some (.int p0), none, none, none] [] h) :=
  fun a p0 h => zC_def rfl
set_option maxRecDepth 100000 in
theorem E_X10_answers : (∀ (l1 l2 : Option Value) (x : Nat) (S : List Value) (h : zH), zD 146 0 [some (.ref x), l1, l2] S h = zD 146 1 [some (.ref x), l1, l2] (.ref x :: S) h) ∧
  (∀ (l0 l2 : Option Value) (x : Int32) (S : List Value) (h : zH), zD 146 1 [l0, some (.int x), l2] S h = zD 146 2 [l0, some (.int x), l2] (.int x :: S) h) ∧
  (∀ (l0 l1 l2 : Option Value) (p0 : Int32) (a : Nat) (r : List Value) (h : zH) (hcat : zcat r ≤ 8) (hr : zis (h.2.2 a) 9 = true) (hC : (zC 124 (.ref a :: [.int p0]) h).isSome = true), zD 146 2 [l0, l1, l2] (.int p0 :: .ref a :: r) h = zD 146 5 [l0, l1, l2] (zgv (zC 124 (.ref a :: [.int p0]) h) ++ r) (zgh h (zC 124 (.ref a :: [.int p0]) h))) ∧
  (∀ (l0 l1 l2 : Option Value) (x : Int32) (r : List Value) (h : zH), zD 146 5 [l0, l1, l2] (.int x :: r) h = zD 146 6 [l0, zclr l1, some (.int x)] r h) ∧
  (∀ (l0 l1 : Option Value) (x : Int32) (S : List Value) (h : zH), zD 146 6 [l0, l1, some (.int x)] S h = zD 146 7 [l0, l1, some (.int x)] (.int x :: S) h) ∧
  (∀ (l0 l1 l2 : Option Value) (x : Int32) (r : List Value) (h : zH), zD 146 7 [l0, l1, l2] (.int x :: r) h = if x = 0 then zD 146 12 [l0, l1, l2] r h else zD 146 10 [l0, l1, l2] r h) ∧
  (∀ (l0 l1 : Option Value) (x : Int32) (S : List Value) (h : zH), zD 146 10 [l0, l1, some (.int x)] S h = zD 146 11 [l0, l1, some (.int x)] (.int x :: S) h) ∧
  (∀ (l0 l1 l2 : Option Value) (v : Int32) (h : zH), zD 146 11 [l0, l1, l2] [.int v] h = some (some (.int v), h)) ∧
  (∀ (l1 l2 : Option Value) (x : Nat) (S : List Value) (h : zH), zD 146 12 [some (.ref x), l1, l2] S h = zD 146 13 [some (.ref x), l1, l2] (.ref x :: S) h) ∧
  (∀ (l0 l2 : Option Value) (x : Int32) (S : List Value) (h : zH), zD 146 13 [l0, some (.int x), l2] S h = zD 146 14 [l0, some (.int x), l2] (.int x :: S) h) ∧
  (∀ (l0 l1 l2 : Option Value) (S : List Value) (h : zH), zD 146 14 [l0, l1, l2] S h = zD 146 15 [l0, l1, l2] (.int (-1 : Int32) :: S) h) ∧
  (∀ (l0 l1 l2 : Option Value) (p0 : Int32) (p1 : Int32) (a : Nat) (r : List Value) (h : zH) (hcat : zcat r ≤ 8) (hr : zis (h.2.2 a) 9 = true) (hC : (zC 123 (.ref a :: [.int p0, .int p1]) h).isSome = true), zD 146 15 [l0, l1, l2] (.int p1 :: .int p0 :: .ref a :: r) h = zD 146 18 [l0, l1, l2] (zgv (zC 123 (.ref a :: [.int p0, .int p1]) h) ++ r) (zgh h (zC 123 (.ref a :: [.int p0, .int p1]) h))) ∧
  (∀ (l0 l1 l2 : Option Value) (x : Int32) (r : List Value) (h : zH), zD 146 18 [l0, l1, l2] (.int x :: r) h = zD 146 19 [l0, l1, l2] r h) ∧
  (∀ (l0 l1 l2 : Option Value) (x : Nat) (r : List Value) (h : zH), zD 146 18 [l0, l1, l2] (.ref x :: r) h = zD 146 19 [l0, l1, l2] r h) ∧
  (∀ (l1 l2 : Option Value) (x : Nat) (S : List Value) (h : zH), zD 146 19 [some (.ref x), l1, l2] S h = zD 146 20 [some (.ref x), l1, l2] (.ref x :: S) h) ∧
  (∀ (l0 l1 l2 : Option Value) (a : Nat) (r : List Value) (h : zH) (hx : zfok (h.2.2 a) 9 22 = true), zD 146 20 [l0, l1, l2] (.ref a :: r) h = zD 146 23 [l0, l1, l2] (zfv (h.2.2 a) 22 :: r) h) ∧
  (∀ (l0 l1 l2 : Option Value) (v : Int32) (h : zH), zD 146 23 [l0, l1, l2] [.int v] h = some (some (.int v), h)) :=
  ⟨fun l1 l2 x S h => zD_op (ins := .aload_n 0) (len := 1) (c := (1, [some (.ref x), l1, l2], (.ref x :: S), h)) (by decide +kernel) rfl rfl rfl rfl,
  fun l0 l2 x S h => zD_op (ins := .iload_n 1) (len := 1) (c := (2, [l0, some (.int x), l2], (.int x :: S), h)) (by decide +kernel) rfl rfl rfl rfl,
  fun l0 l1 l2 p0 a r h hcat hr hC => zD_callv (i := 145) (y := 124) (n := 1) (as := [.int p0]) (ci := 9) (by decide +kernel) (by decide +kernel) rfl (by decide +kernel) (Nat.le_of_ble_eq_true rfl) (by decide +kernel) hcat hr hC,
  fun l0 l1 l2 x r h => zD_st1 (k := 2) (ins := .istore_n 2) (len := 1) (by decide +kernel) rfl rfl rfl (by decide +kernel) rfl rfl,
  fun l0 l1 x S h => zD_op (ins := .iload_n 2) (len := 1) (c := (7, [l0, l1, some (.int x)], (.int x :: S), h)) (by decide +kernel) rfl rfl rfl rfl,
  fun l0 l1 l2 x r h => zD_if0 (cnd := .eq) (off := 5) (by decide +kernel) (by decide) rfl,
  fun l0 l1 x S h => zD_op (ins := .iload_n 2) (len := 1) (c := (11, [l0, l1, some (.int x)], (.int x :: S), h)) (by decide +kernel) rfl rfl rfl rfl,
  fun l0 l1 l2 v h => zD_ireti (by decide +kernel) rfl,
  fun l1 l2 x S h => zD_op (ins := .aload_n 0) (len := 1) (c := (13, [some (.ref x), l1, l2], (.ref x :: S), h)) (by decide +kernel) rfl rfl rfl rfl,
  fun l0 l2 x S h => zD_op (ins := .iload_n 1) (len := 1) (c := (14, [l0, some (.int x), l2], (.int x :: S), h)) (by decide +kernel) rfl rfl rfl rfl,
  fun l0 l1 l2 S h => zD_icst (n := (-1)) (by decide +kernel) (by decide +kernel),
  fun l0 l1 l2 p0 p1 a r h hcat hr hC => zD_callv (i := 149) (y := 123) (n := 2) (as := [.int p0, .int p1]) (ci := 9) (by decide +kernel) (by decide +kernel) rfl (by decide +kernel) (Nat.le_of_ble_eq_true rfl) (by decide +kernel) hcat hr hC,
  fun l0 l1 l2 x r h => zD_op (ins := .pop) (len := 1) (c := (19, [l0, l1, l2], r, h)) (by decide +kernel) rfl rfl rfl rfl,
  fun l0 l1 l2 x r h => zD_op (ins := .pop) (len := 1) (c := (19, [l0, l1, l2], r, h)) (by decide +kernel) rfl rfl rfl rfl,
  fun l1 l2 x S h => zD_op (ins := .aload_n 0) (len := 1) (c := (20, [some (.ref x), l1, l2], (.ref x :: S), h)) (by decide +kernel) rfl rfl rfl rfl,
  fun l0 l1 l2 a r h hx => zD_getf (i := 139) (ci := 9) (k := 22) (q := (733, 0)) (by decide +kernel) (by decide +kernel) hx,
  fun l0 l1 l2 v h => zD_ireti (by decide +kernel) rfl⟩
set_option maxRecDepth 100000 in
theorem I_X10_answers : (∀ (a : Nat) (p0 : Int32) (h : zH), zC 146 [.ref a, .int p0] h = zD 146 0 [some (.ref a), some (.int p0), none] [] h) :=
  fun a p0 h => zC_def rfl
set_option maxRecDepth 100000 in
theorem E_X10_answer : (∀ (l1 l2 l3 : Option Value) (x : Nat) (S : List Value) (h : zH), zD 147 0 [some (.ref x), l1, l2, l3] S h = zD 147 1 [some (.ref x), l1, l2, l3] (.ref x :: S) h) ∧
  (∀ (l0 l2 l3 : Option Value) (x : Int32) (S : List Value) (h : zH), zD 147 1 [l0, some (.int x), l2, l3] S h = zD 147 2 [l0, some (.int x), l2, l3] (.int x :: S) h) ∧
  (∀ (l0 l1 l2 l3 : Option Value) (p0 : Int32) (a : Nat) (r : List Value) (h : zH) (hcat : zcat r ≤ 8) (hr : zis (h.2.2 a) 9 = true) (hC : (zC 124 (.ref a :: [.int p0]) h).isSome = true), zD 147 2 [l0, l1, l2, l3] (.int p0 :: .ref a :: r) h = zD 147 5 [l0, l1, l2, l3] (zgv (zC 124 (.ref a :: [.int p0]) h) ++ r) (zgh h (zC 124 (.ref a :: [.int p0]) h))) ∧
  (∀ (l0 l1 l2 l3 : Option Value) (x : Int32) (r : List Value) (h : zH), zD 147 5 [l0, l1, l2, l3] (.int x :: r) h = zD 147 6 [l0, l1, zclr l2, some (.int x)] r h) ∧
  (∀ (l0 l1 l2 : Option Value) (x : Int32) (S : List Value) (h : zH), zD 147 6 [l0, l1, l2, some (.int x)] S h = zD 147 7 [l0, l1, l2, some (.int x)] (.int x :: S) h) ∧
  (∀ (l0 l1 l2 l3 : Option Value) (x : Int32) (r : List Value) (h : zH), zD 147 7 [l0, l1, l2, l3] (.int x :: r) h = if x = 0 then zD 147 12 [l0, l1, l2, l3] r h else zD 147 10 [l0, l1, l2, l3] r h) ∧
  (∀ (l0 l1 l2 : Option Value) (x : Int32) (S : List Value) (h : zH), zD 147 10 [l0, l1, l2, some (.int x)] S h = zD 147 11 [l0, l1, l2, some (.int x)] (.int x :: S) h) ∧
  (∀ (l0 l1 l2 l3 : Option Value) (v : Int32) (h : zH), zD 147 11 [l0, l1, l2, l3] [.int v] h = some (some (.int v), h)) ∧
  (∀ (l0 l1 l3 : Option Value) (x : Int32) (S : List Value) (h : zH), zD 147 12 [l0, l1, some (.int x), l3] S h = zD 147 13 [l0, l1, some (.int x), l3] (.int x :: S) h) ∧
  (∀ (l0 l1 l2 l3 : Option Value) (x : Int32) (r : List Value) (h : zH), zD 147 13 [l0, l1, l2, l3] (.int x :: r) h = if 0 ≤ x then zD 147 20 [l0, l1, l2, l3] r h else zD 147 16 [l0, l1, l2, l3] r h) ∧
  (∀ (l0 l1 l2 l3 : Option Value) (S : List Value) (h : zH), zD 147 16 [l0, l1, l2, l3] S h = zD 147 17 [l0, l1, l2, l3] (.int (-1 : Int32) :: S) h) ∧
  (∀ (l0 l1 l2 l3 : Option Value) (S : List Value) (h : zH), zD 147 17 [l0, l1, l2, l3] S h = zD 147 26 [l0, l1, l2, l3] S h) ∧
  (∀ (l1 l2 l3 : Option Value) (x : Nat) (S : List Value) (h : zH), zD 147 20 [some (.ref x), l1, l2, l3] S h = zD 147 21 [some (.ref x), l1, l2, l3] (.ref x :: S) h) ∧
  (∀ (l0 l2 l3 : Option Value) (x : Int32) (S : List Value) (h : zH), zD 147 21 [l0, some (.int x), l2, l3] S h = zD 147 22 [l0, some (.int x), l2, l3] (.int x :: S) h) ∧
  (∀ (l0 l1 l3 : Option Value) (x : Int32) (S : List Value) (h : zH), zD 147 22 [l0, l1, some (.int x), l3] S h = zD 147 23 [l0, l1, some (.int x), l3] (.int x :: S) h) ∧
  (∀ (l0 l1 l2 l3 : Option Value) (p0 : Int32) (p1 : Int32) (a : Nat) (r : List Value) (h : zH) (hcat : zcat r ≤ 8) (hr : zis (h.2.2 a) 9 = true) (hC : (zC 123 (.ref a :: [.int p0, .int p1]) h).isSome = true), zD 147 23 [l0, l1, l2, l3] (.int p1 :: .int p0 :: .ref a :: r) h = zD 147 26 [l0, l1, l2, l3] (zgv (zC 123 (.ref a :: [.int p0, .int p1]) h) ++ r) (zgh h (zC 123 (.ref a :: [.int p0, .int p1]) h))) ∧
  (∀ (l0 l1 l2 l3 : Option Value) (v : Int32) (h : zH), zD 147 26 [l0, l1, l2, l3] [.int v] h = some (some (.int v), h)) :=
  ⟨fun l1 l2 l3 x S h => zD_op (ins := .aload_n 0) (len := 1) (c := (1, [some (.ref x), l1, l2, l3], (.ref x :: S), h)) (by decide +kernel) rfl rfl rfl rfl,
  fun l0 l2 l3 x S h => zD_op (ins := .iload_n 1) (len := 1) (c := (2, [l0, some (.int x), l2, l3], (.int x :: S), h)) (by decide +kernel) rfl rfl rfl rfl,
  fun l0 l1 l2 l3 p0 a r h hcat hr hC => zD_callv (i := 145) (y := 124) (n := 1) (as := [.int p0]) (ci := 9) (by decide +kernel) (by decide +kernel) rfl (by decide +kernel) (Nat.le_of_ble_eq_true rfl) (by decide +kernel) hcat hr hC,
  fun l0 l1 l2 l3 x r h => zD_st1 (k := 3) (ins := .istore_n 3) (len := 1) (by decide +kernel) rfl rfl rfl (by decide +kernel) rfl rfl,
  fun l0 l1 l2 x S h => zD_op (ins := .iload_n 3) (len := 1) (c := (7, [l0, l1, l2, some (.int x)], (.int x :: S), h)) (by decide +kernel) rfl rfl rfl rfl,
  fun l0 l1 l2 l3 x r h => zD_if0 (cnd := .eq) (off := 5) (by decide +kernel) (by decide) rfl,
  fun l0 l1 l2 x S h => zD_op (ins := .iload_n 3) (len := 1) (c := (11, [l0, l1, l2, some (.int x)], (.int x :: S), h)) (by decide +kernel) rfl rfl rfl rfl,
  fun l0 l1 l2 l3 v h => zD_ireti (by decide +kernel) rfl,
  fun l0 l1 l3 x S h => zD_op (ins := .iload_n 2) (len := 1) (c := (13, [l0, l1, some (.int x), l3], (.int x :: S), h)) (by decide +kernel) rfl rfl rfl rfl,
  fun l0 l1 l2 l3 x r h => zD_if0 (cnd := .ge) (off := 7) (by decide +kernel) (by decide) rfl,
  fun l0 l1 l2 l3 S h => zD_icst (n := (-1)) (by decide +kernel) (by decide +kernel),
  fun l0 l1 l2 l3 S h => zD_goto (off := 9) (by decide +kernel) (by decide),
  fun l1 l2 l3 x S h => zD_op (ins := .aload_n 0) (len := 1) (c := (21, [some (.ref x), l1, l2, l3], (.ref x :: S), h)) (by decide +kernel) rfl rfl rfl rfl,
  fun l0 l2 l3 x S h => zD_op (ins := .iload_n 1) (len := 1) (c := (22, [l0, some (.int x), l2, l3], (.int x :: S), h)) (by decide +kernel) rfl rfl rfl rfl,
  fun l0 l1 l3 x S h => zD_op (ins := .iload_n 2) (len := 1) (c := (23, [l0, l1, some (.int x), l3], (.int x :: S), h)) (by decide +kernel) rfl rfl rfl rfl,
  fun l0 l1 l2 l3 p0 p1 a r h hcat hr hC => zD_callv (i := 149) (y := 123) (n := 2) (as := [.int p0, .int p1]) (ci := 9) (by decide +kernel) (by decide +kernel) rfl (by decide +kernel) (Nat.le_of_ble_eq_true rfl) (by decide +kernel) hcat hr hC,
  fun l0 l1 l2 l3 v h => zD_ireti (by decide +kernel) rfl⟩
set_option maxRecDepth 100000 in
theorem I_X10_answer : (∀ (a : Nat) (p0 : Int32) (p1 : Int32) (h : zH), zC 147 [.ref a, .int p0, .int p1] h = zD 147 0 [some (.ref a), some (.int p0), some (.int p1), none] [] h) :=
  fun a p0 p1 h => zC_def rfl
set_option maxRecDepth 100000 in
theorem E_X10_agree : (∀ (l1 l2 l3 l4 l5 : Option Value) (x : Nat) (S : List Value) (h : zH), zD 148 0 [some (.ref x), l1, l2, l3, l4, l5] S h = zD 148 1 [some (.ref x), l1, l2, l3, l4, l5] (.ref x :: S) h) ∧
  (∀ (l0 l2 l3 l4 l5 : Option Value) (x : Int32) (S : List Value) (h : zH), zD 148 1 [l0, some (.int x), l2, l3, l4, l5] S h = zD 148 2 [l0, some (.int x), l2, l3, l4, l5] (.int x :: S) h) ∧
  (∀ (l0 l1 l3 l4 l5 : Option Value) (x : Int32) (S : List Value) (h : zH), zD 148 2 [l0, l1, some (.int x), l3, l4, l5] S h = zD 148 3 [l0, l1, some (.int x), l3, l4, l5] (.int x :: S) h) ∧
  (∀ (l0 l1 l2 l3 l4 l5 : Option Value) (p0 : Int32) (p1 : Int32) (a : Nat) (r : List Value) (h : zH) (hcat : zcat r ≤ 8) (hr : zis (h.2.2 a) 9 = true) (hC : (zC 125 (.ref a :: [.int p0, .int p1]) h).isSome = true), zD 148 3 [l0, l1, l2, l3, l4, l5] (.int p1 :: .int p0 :: .ref a :: r) h = zD 148 6 [l0, l1, l2, l3, l4, l5] (zgv (zC 125 (.ref a :: [.int p0, .int p1]) h) ++ r) (zgh h (zC 125 (.ref a :: [.int p0, .int p1]) h))) ∧
  (∀ (l0 l1 l2 l3 l4 l5 : Option Value) (x : Int32) (r : List Value) (h : zH), zD 148 6 [l0, l1, l2, l3, l4, l5] (.int x :: r) h = zD 148 7 [l0, l1, zclr l2, some (.int x), l4, l5] r h) ∧
  (∀ (l0 l1 l2 l4 l5 : Option Value) (x : Int32) (S : List Value) (h : zH), zD 148 7 [l0, l1, l2, some (.int x), l4, l5] S h = zD 148 8 [l0, l1, l2, some (.int x), l4, l5] (.int x :: S) h) ∧
  (∀ (l0 l1 l2 l3 l4 l5 : Option Value) (x : Int32) (r : List Value) (h : zH), zD 148 8 [l0, l1, l2, l3, l4, l5] (.int x :: r) h = if x = 0 then zD 148 13 [l0, l1, l2, l3, l4, l5] r h else zD 148 11 [l0, l1, l2, l3, l4, l5] r h) ∧
  (∀ (l0 l1 l2 l4 l5 : Option Value) (x : Int32) (S : List Value) (h : zH), zD 148 11 [l0, l1, l2, some (.int x), l4, l5] S h = zD 148 12 [l0, l1, l2, some (.int x), l4, l5] (.int x :: S) h) ∧
  (∀ (l0 l1 l2 l3 l4 l5 : Option Value) (v : Int32) (h : zH), zD 148 12 [l0, l1, l2, l3, l4, l5] [.int v] h = some (some (.int v), h)) ∧
  (∀ (l0 l1 l2 l3 l4 l5 : Option Value) (S : List Value) (h : zH), zD 148 13 [l0, l1, l2, l3, l4, l5] S h = zD 148 14 [l0, l1, l2, l3, l4, l5] (.int (0 : Int32) :: S) h) ∧
  (∀ (l0 l1 l2 l3 l4 l5 : Option Value) (x : Int32) (r : List Value) (h : zH), zD 148 14 [l0, l1, l2, l3, l4, l5] (.int x :: r) h = zD 148 16 [l0, l1, l2, zclr l3, some (.int x), l5] r h) ∧
  (∀ (l0 l1 l2 l3 l4 l5 : Option Value) (S : List Value) (h : zH), zD 148 16 [l0, l1, l2, l3, l4, l5] S h = zD 148 17 [l0, l1, l2, l3, l4, l5] (.int (1 : Int32) :: S) h) ∧
  (∀ (l0 l1 l2 l3 l4 l5 : Option Value) (x : Int32) (r : List Value) (h : zH), zD 148 17 [l0, l1, l2, l3, l4, l5] (.int x :: r) h = zD 148 19 [l0, l1, l2, l3, zclr l4, some (.int x)] r h) ∧
  (∀ (l1 l2 l3 l4 l5 : Option Value) (x : Nat) (S : List Value) (h : zH), zD 148 21 [some (.ref x), l1, l2, l3, l4, l5] S h = zD 148 22 [some (.ref x), l1, l2, l3, l4, l5] (.ref x :: S) h) ∧
  (∀ (l0 l2 l3 l4 l5 : Option Value) (x : Int32) (S : List Value) (h : zH), zD 148 22 [l0, some (.int x), l2, l3, l4, l5] S h = zD 148 23 [l0, some (.int x), l2, l3, l4, l5] (.int x :: S) h) ∧
  (∀ (l0 l1 l2 l3 l4 l5 : Option Value) (p0 : Int32) (a : Nat) (r : List Value) (h : zH) (hcat : zcat r ≤ 8) (hr : zis (h.2.2 a) 9 = true) (hC : (zC 36 (.ref a :: [.int p0]) h).isSome = true), zD 148 23 [l0, l1, l2, l3, l4, l5] (.int p0 :: .ref a :: r) h = zD 148 26 [l0, l1, l2, l3, l4, l5] (zgv (zC 36 (.ref a :: [.int p0]) h) ++ r) (zgh h (zC 36 (.ref a :: [.int p0]) h))) ∧
  (∀ (l0 l1 l2 l3 l4 l5 : Option Value) (x y : Int32) (r : List Value) (h : zH), zD 148 26 [l0, l1, l2, l3, l4, l5] (.int y :: .int x :: r) h = if y < x then zD 148 62 [l0, l1, l2, l3, l4, l5] r h else zD 148 29 [l0, l1, l2, l3, l4, l5] r h) ∧
  (∀ (l0 l1 l2 l3 l5 : Option Value) (x : Int32) (S : List Value) (h : zH), zD 148 29 [l0, l1, l2, l3, some (.int x), l5] S h = zD 148 31 [l0, l1, l2, l3, some (.int x), l5] (.int x :: S) h) ∧
  (∀ (l1 l2 l3 l4 l5 : Option Value) (x : Nat) (S : List Value) (h : zH), zD 148 31 [some (.ref x), l1, l2, l3, l4, l5] S h = zD 148 32 [some (.ref x), l1, l2, l3, l4, l5] (.ref x :: S) h) ∧
  (∀ (l0 l2 l3 l4 l5 : Option Value) (x : Int32) (S : List Value) (h : zH), zD 148 32 [l0, some (.int x), l2, l3, l4, l5] S h = zD 148 33 [l0, some (.int x), l2, l3, l4, l5] (.int x :: S) h) ∧
  (∀ (l0 l1 l2 l3 l4 : Option Value) (x : Int32) (S : List Value) (h : zH), zD 148 33 [l0, l1, l2, l3, l4, some (.int x)] S h = zD 148 35 [l0, l1, l2, l3, l4, some (.int x)] (.int x :: S) h) ∧
  (∀ (l0 l1 l2 l3 l4 l5 : Option Value) (p0 : Int32) (p1 : Int32) (a : Nat) (r : List Value) (h : zH) (hcat : zcat r ≤ 8) (hr : zis (h.2.2 a) 9 = true) (hC : (zC 37 (.ref a :: [.int p0, .int p1]) h).isSome = true), zD 148 35 [l0, l1, l2, l3, l4, l5] (.int p1 :: .int p0 :: .ref a :: r) h = zD 148 38 [l0, l1, l2, l3, l4, l5] (zgv (zC 37 (.ref a :: [.int p0, .int p1]) h) ++ r) (zgh h (zC 37 (.ref a :: [.int p0, .int p1]) h))) ∧
  (∀ (l1 l2 l3 l4 l5 : Option Value) (x : Nat) (S : List Value) (h : zH), zD 148 38 [some (.ref x), l1, l2, l3, l4, l5] S h = zD 148 39 [some (.ref x), l1, l2, l3, l4, l5] (.ref x :: S) h) ∧
  (∀ (l0 l1 l3 l4 l5 : Option Value) (x : Int32) (S : List Value) (h : zH), zD 148 39 [l0, l1, some (.int x), l3, l4, l5] S h = zD 148 40 [l0, l1, some (.int x), l3, l4, l5] (.int x :: S) h) ∧
  (∀ (l0 l1 l2 l3 l4 : Option Value) (x : Int32) (S : List Value) (h : zH), zD 148 40 [l0, l1, l2, l3, l4, some (.int x)] S h = zD 148 42 [l0, l1, l2, l3, l4, some (.int x)] (.int x :: S) h) ∧
  (∀ (l0 l1 l2 l3 l4 l5 : Option Value) (p0 : Int32) (p1 : Int32) (a : Nat) (r : List Value) (h : zH) (hcat : zcat r ≤ 8) (hr : zis (h.2.2 a) 9 = true) (hC : (zC 37 (.ref a :: [.int p0, .int p1]) h).isSome = true), zD 148 42 [l0, l1, l2, l3, l4, l5] (.int p1 :: .int p0 :: .ref a :: r) h = zD 148 45 [l0, l1, l2, l3, l4, l5] (zgv (zC 37 (.ref a :: [.int p0, .int p1]) h) ++ r) (zgh h (zC 37 (.ref a :: [.int p0, .int p1]) h))) ∧
  (∀ (l0 l1 l2 l3 l4 l5 : Option Value) (x y : Int32) (r : List Value) (h : zH), zD 148 45 [l0, l1, l2, l3, l4, l5] (.int y :: .int x :: r) h = if ¬ x = y then zD 148 52 [l0, l1, l2, l3, l4, l5] r h else zD 148 48 [l0, l1, l2, l3, l4, l5] r h) ∧
  (∀ (l0 l1 l2 l3 l4 l5 : Option Value) (S : List Value) (h : zH), zD 148 48 [l0, l1, l2, l3, l4, l5] S h = zD 148 49 [l0, l1, l2, l3, l4, l5] (.int (1 : Int32) :: S) h) ∧
  (∀ (l0 l1 l2 l3 l4 l5 : Option Value) (S : List Value) (h : zH), zD 148 49 [l0, l1, l2, l3, l4, l5] S h = zD 148 53 [l0, l1, l2, l3, l4, l5] S h) ∧
  (∀ (l0 l1 l2 l3 l4 l5 : Option Value) (S : List Value) (h : zH), zD 148 52 [l0, l1, l2, l3, l4, l5] S h = zD 148 53 [l0, l1, l2, l3, l4, l5] (.int (0 : Int32) :: S) h) ∧
  (∀ (l0 l1 l2 l3 l4 l5 : Option Value) (x y : Int32) (r : List Value) (h : zH), zD 148 53 [l0, l1, l2, l3, l4, l5] (.int y :: .int x :: r) h = zD 148 54 [l0, l1, l2, l3, l4, l5] (.int (x + y) :: r) h) ∧
  (∀ (l0 l1 l2 l3 l4 l5 : Option Value) (x : Int32) (r : List Value) (h : zH), zD 148 54 [l0, l1, l2, l3, l4, l5] (.int x :: r) h = zD 148 56 [l0, l1, l2, zclr l3, some (.int x), l5] r h) ∧
  (∀ (l0 l1 l2 l3 l4 : Option Value) (x : Int32) (S : List Value) (h : zH), zD 148 56 [l0, l1, l2, l3, l4, some (.int x)] S h = zD 148 59 [l0, l1, l2, l3, zclr l4, some (.int (x + (1 : Int32)))] S h) ∧
  (∀ (l0 l1 l2 l3 l4 l5 : Option Value) (S : List Value) (h : zH), zD 148 59 [l0, l1, l2, l3, l4, l5] S h = zD 148 19 [l0, l1, l2, l3, l4, l5] S h) ∧
  (∀ (l0 l1 l2 l3 l5 : Option Value) (x : Int32) (S : List Value) (h : zH), zD 148 62 [l0, l1, l2, l3, some (.int x), l5] S h = zD 148 64 [l0, l1, l2, l3, some (.int x), l5] (.int x :: S) h) ∧
  (∀ (l0 l1 l2 l3 l4 l5 : Option Value) (v : Int32) (h : zH), zD 148 64 [l0, l1, l2, l3, l4, l5] [.int v] h = some (some (.int v), h)) :=
  ⟨fun l1 l2 l3 l4 l5 x S h => zD_op (ins := .aload_n 0) (len := 1) (c := (1, [some (.ref x), l1, l2, l3, l4, l5], (.ref x :: S), h)) (by decide +kernel) rfl rfl rfl rfl,
  fun l0 l2 l3 l4 l5 x S h => zD_op (ins := .iload_n 1) (len := 1) (c := (2, [l0, some (.int x), l2, l3, l4, l5], (.int x :: S), h)) (by decide +kernel) rfl rfl rfl rfl,
  fun l0 l1 l3 l4 l5 x S h => zD_op (ins := .iload_n 2) (len := 1) (c := (3, [l0, l1, some (.int x), l3, l4, l5], (.int x :: S), h)) (by decide +kernel) rfl rfl rfl rfl,
  fun l0 l1 l2 l3 l4 l5 p0 p1 a r h hcat hr hC => zD_callv (i := 156) (y := 125) (n := 2) (as := [.int p0, .int p1]) (ci := 9) (by decide +kernel) (by decide +kernel) rfl (by decide +kernel) (Nat.le_of_ble_eq_true rfl) (by decide +kernel) hcat hr hC,
  fun l0 l1 l2 l3 l4 l5 x r h => zD_st1 (k := 3) (ins := .istore_n 3) (len := 1) (by decide +kernel) rfl rfl rfl (by decide +kernel) rfl rfl,
  fun l0 l1 l2 l4 l5 x S h => zD_op (ins := .iload_n 3) (len := 1) (c := (8, [l0, l1, l2, some (.int x), l4, l5], (.int x :: S), h)) (by decide +kernel) rfl rfl rfl rfl,
  fun l0 l1 l2 l3 l4 l5 x r h => zD_if0 (cnd := .eq) (off := 5) (by decide +kernel) (by decide) rfl,
  fun l0 l1 l2 l4 l5 x S h => zD_op (ins := .iload_n 3) (len := 1) (c := (12, [l0, l1, l2, some (.int x), l4, l5], (.int x :: S), h)) (by decide +kernel) rfl rfl rfl rfl,
  fun l0 l1 l2 l3 l4 l5 v h => zD_ireti (by decide +kernel) rfl,
  fun l0 l1 l2 l3 l4 l5 S h => zD_icst (n := 0) (by decide +kernel) (by decide +kernel),
  fun l0 l1 l2 l3 l4 l5 x r h => zD_st1 (k := 4) (ins := .istore 4) (len := 2) (by decide +kernel) rfl rfl rfl (by decide +kernel) rfl rfl,
  fun l0 l1 l2 l3 l4 l5 S h => zD_icst (n := 1) (by decide +kernel) (by decide +kernel),
  fun l0 l1 l2 l3 l4 l5 x r h => zD_st1 (k := 5) (ins := .istore 5) (len := 2) (by decide +kernel) rfl rfl rfl (by decide +kernel) rfl rfl,
  fun l1 l2 l3 l4 l5 x S h => zD_op (ins := .aload_n 0) (len := 1) (c := (22, [some (.ref x), l1, l2, l3, l4, l5], (.ref x :: S), h)) (by decide +kernel) rfl rfl rfl rfl,
  fun l0 l2 l3 l4 l5 x S h => zD_op (ins := .iload_n 1) (len := 1) (c := (23, [l0, some (.int x), l2, l3, l4, l5], (.int x :: S), h)) (by decide +kernel) rfl rfl rfl rfl,
  fun l0 l1 l2 l3 l4 l5 p0 a r h hcat hr hC => zD_callv (i := 153) (y := 36) (n := 1) (as := [.int p0]) (ci := 9) (by decide +kernel) (by decide +kernel) rfl (by decide +kernel) (Nat.le_of_ble_eq_true rfl) (by decide +kernel) hcat hr hC,
  fun l0 l1 l2 l3 l4 l5 x y r h => zD_if (cnd := .gt) (off := 36) (by decide +kernel) (by decide) rfl,
  fun l0 l1 l2 l3 l5 x S h => zD_op (ins := .iload 4) (len := 2) (c := (31, [l0, l1, l2, l3, some (.int x), l5], (.int x :: S), h)) (by decide +kernel) rfl rfl rfl rfl,
  fun l1 l2 l3 l4 l5 x S h => zD_op (ins := .aload_n 0) (len := 1) (c := (32, [some (.ref x), l1, l2, l3, l4, l5], (.ref x :: S), h)) (by decide +kernel) rfl rfl rfl rfl,
  fun l0 l2 l3 l4 l5 x S h => zD_op (ins := .iload_n 1) (len := 1) (c := (33, [l0, some (.int x), l2, l3, l4, l5], (.int x :: S), h)) (by decide +kernel) rfl rfl rfl rfl,
  fun l0 l1 l2 l3 l4 x S h => zD_op (ins := .iload 5) (len := 2) (c := (35, [l0, l1, l2, l3, l4, some (.int x)], (.int x :: S), h)) (by decide +kernel) rfl rfl rfl rfl,
  fun l0 l1 l2 l3 l4 l5 p0 p1 a r h hcat hr hC => zD_callv (i := 159) (y := 37) (n := 2) (as := [.int p0, .int p1]) (ci := 9) (by decide +kernel) (by decide +kernel) rfl (by decide +kernel) (Nat.le_of_ble_eq_true rfl) (by decide +kernel) hcat hr hC,
  fun l1 l2 l3 l4 l5 x S h => zD_op (ins := .aload_n 0) (len := 1) (c := (39, [some (.ref x), l1, l2, l3, l4, l5], (.ref x :: S), h)) (by decide +kernel) rfl rfl rfl rfl,
  fun l0 l1 l3 l4 l5 x S h => zD_op (ins := .iload_n 2) (len := 1) (c := (40, [l0, l1, some (.int x), l3, l4, l5], (.int x :: S), h)) (by decide +kernel) rfl rfl rfl rfl,
  fun l0 l1 l2 l3 l4 x S h => zD_op (ins := .iload 5) (len := 2) (c := (42, [l0, l1, l2, l3, l4, some (.int x)], (.int x :: S), h)) (by decide +kernel) rfl rfl rfl rfl,
  fun l0 l1 l2 l3 l4 l5 p0 p1 a r h hcat hr hC => zD_callv (i := 159) (y := 37) (n := 2) (as := [.int p0, .int p1]) (ci := 9) (by decide +kernel) (by decide +kernel) rfl (by decide +kernel) (Nat.le_of_ble_eq_true rfl) (by decide +kernel) hcat hr hC,
  fun l0 l1 l2 l3 l4 l5 x y r h => zD_if (cnd := .ne) (off := 7) (by decide +kernel) (by decide) rfl,
  fun l0 l1 l2 l3 l4 l5 S h => zD_icst (n := 1) (by decide +kernel) (by decide +kernel),
  fun l0 l1 l2 l3 l4 l5 S h => zD_goto (off := 4) (by decide +kernel) (by decide),
  fun l0 l1 l2 l3 l4 l5 S h => zD_icst (n := 0) (by decide +kernel) (by decide +kernel),
  fun l0 l1 l2 l3 l4 l5 x y r h => zD_op (ins := .iadd) (len := 1) (c := (54, [l0, l1, l2, l3, l4, l5], (.int (x + y) :: r), h)) (by decide +kernel) rfl rfl rfl rfl,
  fun l0 l1 l2 l3 l4 l5 x r h => zD_st1 (k := 4) (ins := .istore 4) (len := 2) (by decide +kernel) rfl rfl rfl (by decide +kernel) rfl rfl,
  fun l0 l1 l2 l3 l4 x S h => zD_iinc (k := 5) (x := x) (c := (1 : Int32)) (n := 1) (by decide +kernel) (by decide +kernel) rfl (by decide +kernel) rfl,
  fun l0 l1 l2 l3 l4 l5 S h => zD_goto (off := (-40)) (by decide +kernel) (by decide),
  fun l0 l1 l2 l3 l5 x S h => zD_op (ins := .iload 4) (len := 2) (c := (64, [l0, l1, l2, l3, some (.int x), l5], (.int x :: S), h)) (by decide +kernel) rfl rfl rfl rfl,
  fun l0 l1 l2 l3 l4 l5 v h => zD_ireti (by decide +kernel) rfl⟩
set_option maxRecDepth 100000 in
theorem E_X10_agree_h19 : (∀ (l0 l1 l2 l3 l4 : Option Value) (x : Int32) (S : List Value) (h : zH), zD 148 19 [l0, l1, l2, l3, l4, some (.int x)] S h = zD 148 21 [l0, l1, l2, l3, l4, some (.int x)] (.int x :: S) h) :=
  fun l0 l1 l2 l3 l4 x S h => zD_op (ins := .iload 5) (len := 2) (c := (21, [l0, l1, l2, l3, l4, some (.int x)], (.int x :: S), h)) (by decide +kernel) rfl rfl rfl rfl
set_option maxRecDepth 100000 in
theorem I_X10_agree : (∀ (a : Nat) (p0 : Int32) (p1 : Int32) (h : zH), zC 148 [.ref a, .int p0, .int p1] h = zD 148 0 [some (.ref a), some (.int p0), some (.int p1), none, none, none] [] h) :=
  fun a p0 p1 h => zC_def rfl
set_option maxRecDepth 100000 in
theorem E_X10_near : (∀ (l1 l2 l3 l4 l5 l6 l7 l8 l9 : Option Value) (x : Nat) (S : List Value) (h : zH), zD 149 0 [some (.ref x), l1, l2, l3, l4, l5, l6, l7, l8, l9] S h = zD 149 1 [some (.ref x), l1, l2, l3, l4, l5, l6, l7, l8, l9] (.ref x :: S) h) ∧
  (∀ (l0 l2 l3 l4 l5 l6 l7 l8 l9 : Option Value) (x : Int32) (S : List Value) (h : zH), zD 149 1 [l0, some (.int x), l2, l3, l4, l5, l6, l7, l8, l9] S h = zD 149 2 [l0, some (.int x), l2, l3, l4, l5, l6, l7, l8, l9] (.int x :: S) h) ∧
  (∀ (l0 l1 l3 l4 l5 l6 l7 l8 l9 : Option Value) (x : Int32) (S : List Value) (h : zH), zD 149 2 [l0, l1, some (.int x), l3, l4, l5, l6, l7, l8, l9] S h = zD 149 3 [l0, l1, some (.int x), l3, l4, l5, l6, l7, l8, l9] (.int x :: S) h) ∧
  (∀ (l0 l1 l2 l3 l4 l5 l6 l7 l8 l9 : Option Value) (p0 : Int32) (p1 : Int32) (a : Nat) (r : List Value) (h : zH) (hcat : zcat r ≤ 8) (hr : zis (h.2.2 a) 9 = true) (hC : (zC 125 (.ref a :: [.int p0, .int p1]) h).isSome = true), zD 149 3 [l0, l1, l2, l3, l4, l5, l6, l7, l8, l9] (.int p1 :: .int p0 :: .ref a :: r) h = zD 149 6 [l0, l1, l2, l3, l4, l5, l6, l7, l8, l9] (zgv (zC 125 (.ref a :: [.int p0, .int p1]) h) ++ r) (zgh h (zC 125 (.ref a :: [.int p0, .int p1]) h))) ∧
  (∀ (l0 l1 l2 l3 l4 l5 l6 l7 l8 l9 : Option Value) (x : Int32) (r : List Value) (h : zH), zD 149 6 [l0, l1, l2, l3, l4, l5, l6, l7, l8, l9] (.int x :: r) h = zD 149 7 [l0, l1, zclr l2, some (.int x), l4, l5, l6, l7, l8, l9] r h) ∧
  (∀ (l0 l1 l2 l4 l5 l6 l7 l8 l9 : Option Value) (x : Int32) (S : List Value) (h : zH), zD 149 7 [l0, l1, l2, some (.int x), l4, l5, l6, l7, l8, l9] S h = zD 149 8 [l0, l1, l2, some (.int x), l4, l5, l6, l7, l8, l9] (.int x :: S) h) ∧
  (∀ (l0 l1 l2 l3 l4 l5 l6 l7 l8 l9 : Option Value) (x : Int32) (r : List Value) (h : zH), zD 149 8 [l0, l1, l2, l3, l4, l5, l6, l7, l8, l9] (.int x :: r) h = if x = 0 then zD 149 13 [l0, l1, l2, l3, l4, l5, l6, l7, l8, l9] r h else zD 149 11 [l0, l1, l2, l3, l4, l5, l6, l7, l8, l9] r h) ∧
  (∀ (l0 l1 l2 l4 l5 l6 l7 l8 l9 : Option Value) (x : Int32) (S : List Value) (h : zH), zD 149 11 [l0, l1, l2, some (.int x), l4, l5, l6, l7, l8, l9] S h = zD 149 12 [l0, l1, l2, some (.int x), l4, l5, l6, l7, l8, l9] (.int x :: S) h) ∧
  (∀ (l0 l1 l2 l3 l4 l5 l6 l7 l8 l9 : Option Value) (v : Int32) (h : zH), zD 149 12 [l0, l1, l2, l3, l4, l5, l6, l7, l8, l9] [.int v] h = some (some (.int v), h)) ∧
  (∀ (l1 l2 l3 l4 l5 l6 l7 l8 l9 : Option Value) (x : Nat) (S : List Value) (h : zH), zD 149 13 [some (.ref x), l1, l2, l3, l4, l5, l6, l7, l8, l9] S h = zD 149 14 [some (.ref x), l1, l2, l3, l4, l5, l6, l7, l8, l9] (.ref x :: S) h) ∧
  (∀ (l0 l2 l3 l4 l5 l6 l7 l8 l9 : Option Value) (x : Int32) (S : List Value) (h : zH), zD 149 14 [l0, some (.int x), l2, l3, l4, l5, l6, l7, l8, l9] S h = zD 149 15 [l0, some (.int x), l2, l3, l4, l5, l6, l7, l8, l9] (.int x :: S) h) ∧
  (∀ (l0 l1 l2 l3 l4 l5 l6 l7 l8 l9 : Option Value) (p0 : Int32) (a : Nat) (r : List Value) (h : zH) (hcat : zcat r ≤ 8) (hr : zis (h.2.2 a) 9 = true) (hC : (zC 36 (.ref a :: [.int p0]) h).isSome = true), zD 149 15 [l0, l1, l2, l3, l4, l5, l6, l7, l8, l9] (.int p0 :: .ref a :: r) h = zD 149 18 [l0, l1, l2, l3, l4, l5, l6, l7, l8, l9] (zgv (zC 36 (.ref a :: [.int p0]) h) ++ r) (zgh h (zC 36 (.ref a :: [.int p0]) h))) ∧
  (∀ (l0 l1 l2 l3 l4 l5 l6 l7 l8 l9 : Option Value) (x : Int32) (r : List Value) (h : zH), zD 149 18 [l0, l1, l2, l3, l4, l5, l6, l7, l8, l9] (.int x :: r) h = zD 149 20 [l0, l1, l2, zclr l3, some (.int x), l5, l6, l7, l8, l9] r h) ∧
  (∀ (l0 l1 l2 l3 l4 l5 l6 l7 l8 l9 : Option Value) (S : List Value) (h : zH), zD 149 20 [l0, l1, l2, l3, l4, l5, l6, l7, l8, l9] S h = zD 149 21 [l0, l1, l2, l3, l4, l5, l6, l7, l8, l9] (.int (0 : Int32) :: S) h) ∧
  (∀ (l0 l1 l2 l3 l4 l5 l6 l7 l8 l9 : Option Value) (x : Int32) (r : List Value) (h : zH), zD 149 21 [l0, l1, l2, l3, l4, l5, l6, l7, l8, l9] (.int x :: r) h = zD 149 23 [l0, l1, l2, l3, zclr l4, some (.int x), l6, l7, l8, l9] r h) ∧
  (∀ (l0 l1 l2 l3 l4 l5 l6 l7 l8 l9 : Option Value) (S : List Value) (h : zH), zD 149 23 [l0, l1, l2, l3, l4, l5, l6, l7, l8, l9] S h = zD 149 24 [l0, l1, l2, l3, l4, l5, l6, l7, l8, l9] (.int (0 : Int32) :: S) h) ∧
  (∀ (l0 l1 l2 l3 l4 l5 l6 l7 l8 l9 : Option Value) (x : Int32) (r : List Value) (h : zH), zD 149 24 [l0, l1, l2, l3, l4, l5, l6, l7, l8, l9] (.int x :: r) h = zD 149 26 [l0, l1, l2, l3, l4, zclr l5, some (.int x), l7, l8, l9] r h) ∧
  (∀ (l0 l1 l2 l3 l4 l5 l6 l7 l8 l9 : Option Value) (S : List Value) (h : zH), zD 149 28 [l0, l1, l2, l3, l4, l5, l6, l7, l8, l9] S h = zD 149 29 [l0, l1, l2, l3, l4, l5, l6, l7, l8, l9] (.int (2 : Int32) :: S) h) ∧
  (∀ (l0 l1 l2 l3 l4 l5 l6 l7 l8 l9 : Option Value) (x y : Int32) (r : List Value) (h : zH), zD 149 29 [l0, l1, l2, l3, l4, l5, l6, l7, l8, l9] (.int y :: .int x :: r) h = if y ≤ x then zD 149 171 [l0, l1, l2, l3, l4, l5, l6, l7, l8, l9] r h else zD 149 32 [l0, l1, l2, l3, l4, l5, l6, l7, l8, l9] r h) ∧
  (∀ (l1 l2 l3 l4 l5 l6 l7 l8 l9 : Option Value) (x : Nat) (S : List Value) (h : zH), zD 149 32 [some (.ref x), l1, l2, l3, l4, l5, l6, l7, l8, l9] S h = zD 149 33 [some (.ref x), l1, l2, l3, l4, l5, l6, l7, l8, l9] (.ref x :: S) h) ∧
  (∀ (l0 l1 l2 l3 l4 l5 l7 l8 l9 : Option Value) (x : Int32) (S : List Value) (h : zH), zD 149 33 [l0, l1, l2, l3, l4, l5, some (.int x), l7, l8, l9] S h = zD 149 35 [l0, l1, l2, l3, l4, l5, some (.int x), l7, l8, l9] (.int x :: S) h) ∧
  (∀ (l0 l1 l2 l3 l4 l5 l6 l7 l8 l9 : Option Value) (x : Int32) (r : List Value) (h : zH), zD 149 35 [l0, l1, l2, l3, l4, l5, l6, l7, l8, l9] (.int x :: r) h = if ¬ x = 0 then zD 149 42 [l0, l1, l2, l3, l4, l5, l6, l7, l8, l9] r h else zD 149 38 [l0, l1, l2, l3, l4, l5, l6, l7, l8, l9] r h) ∧
  (∀ (l0 l2 l3 l4 l5 l6 l7 l8 l9 : Option Value) (x : Int32) (S : List Value) (h : zH), zD 149 38 [l0, some (.int x), l2, l3, l4, l5, l6, l7, l8, l9] S h = zD 149 39 [l0, some (.int x), l2, l3, l4, l5, l6, l7, l8, l9] (.int x :: S) h) ∧
  (∀ (l0 l1 l2 l3 l4 l5 l6 l7 l8 l9 : Option Value) (S : List Value) (h : zH), zD 149 39 [l0, l1, l2, l3, l4, l5, l6, l7, l8, l9] S h = zD 149 43 [l0, l1, l2, l3, l4, l5, l6, l7, l8, l9] S h) ∧
  (∀ (l0 l1 l3 l4 l5 l6 l7 l8 l9 : Option Value) (x : Int32) (S : List Value) (h : zH), zD 149 42 [l0, l1, some (.int x), l3, l4, l5, l6, l7, l8, l9] S h = zD 149 43 [l0, l1, some (.int x), l3, l4, l5, l6, l7, l8, l9] (.int x :: S) h) ∧
  (∀ (l0 l1 l2 l3 l4 l5 l6 l7 l8 l9 : Option Value) (p0 : Int32) (a : Nat) (r : List Value) (h : zH) (hcat : zcat r ≤ 8) (hr : zis (h.2.2 a) 9 = true) (hC : (zC 28 (.ref a :: [.int p0]) h).isSome = true), zD 149 43 [l0, l1, l2, l3, l4, l5, l6, l7, l8, l9] (.int p0 :: .ref a :: r) h = zD 149 46 [l0, l1, l2, l3, l4, l5, l6, l7, l8, l9] (zgv (zC 28 (.ref a :: [.int p0]) h) ++ r) (zgh h (zC 28 (.ref a :: [.int p0]) h))) ∧
  (∀ (l0 l1 l2 l3 l4 l5 l6 l7 l8 l9 : Option Value) (S : List Value) (h : zH), zD 149 46 [l0, l1, l2, l3, l4, l5, l6, l7, l8, l9] S h = zD 149 47 [l0, l1, l2, l3, l4, l5, l6, l7, l8, l9] (.int (1 : Int32) :: S) h) ∧
  (∀ (l0 l1 l2 l3 l4 l5 l6 l7 l8 l9 : Option Value) (x : Int32) (r : List Value) (h : zH), zD 149 47 [l0, l1, l2, l3, l4, l5, l6, l7, l8, l9] (.int x :: r) h = zD 149 49 [l0, l1, l2, l3, l4, l5, zclr l6, some (.int x), l8, l9] r h) ∧
  (∀ (l0 l1 l2 l3 l5 l6 l7 l8 l9 : Option Value) (x : Int32) (S : List Value) (h : zH), zD 149 51 [l0, l1, l2, l3, some (.int x), l5, l6, l7, l8, l9] S h = zD 149 53 [l0, l1, l2, l3, some (.int x), l5, l6, l7, l8, l9] (.int x :: S) h) ∧
  (∀ (l0 l1 l2 l3 l4 l5 l6 l7 l8 l9 : Option Value) (x y : Int32) (r : List Value) (h : zH), zD 149 53 [l0, l1, l2, l3, l4, l5, l6, l7, l8, l9] (.int y :: .int x :: r) h = if y < x then zD 149 165 [l0, l1, l2, l3, l4, l5, l6, l7, l8, l9] r h else zD 149 56 [l0, l1, l2, l3, l4, l5, l6, l7, l8, l9] r h) ∧
  (∀ (l0 l1 l2 l3 l4 l5 l6 l8 l9 : Option Value) (x : Int32) (S : List Value) (h : zH), zD 149 56 [l0, l1, l2, l3, l4, l5, l6, some (.int x), l8, l9] S h = zD 149 58 [l0, l1, l2, l3, l4, l5, l6, some (.int x), l8, l9] (.int x :: S) h) ∧
  (∀ (l0 l1 l2 l3 l4 l5 l6 l7 l8 l9 : Option Value) (S : List Value) (h : zH), zD 149 58 [l0, l1, l2, l3, l4, l5, l6, l7, l8, l9] S h = zD 149 59 [l0, l1, l2, l3, l4, l5, l6, l7, l8, l9] (.int (1 : Int32) :: S) h) ∧
  (∀ (l0 l1 l2 l3 l4 l5 l6 l7 l8 l9 : Option Value) (x y : Int32) (r : List Value) (h : zH), zD 149 59 [l0, l1, l2, l3, l4, l5, l6, l7, l8, l9] (.int y :: .int x :: r) h = zD 149 60 [l0, l1, l2, l3, l4, l5, l6, l7, l8, l9] (.int (x + y) :: r) h) ∧
  (∀ (l0 l1 l2 l3 l4 l5 l6 l7 l8 l9 : Option Value) (x : Int32) (r : List Value) (h : zH), zD 149 60 [l0, l1, l2, l3, l4, l5, l6, l7, l8, l9] (.int x :: r) h = zD 149 62 [l0, l1, l2, l3, l4, l5, l6, zclr l7, some (.int x), l9] r h) ∧
  (∀ (l0 l1 l2 l3 l5 l6 l7 l8 l9 : Option Value) (x : Int32) (S : List Value) (h : zH), zD 149 64 [l0, l1, l2, l3, some (.int x), l5, l6, l7, l8, l9] S h = zD 149 66 [l0, l1, l2, l3, some (.int x), l5, l6, l7, l8, l9] (.int x :: S) h) ∧
  (∀ (l0 l1 l2 l3 l4 l5 l6 l7 l8 l9 : Option Value) (x y : Int32) (r : List Value) (h : zH), zD 149 66 [l0, l1, l2, l3, l4, l5, l6, l7, l8, l9] (.int y :: .int x :: r) h = if y < x then zD 149 159 [l0, l1, l2, l3, l4, l5, l6, l7, l8, l9] r h else zD 149 69 [l0, l1, l2, l3, l4, l5, l6, l7, l8, l9] r h) ∧
  (∀ (l1 l2 l3 l4 l5 l6 l7 l8 l9 : Option Value) (x : Nat) (S : List Value) (h : zH), zD 149 69 [some (.ref x), l1, l2, l3, l4, l5, l6, l7, l8, l9] S h = zD 149 70 [some (.ref x), l1, l2, l3, l4, l5, l6, l7, l8, l9] (.ref x :: S) h) ∧
  (∀ (l0 l1 l2 l3 l4 l5 l6 l8 l9 : Option Value) (x : Int32) (S : List Value) (h : zH), zD 149 70 [l0, l1, l2, l3, l4, l5, l6, some (.int x), l8, l9] S h = zD 149 72 [l0, l1, l2, l3, l4, l5, l6, some (.int x), l8, l9] (.int x :: S) h) ∧
  (∀ (l0 l1 l2 l3 l4 l5 l6 l7 l9 : Option Value) (x : Int32) (S : List Value) (h : zH), zD 149 72 [l0, l1, l2, l3, l4, l5, l6, l7, some (.int x), l9] S h = zD 149 74 [l0, l1, l2, l3, l4, l5, l6, l7, some (.int x), l9] (.int x :: S) h) ∧
  (∀ (l0 l1 l2 l3 l4 l5 l6 l7 l8 l9 : Option Value) (p0 : Int32) (p1 : Int32) (a : Nat) (r : List Value) (h : zH) (hcat : zcat r ≤ 8) (hr : zis (h.2.2 a) 9 = true) (hC : (zC 30 (.ref a :: [.int p0, .int p1]) h).isSome = true), zD 149 74 [l0, l1, l2, l3, l4, l5, l6, l7, l8, l9] (.int p1 :: .int p0 :: .ref a :: r) h = zD 149 77 [l0, l1, l2, l3, l4, l5, l6, l7, l8, l9] (zgv (zC 30 (.ref a :: [.int p0, .int p1]) h) ++ r) (zgh h (zC 30 (.ref a :: [.int p0, .int p1]) h))) ∧
  (∀ (l0 l1 l2 l3 l4 l5 l6 l7 l8 l9 : Option Value) (x : Int32) (r : List Value) (h : zH), zD 149 77 [l0, l1, l2, l3, l4, l5, l6, l7, l8, l9] (.int x :: r) h = if x = 0 then zD 149 84 [l0, l1, l2, l3, l4, l5, l6, l7, l8, l9] r h else zD 149 80 [l0, l1, l2, l3, l4, l5, l6, l7, l8, l9] r h) ∧
  (∀ (l0 l1 l2 l3 l4 l5 l6 l7 l8 l9 : Option Value) (S : List Value) (h : zH), zD 149 80 [l0, l1, l2, l3, l4, l5, l6, l7, l8, l9] S h = zD 149 81 [l0, l1, l2, l3, l4, l5, l6, l7, l8, l9] (.int (1 : Int32) :: S) h) ∧
  (∀ (l0 l1 l2 l3 l4 l5 l6 l7 l8 l9 : Option Value) (S : List Value) (h : zH), zD 149 81 [l0, l1, l2, l3, l4, l5, l6, l7, l8, l9] S h = zD 149 100 [l0, l1, l2, l3, l4, l5, l6, l7, l8, l9] S h) ∧
  (∀ (l1 l2 l3 l4 l5 l6 l7 l8 l9 : Option Value) (x : Nat) (S : List Value) (h : zH), zD 149 84 [some (.ref x), l1, l2, l3, l4, l5, l6, l7, l8, l9] S h = zD 149 85 [some (.ref x), l1, l2, l3, l4, l5, l6, l7, l8, l9] (.ref x :: S) h) ∧
  (∀ (l0 l1 l2 l3 l4 l5 l6 l7 l9 : Option Value) (x : Int32) (S : List Value) (h : zH), zD 149 85 [l0, l1, l2, l3, l4, l5, l6, l7, some (.int x), l9] S h = zD 149 87 [l0, l1, l2, l3, l4, l5, l6, l7, some (.int x), l9] (.int x :: S) h) ∧
  (∀ (l0 l1 l2 l3 l4 l5 l6 l8 l9 : Option Value) (x : Int32) (S : List Value) (h : zH), zD 149 87 [l0, l1, l2, l3, l4, l5, l6, some (.int x), l8, l9] S h = zD 149 89 [l0, l1, l2, l3, l4, l5, l6, some (.int x), l8, l9] (.int x :: S) h) ∧
  (∀ (l0 l1 l2 l3 l4 l5 l6 l7 l8 l9 : Option Value) (p0 : Int32) (p1 : Int32) (a : Nat) (r : List Value) (h : zH) (hcat : zcat r ≤ 8) (hr : zis (h.2.2 a) 9 = true) (hC : (zC 30 (.ref a :: [.int p0, .int p1]) h).isSome = true), zD 149 89 [l0, l1, l2, l3, l4, l5, l6, l7, l8, l9] (.int p1 :: .int p0 :: .ref a :: r) h = zD 149 92 [l0, l1, l2, l3, l4, l5, l6, l7, l8, l9] (zgv (zC 30 (.ref a :: [.int p0, .int p1]) h) ++ r) (zgh h (zC 30 (.ref a :: [.int p0, .int p1]) h))) ∧
  (∀ (l0 l1 l2 l3 l4 l5 l6 l7 l8 l9 : Option Value) (x : Int32) (r : List Value) (h : zH), zD 149 92 [l0, l1, l2, l3, l4, l5, l6, l7, l8, l9] (.int x :: r) h = if x = 0 then zD 149 99 [l0, l1, l2, l3, l4, l5, l6, l7, l8, l9] r h else zD 149 95 [l0, l1, l2, l3, l4, l5, l6, l7, l8, l9] r h) ∧
  (∀ (l0 l1 l2 l3 l4 l5 l6 l7 l8 l9 : Option Value) (S : List Value) (h : zH), zD 149 95 [l0, l1, l2, l3, l4, l5, l6, l7, l8, l9] S h = zD 149 96 [l0, l1, l2, l3, l4, l5, l6, l7, l8, l9] (.int (2 : Int32) :: S) h) ∧
  (∀ (l0 l1 l2 l3 l4 l5 l6 l7 l8 l9 : Option Value) (S : List Value) (h : zH), zD 149 96 [l0, l1, l2, l3, l4, l5, l6, l7, l8, l9] S h = zD 149 100 [l0, l1, l2, l3, l4, l5, l6, l7, l8, l9] S h) ∧
  (∀ (l0 l1 l2 l3 l4 l5 l6 l7 l8 l9 : Option Value) (S : List Value) (h : zH), zD 149 99 [l0, l1, l2, l3, l4, l5, l6, l7, l8, l9] S h = zD 149 100 [l0, l1, l2, l3, l4, l5, l6, l7, l8, l9] (.int (0 : Int32) :: S) h) ∧
  (∀ (l0 l1 l2 l3 l4 l5 l6 l7 l8 l9 : Option Value) (x : Int32) (r : List Value) (h : zH), zD 149 100 [l0, l1, l2, l3, l4, l5, l6, l7, l8, l9] (.int x :: r) h = zD 149 102 [l0, l1, l2, l3, l4, l5, l6, l7, zclr l8, some (.int x)] r h) ∧
  (∀ (l0 l1 l2 l3 l4 l5 l7 l8 l9 : Option Value) (x : Int32) (S : List Value) (h : zH), zD 149 102 [l0, l1, l2, l3, l4, l5, some (.int x), l7, l8, l9] S h = zD 149 104 [l0, l1, l2, l3, l4, l5, some (.int x), l7, l8, l9] (.int x :: S) h) ∧
  (∀ (l0 l1 l2 l3 l4 l5 l6 l7 l8 l9 : Option Value) (x : Int32) (r : List Value) (h : zH), zD 149 104 [l0, l1, l2, l3, l4, l5, l6, l7, l8, l9] (.int x :: r) h = if ¬ x = 0 then zD 149 125 [l0, l1, l2, l3, l4, l5, l6, l7, l8, l9] r h else zD 149 107 [l0, l1, l2, l3, l4, l5, l6, l7, l8, l9] r h) ∧
  (∀ (l1 l2 l3 l4 l5 l6 l7 l8 l9 : Option Value) (x : Nat) (S : List Value) (h : zH), zD 149 107 [some (.ref x), l1, l2, l3, l4, l5, l6, l7, l8, l9] S h = zD 149 108 [some (.ref x), l1, l2, l3, l4, l5, l6, l7, l8, l9] (.ref x :: S) h) ∧
  (∀ (l0 l1 l2 l3 l4 l5 l6 l7 l8 l9 : Option Value) (a : Nat) (r : List Value) (h : zH) (hx : zfok (h.2.2 a) 9 23 = true), zD 149 108 [l0, l1, l2, l3, l4, l5, l6, l7, l8, l9] (.ref a :: r) h = zD 149 111 [l0, l1, l2, l3, l4, l5, l6, l7, l8, l9] (zfv (h.2.2 a) 23 :: r) h) ∧
  (∀ (l0 l1 l2 l3 l4 l5 l6 l7 l8 l9 : Option Value) (S : List Value) (h : zH), zD 149 111 [l0, l1, l2, l3, l4, l5, l6, l7, l8, l9] S h = zD 149 113 [l0, l1, l2, l3, l4, l5, l6, l7, l8, l9] (.int (8 : Int32) :: S) h) ∧
  (∀ (l0 l1 l2 l3 l4 l5 l6 l8 l9 : Option Value) (x : Int32) (S : List Value) (h : zH), zD 149 113 [l0, l1, l2, l3, l4, l5, l6, some (.int x), l8, l9] S h = zD 149 115 [l0, l1, l2, l3, l4, l5, l6, some (.int x), l8, l9] (.int x :: S) h) ∧
  (∀ (l0 l1 l2 l3 l4 l5 l6 l7 l8 l9 : Option Value) (x y : Int32) (r : List Value) (h : zH), zD 149 115 [l0, l1, l2, l3, l4, l5, l6, l7, l8, l9] (.int y :: .int x :: r) h = zD 149 116 [l0, l1, l2, l3, l4, l5, l6, l7, l8, l9] (.int (x * y) :: r) h) ∧
  (∀ (l0 l1 l2 l3 l4 l5 l6 l7 l9 : Option Value) (x : Int32) (S : List Value) (h : zH), zD 149 116 [l0, l1, l2, l3, l4, l5, l6, l7, some (.int x), l9] S h = zD 149 118 [l0, l1, l2, l3, l4, l5, l6, l7, some (.int x), l9] (.int x :: S) h) ∧
  (∀ (l0 l1 l2 l3 l4 l5 l6 l7 l8 l9 : Option Value) (x y : Int32) (r : List Value) (h : zH), zD 149 118 [l0, l1, l2, l3, l4, l5, l6, l7, l8, l9] (.int y :: .int x :: r) h = zD 149 119 [l0, l1, l2, l3, l4, l5, l6, l7, l8, l9] (.int (x + y) :: r) h) ∧
  (∀ (l0 l1 l2 l3 l4 l5 l6 l7 l8 : Option Value) (x : Int32) (S : List Value) (h : zH), zD 149 119 [l0, l1, l2, l3, l4, l5, l6, l7, l8, some (.int x)] S h = zD 149 121 [l0, l1, l2, l3, l4, l5, l6, l7, l8, some (.int x)] (.int x :: S) h) ∧
  (∀ (l0 l1 l2 l3 l4 l5 l6 l7 l8 l9 : Option Value) (w i : Int32) (a : Nat) (r : List Value) (h : zH) (hx : zpok (h.2.2 a) i = true), zD 149 121 [l0, l1, l2, l3, l4, l5, l6, l7, l8, l9] (.int w :: .int i :: .ref a :: r) h = zD 149 122 [l0, l1, l2, l3, l4, l5, l6, l7, l8, l9] r (zw h a (zis' (h.2.2 a) i w))) ∧
  (∀ (l0 l1 l2 l3 l4 l5 l6 l7 l8 l9 : Option Value) (S : List Value) (h : zH), zD 149 122 [l0, l1, l2, l3, l4, l5, l6, l7, l8, l9] S h = zD 149 153 [l0, l1, l2, l3, l4, l5, l6, l7, l8, l9] S h) ∧
  (∀ (l0 l1 l2 l3 l4 l6 l7 l8 l9 : Option Value) (x : Int32) (S : List Value) (h : zH), zD 149 125 [l0, l1, l2, l3, l4, some (.int x), l6, l7, l8, l9] S h = zD 149 127 [l0, l1, l2, l3, l4, some (.int x), l6, l7, l8, l9] (.int x :: S) h) ∧
  (∀ (l1 l2 l3 l4 l5 l6 l7 l8 l9 : Option Value) (x : Nat) (S : List Value) (h : zH), zD 149 127 [some (.ref x), l1, l2, l3, l4, l5, l6, l7, l8, l9] S h = zD 149 128 [some (.ref x), l1, l2, l3, l4, l5, l6, l7, l8, l9] (.ref x :: S) h) ∧
  (∀ (l0 l1 l2 l3 l4 l5 l6 l7 l8 l9 : Option Value) (a : Nat) (r : List Value) (h : zH) (hx : zfok (h.2.2 a) 9 23 = true), zD 149 128 [l0, l1, l2, l3, l4, l5, l6, l7, l8, l9] (.ref a :: r) h = zD 149 131 [l0, l1, l2, l3, l4, l5, l6, l7, l8, l9] (zfv (h.2.2 a) 23 :: r) h) ∧
  (∀ (l0 l1 l2 l3 l4 l5 l6 l7 l8 l9 : Option Value) (S : List Value) (h : zH), zD 149 131 [l0, l1, l2, l3, l4, l5, l6, l7, l8, l9] S h = zD 149 133 [l0, l1, l2, l3, l4, l5, l6, l7, l8, l9] (.int (8 : Int32) :: S) h) ∧
  (∀ (l0 l1 l2 l3 l4 l5 l6 l8 l9 : Option Value) (x : Int32) (S : List Value) (h : zH), zD 149 133 [l0, l1, l2, l3, l4, l5, l6, some (.int x), l8, l9] S h = zD 149 135 [l0, l1, l2, l3, l4, l5, l6, some (.int x), l8, l9] (.int x :: S) h) ∧
  (∀ (l0 l1 l2 l3 l4 l5 l6 l7 l8 l9 : Option Value) (x y : Int32) (r : List Value) (h : zH), zD 149 135 [l0, l1, l2, l3, l4, l5, l6, l7, l8, l9] (.int y :: .int x :: r) h = zD 149 136 [l0, l1, l2, l3, l4, l5, l6, l7, l8, l9] (.int (x * y) :: r) h) ∧
  (∀ (l0 l1 l2 l3 l4 l5 l6 l7 l9 : Option Value) (x : Int32) (S : List Value) (h : zH), zD 149 136 [l0, l1, l2, l3, l4, l5, l6, l7, some (.int x), l9] S h = zD 149 138 [l0, l1, l2, l3, l4, l5, l6, l7, some (.int x), l9] (.int x :: S) h) ∧
  (∀ (l0 l1 l2 l3 l4 l5 l6 l7 l8 l9 : Option Value) (x y : Int32) (r : List Value) (h : zH), zD 149 138 [l0, l1, l2, l3, l4, l5, l6, l7, l8, l9] (.int y :: .int x :: r) h = zD 149 139 [l0, l1, l2, l3, l4, l5, l6, l7, l8, l9] (.int (x + y) :: r) h) ∧
  (∀ (l0 l1 l2 l3 l4 l5 l6 l7 l8 l9 : Option Value) (i : Int32) (a : Nat) (r : List Value) (h : zH) (hx : ziok a (h.2.2 a) i = true), zD 149 139 [l0, l1, l2, l3, l4, l5, l6, l7, l8, l9] (.int i :: .ref a :: r) h = zD 149 140 [l0, l1, l2, l3, l4, l5, l6, l7, l8, l9] (.int (ziv (h.2.2 a) i) :: r) h) ∧
  (∀ (l0 l1 l2 l3 l4 l5 l6 l7 l8 : Option Value) (x : Int32) (S : List Value) (h : zH), zD 149 140 [l0, l1, l2, l3, l4, l5, l6, l7, l8, some (.int x)] S h = zD 149 142 [l0, l1, l2, l3, l4, l5, l6, l7, l8, some (.int x)] (.int x :: S) h) ∧
  (∀ (l0 l1 l2 l3 l4 l5 l6 l7 l8 l9 : Option Value) (x y : Int32) (r : List Value) (h : zH), zD 149 142 [l0, l1, l2, l3, l4, l5, l6, l7, l8, l9] (.int y :: .int x :: r) h = if ¬ x = y then zD 149 149 [l0, l1, l2, l3, l4, l5, l6, l7, l8, l9] r h else zD 149 145 [l0, l1, l2, l3, l4, l5, l6, l7, l8, l9] r h) ∧
  (∀ (l0 l1 l2 l3 l4 l5 l6 l7 l8 l9 : Option Value) (S : List Value) (h : zH), zD 149 145 [l0, l1, l2, l3, l4, l5, l6, l7, l8, l9] S h = zD 149 146 [l0, l1, l2, l3, l4, l5, l6, l7, l8, l9] (.int (1 : Int32) :: S) h) ∧
  (∀ (l0 l1 l2 l3 l4 l5 l6 l7 l8 l9 : Option Value) (S : List Value) (h : zH), zD 149 146 [l0, l1, l2, l3, l4, l5, l6, l7, l8, l9] S h = zD 149 150 [l0, l1, l2, l3, l4, l5, l6, l7, l8, l9] S h) ∧
  (∀ (l0 l1 l2 l3 l4 l5 l6 l7 l8 l9 : Option Value) (S : List Value) (h : zH), zD 149 149 [l0, l1, l2, l3, l4, l5, l6, l7, l8, l9] S h = zD 149 150 [l0, l1, l2, l3, l4, l5, l6, l7, l8, l9] (.int (0 : Int32) :: S) h) ∧
  (∀ (l0 l1 l2 l3 l4 l5 l6 l7 l8 l9 : Option Value) (x y : Int32) (r : List Value) (h : zH), zD 149 150 [l0, l1, l2, l3, l4, l5, l6, l7, l8, l9] (.int y :: .int x :: r) h = zD 149 151 [l0, l1, l2, l3, l4, l5, l6, l7, l8, l9] (.int (x + y) :: r) h) ∧
  (∀ (l0 l1 l2 l3 l4 l5 l6 l7 l8 l9 : Option Value) (x : Int32) (r : List Value) (h : zH), zD 149 151 [l0, l1, l2, l3, l4, l5, l6, l7, l8, l9] (.int x :: r) h = zD 149 153 [l0, l1, l2, l3, zclr l4, some (.int x), l6, l7, l8, l9] r h) ∧
  (∀ (l0 l1 l2 l3 l4 l5 l6 l7 l9 : Option Value) (x : Int32) (S : List Value) (h : zH), zD 149 153 [l0, l1, l2, l3, l4, l5, l6, l7, some (.int x), l9] S h = zD 149 156 [l0, l1, l2, l3, l4, l5, l6, zclr l7, some (.int (x + (1 : Int32))), l9] S h) ∧
  (∀ (l0 l1 l2 l3 l4 l5 l6 l7 l8 l9 : Option Value) (S : List Value) (h : zH), zD 149 156 [l0, l1, l2, l3, l4, l5, l6, l7, l8, l9] S h = zD 149 62 [l0, l1, l2, l3, l4, l5, l6, l7, l8, l9] S h) ∧
  (∀ (l0 l1 l2 l3 l4 l5 l6 l8 l9 : Option Value) (x : Int32) (S : List Value) (h : zH), zD 149 159 [l0, l1, l2, l3, l4, l5, l6, some (.int x), l8, l9] S h = zD 149 162 [l0, l1, l2, l3, l4, l5, zclr l6, some (.int (x + (1 : Int32))), l8, l9] S h) ∧
  (∀ (l0 l1 l2 l3 l4 l5 l6 l7 l8 l9 : Option Value) (S : List Value) (h : zH), zD 149 162 [l0, l1, l2, l3, l4, l5, l6, l7, l8, l9] S h = zD 149 49 [l0, l1, l2, l3, l4, l5, l6, l7, l8, l9] S h) ∧
  (∀ (l0 l1 l2 l3 l4 l5 l7 l8 l9 : Option Value) (x : Int32) (S : List Value) (h : zH), zD 149 165 [l0, l1, l2, l3, l4, l5, some (.int x), l7, l8, l9] S h = zD 149 168 [l0, l1, l2, l3, l4, zclr l5, some (.int (x + (1 : Int32))), l7, l8, l9] S h) ∧
  (∀ (l0 l1 l2 l3 l4 l5 l6 l7 l8 l9 : Option Value) (S : List Value) (h : zH), zD 149 168 [l0, l1, l2, l3, l4, l5, l6, l7, l8, l9] S h = zD 149 26 [l0, l1, l2, l3, l4, l5, l6, l7, l8, l9] S h) ∧
  (∀ (l0 l1 l2 l3 l4 l6 l7 l8 l9 : Option Value) (x : Int32) (S : List Value) (h : zH), zD 149 171 [l0, l1, l2, l3, l4, some (.int x), l6, l7, l8, l9] S h = zD 149 173 [l0, l1, l2, l3, l4, some (.int x), l6, l7, l8, l9] (.int x :: S) h) ∧
  (∀ (l0 l1 l2 l3 l4 l5 l6 l7 l8 l9 : Option Value) (v : Int32) (h : zH), zD 149 173 [l0, l1, l2, l3, l4, l5, l6, l7, l8, l9] [.int v] h = some (some (.int v), h)) :=
  ⟨fun l1 l2 l3 l4 l5 l6 l7 l8 l9 x S h => zD_op (ins := .aload_n 0) (len := 1) (c := (1, [some (.ref x), l1, l2, l3, l4, l5, l6, l7, l8, l9], (.ref x :: S), h)) (by decide +kernel) rfl rfl rfl rfl,
  fun l0 l2 l3 l4 l5 l6 l7 l8 l9 x S h => zD_op (ins := .iload_n 1) (len := 1) (c := (2, [l0, some (.int x), l2, l3, l4, l5, l6, l7, l8, l9], (.int x :: S), h)) (by decide +kernel) rfl rfl rfl rfl,
  fun l0 l1 l3 l4 l5 l6 l7 l8 l9 x S h => zD_op (ins := .iload_n 2) (len := 1) (c := (3, [l0, l1, some (.int x), l3, l4, l5, l6, l7, l8, l9], (.int x :: S), h)) (by decide +kernel) rfl rfl rfl rfl,
  fun l0 l1 l2 l3 l4 l5 l6 l7 l8 l9 p0 p1 a r h hcat hr hC => zD_callv (i := 156) (y := 125) (n := 2) (as := [.int p0, .int p1]) (ci := 9) (by decide +kernel) (by decide +kernel) rfl (by decide +kernel) (Nat.le_of_ble_eq_true rfl) (by decide +kernel) hcat hr hC,
  fun l0 l1 l2 l3 l4 l5 l6 l7 l8 l9 x r h => zD_st1 (k := 3) (ins := .istore_n 3) (len := 1) (by decide +kernel) rfl rfl rfl (by decide +kernel) rfl rfl,
  fun l0 l1 l2 l4 l5 l6 l7 l8 l9 x S h => zD_op (ins := .iload_n 3) (len := 1) (c := (8, [l0, l1, l2, some (.int x), l4, l5, l6, l7, l8, l9], (.int x :: S), h)) (by decide +kernel) rfl rfl rfl rfl,
  fun l0 l1 l2 l3 l4 l5 l6 l7 l8 l9 x r h => zD_if0 (cnd := .eq) (off := 5) (by decide +kernel) (by decide) rfl,
  fun l0 l1 l2 l4 l5 l6 l7 l8 l9 x S h => zD_op (ins := .iload_n 3) (len := 1) (c := (12, [l0, l1, l2, some (.int x), l4, l5, l6, l7, l8, l9], (.int x :: S), h)) (by decide +kernel) rfl rfl rfl rfl,
  fun l0 l1 l2 l3 l4 l5 l6 l7 l8 l9 v h => zD_ireti (by decide +kernel) rfl,
  fun l1 l2 l3 l4 l5 l6 l7 l8 l9 x S h => zD_op (ins := .aload_n 0) (len := 1) (c := (14, [some (.ref x), l1, l2, l3, l4, l5, l6, l7, l8, l9], (.ref x :: S), h)) (by decide +kernel) rfl rfl rfl rfl,
  fun l0 l2 l3 l4 l5 l6 l7 l8 l9 x S h => zD_op (ins := .iload_n 1) (len := 1) (c := (15, [l0, some (.int x), l2, l3, l4, l5, l6, l7, l8, l9], (.int x :: S), h)) (by decide +kernel) rfl rfl rfl rfl,
  fun l0 l1 l2 l3 l4 l5 l6 l7 l8 l9 p0 a r h hcat hr hC => zD_callv (i := 153) (y := 36) (n := 1) (as := [.int p0]) (ci := 9) (by decide +kernel) (by decide +kernel) rfl (by decide +kernel) (Nat.le_of_ble_eq_true rfl) (by decide +kernel) hcat hr hC,
  fun l0 l1 l2 l3 l4 l5 l6 l7 l8 l9 x r h => zD_st1 (k := 4) (ins := .istore 4) (len := 2) (by decide +kernel) rfl rfl rfl (by decide +kernel) rfl rfl,
  fun l0 l1 l2 l3 l4 l5 l6 l7 l8 l9 S h => zD_icst (n := 0) (by decide +kernel) (by decide +kernel),
  fun l0 l1 l2 l3 l4 l5 l6 l7 l8 l9 x r h => zD_st1 (k := 5) (ins := .istore 5) (len := 2) (by decide +kernel) rfl rfl rfl (by decide +kernel) rfl rfl,
  fun l0 l1 l2 l3 l4 l5 l6 l7 l8 l9 S h => zD_icst (n := 0) (by decide +kernel) (by decide +kernel),
  fun l0 l1 l2 l3 l4 l5 l6 l7 l8 l9 x r h => zD_st1 (k := 6) (ins := .istore 6) (len := 2) (by decide +kernel) rfl rfl rfl (by decide +kernel) rfl rfl,
  fun l0 l1 l2 l3 l4 l5 l6 l7 l8 l9 S h => zD_icst (n := 2) (by decide +kernel) (by decide +kernel),
  fun l0 l1 l2 l3 l4 l5 l6 l7 l8 l9 x y r h => zD_if (cnd := .ge) (off := 142) (by decide +kernel) (by decide) rfl,
  fun l1 l2 l3 l4 l5 l6 l7 l8 l9 x S h => zD_op (ins := .aload_n 0) (len := 1) (c := (33, [some (.ref x), l1, l2, l3, l4, l5, l6, l7, l8, l9], (.ref x :: S), h)) (by decide +kernel) rfl rfl rfl rfl,
  fun l0 l1 l2 l3 l4 l5 l7 l8 l9 x S h => zD_op (ins := .iload 6) (len := 2) (c := (35, [l0, l1, l2, l3, l4, l5, some (.int x), l7, l8, l9], (.int x :: S), h)) (by decide +kernel) rfl rfl rfl rfl,
  fun l0 l1 l2 l3 l4 l5 l6 l7 l8 l9 x r h => zD_if0 (cnd := .ne) (off := 7) (by decide +kernel) (by decide) rfl,
  fun l0 l2 l3 l4 l5 l6 l7 l8 l9 x S h => zD_op (ins := .iload_n 1) (len := 1) (c := (39, [l0, some (.int x), l2, l3, l4, l5, l6, l7, l8, l9], (.int x :: S), h)) (by decide +kernel) rfl rfl rfl rfl,
  fun l0 l1 l2 l3 l4 l5 l6 l7 l8 l9 S h => zD_goto (off := 4) (by decide +kernel) (by decide),
  fun l0 l1 l3 l4 l5 l6 l7 l8 l9 x S h => zD_op (ins := .iload_n 2) (len := 1) (c := (43, [l0, l1, some (.int x), l3, l4, l5, l6, l7, l8, l9], (.int x :: S), h)) (by decide +kernel) rfl rfl rfl rfl,
  fun l0 l1 l2 l3 l4 l5 l6 l7 l8 l9 p0 a r h hcat hr hC => zD_callv (i := 99) (y := 28) (n := 1) (as := [.int p0]) (ci := 9) (by decide +kernel) (by decide +kernel) rfl (by decide +kernel) (Nat.le_of_ble_eq_true rfl) (by decide +kernel) hcat hr hC,
  fun l0 l1 l2 l3 l4 l5 l6 l7 l8 l9 S h => zD_icst (n := 1) (by decide +kernel) (by decide +kernel),
  fun l0 l1 l2 l3 l4 l5 l6 l7 l8 l9 x r h => zD_st1 (k := 7) (ins := .istore 7) (len := 2) (by decide +kernel) rfl rfl rfl (by decide +kernel) rfl rfl,
  fun l0 l1 l2 l3 l5 l6 l7 l8 l9 x S h => zD_op (ins := .iload 4) (len := 2) (c := (53, [l0, l1, l2, l3, some (.int x), l5, l6, l7, l8, l9], (.int x :: S), h)) (by decide +kernel) rfl rfl rfl rfl,
  fun l0 l1 l2 l3 l4 l5 l6 l7 l8 l9 x y r h => zD_if (cnd := .gt) (off := 112) (by decide +kernel) (by decide) rfl,
  fun l0 l1 l2 l3 l4 l5 l6 l8 l9 x S h => zD_op (ins := .iload 7) (len := 2) (c := (58, [l0, l1, l2, l3, l4, l5, l6, some (.int x), l8, l9], (.int x :: S), h)) (by decide +kernel) rfl rfl rfl rfl,
  fun l0 l1 l2 l3 l4 l5 l6 l7 l8 l9 S h => zD_icst (n := 1) (by decide +kernel) (by decide +kernel),
  fun l0 l1 l2 l3 l4 l5 l6 l7 l8 l9 x y r h => zD_op (ins := .iadd) (len := 1) (c := (60, [l0, l1, l2, l3, l4, l5, l6, l7, l8, l9], (.int (x + y) :: r), h)) (by decide +kernel) rfl rfl rfl rfl,
  fun l0 l1 l2 l3 l4 l5 l6 l7 l8 l9 x r h => zD_st1 (k := 8) (ins := .istore 8) (len := 2) (by decide +kernel) rfl rfl rfl (by decide +kernel) rfl rfl,
  fun l0 l1 l2 l3 l5 l6 l7 l8 l9 x S h => zD_op (ins := .iload 4) (len := 2) (c := (66, [l0, l1, l2, l3, some (.int x), l5, l6, l7, l8, l9], (.int x :: S), h)) (by decide +kernel) rfl rfl rfl rfl,
  fun l0 l1 l2 l3 l4 l5 l6 l7 l8 l9 x y r h => zD_if (cnd := .gt) (off := 93) (by decide +kernel) (by decide) rfl,
  fun l1 l2 l3 l4 l5 l6 l7 l8 l9 x S h => zD_op (ins := .aload_n 0) (len := 1) (c := (70, [some (.ref x), l1, l2, l3, l4, l5, l6, l7, l8, l9], (.ref x :: S), h)) (by decide +kernel) rfl rfl rfl rfl,
  fun l0 l1 l2 l3 l4 l5 l6 l8 l9 x S h => zD_op (ins := .iload 7) (len := 2) (c := (72, [l0, l1, l2, l3, l4, l5, l6, some (.int x), l8, l9], (.int x :: S), h)) (by decide +kernel) rfl rfl rfl rfl,
  fun l0 l1 l2 l3 l4 l5 l6 l7 l9 x S h => zD_op (ins := .iload 8) (len := 2) (c := (74, [l0, l1, l2, l3, l4, l5, l6, l7, some (.int x), l9], (.int x :: S), h)) (by decide +kernel) rfl rfl rfl rfl,
  fun l0 l1 l2 l3 l4 l5 l6 l7 l8 l9 p0 p1 a r h hcat hr hC => zD_callv (i := 96) (y := 30) (n := 2) (as := [.int p0, .int p1]) (ci := 9) (by decide +kernel) (by decide +kernel) rfl (by decide +kernel) (Nat.le_of_ble_eq_true rfl) (by decide +kernel) hcat hr hC,
  fun l0 l1 l2 l3 l4 l5 l6 l7 l8 l9 x r h => zD_if0 (cnd := .eq) (off := 7) (by decide +kernel) (by decide) rfl,
  fun l0 l1 l2 l3 l4 l5 l6 l7 l8 l9 S h => zD_icst (n := 1) (by decide +kernel) (by decide +kernel),
  fun l0 l1 l2 l3 l4 l5 l6 l7 l8 l9 S h => zD_goto (off := 19) (by decide +kernel) (by decide),
  fun l1 l2 l3 l4 l5 l6 l7 l8 l9 x S h => zD_op (ins := .aload_n 0) (len := 1) (c := (85, [some (.ref x), l1, l2, l3, l4, l5, l6, l7, l8, l9], (.ref x :: S), h)) (by decide +kernel) rfl rfl rfl rfl,
  fun l0 l1 l2 l3 l4 l5 l6 l7 l9 x S h => zD_op (ins := .iload 8) (len := 2) (c := (87, [l0, l1, l2, l3, l4, l5, l6, l7, some (.int x), l9], (.int x :: S), h)) (by decide +kernel) rfl rfl rfl rfl,
  fun l0 l1 l2 l3 l4 l5 l6 l8 l9 x S h => zD_op (ins := .iload 7) (len := 2) (c := (89, [l0, l1, l2, l3, l4, l5, l6, some (.int x), l8, l9], (.int x :: S), h)) (by decide +kernel) rfl rfl rfl rfl,
  fun l0 l1 l2 l3 l4 l5 l6 l7 l8 l9 p0 p1 a r h hcat hr hC => zD_callv (i := 96) (y := 30) (n := 2) (as := [.int p0, .int p1]) (ci := 9) (by decide +kernel) (by decide +kernel) rfl (by decide +kernel) (Nat.le_of_ble_eq_true rfl) (by decide +kernel) hcat hr hC,
  fun l0 l1 l2 l3 l4 l5 l6 l7 l8 l9 x r h => zD_if0 (cnd := .eq) (off := 7) (by decide +kernel) (by decide) rfl,
  fun l0 l1 l2 l3 l4 l5 l6 l7 l8 l9 S h => zD_icst (n := 2) (by decide +kernel) (by decide +kernel),
  fun l0 l1 l2 l3 l4 l5 l6 l7 l8 l9 S h => zD_goto (off := 4) (by decide +kernel) (by decide),
  fun l0 l1 l2 l3 l4 l5 l6 l7 l8 l9 S h => zD_icst (n := 0) (by decide +kernel) (by decide +kernel),
  fun l0 l1 l2 l3 l4 l5 l6 l7 l8 l9 x r h => zD_st1 (k := 9) (ins := .istore 9) (len := 2) (by decide +kernel) rfl rfl rfl (by decide +kernel) rfl rfl,
  fun l0 l1 l2 l3 l4 l5 l7 l8 l9 x S h => zD_op (ins := .iload 6) (len := 2) (c := (104, [l0, l1, l2, l3, l4, l5, some (.int x), l7, l8, l9], (.int x :: S), h)) (by decide +kernel) rfl rfl rfl rfl,
  fun l0 l1 l2 l3 l4 l5 l6 l7 l8 l9 x r h => zD_if0 (cnd := .ne) (off := 21) (by decide +kernel) (by decide) rfl,
  fun l1 l2 l3 l4 l5 l6 l7 l8 l9 x S h => zD_op (ins := .aload_n 0) (len := 1) (c := (108, [some (.ref x), l1, l2, l3, l4, l5, l6, l7, l8, l9], (.ref x :: S), h)) (by decide +kernel) rfl rfl rfl rfl,
  fun l0 l1 l2 l3 l4 l5 l6 l7 l8 l9 a r h hx => zD_getf (i := 70) (ci := 9) (k := 23) (q := (734, 0)) (by decide +kernel) (by decide +kernel) hx,
  fun l0 l1 l2 l3 l4 l5 l6 l7 l8 l9 S h => zD_bip (n := 8) (by decide +kernel) (by decide +kernel),
  fun l0 l1 l2 l3 l4 l5 l6 l8 l9 x S h => zD_op (ins := .iload 7) (len := 2) (c := (115, [l0, l1, l2, l3, l4, l5, l6, some (.int x), l8, l9], (.int x :: S), h)) (by decide +kernel) rfl rfl rfl rfl,
  fun l0 l1 l2 l3 l4 l5 l6 l7 l8 l9 x y r h => zD_op (ins := .imul) (len := 1) (c := (116, [l0, l1, l2, l3, l4, l5, l6, l7, l8, l9], (.int (x * y) :: r), h)) (by decide +kernel) rfl rfl rfl rfl,
  fun l0 l1 l2 l3 l4 l5 l6 l7 l9 x S h => zD_op (ins := .iload 8) (len := 2) (c := (118, [l0, l1, l2, l3, l4, l5, l6, l7, some (.int x), l9], (.int x :: S), h)) (by decide +kernel) rfl rfl rfl rfl,
  fun l0 l1 l2 l3 l4 l5 l6 l7 l8 l9 x y r h => zD_op (ins := .iadd) (len := 1) (c := (119, [l0, l1, l2, l3, l4, l5, l6, l7, l8, l9], (.int (x + y) :: r), h)) (by decide +kernel) rfl rfl rfl rfl,
  fun l0 l1 l2 l3 l4 l5 l6 l7 l8 x S h => zD_op (ins := .iload 9) (len := 2) (c := (121, [l0, l1, l2, l3, l4, l5, l6, l7, l8, some (.int x)], (.int x :: S), h)) (by decide +kernel) rfl rfl rfl rfl,
  fun l0 l1 l2 l3 l4 l5 l6 l7 l8 l9 w i a r h hx => zD_iast (by decide +kernel) hx,
  fun l0 l1 l2 l3 l4 l5 l6 l7 l8 l9 S h => zD_goto (off := 31) (by decide +kernel) (by decide),
  fun l0 l1 l2 l3 l4 l6 l7 l8 l9 x S h => zD_op (ins := .iload 5) (len := 2) (c := (127, [l0, l1, l2, l3, l4, some (.int x), l6, l7, l8, l9], (.int x :: S), h)) (by decide +kernel) rfl rfl rfl rfl,
  fun l1 l2 l3 l4 l5 l6 l7 l8 l9 x S h => zD_op (ins := .aload_n 0) (len := 1) (c := (128, [some (.ref x), l1, l2, l3, l4, l5, l6, l7, l8, l9], (.ref x :: S), h)) (by decide +kernel) rfl rfl rfl rfl,
  fun l0 l1 l2 l3 l4 l5 l6 l7 l8 l9 a r h hx => zD_getf (i := 70) (ci := 9) (k := 23) (q := (734, 0)) (by decide +kernel) (by decide +kernel) hx,
  fun l0 l1 l2 l3 l4 l5 l6 l7 l8 l9 S h => zD_bip (n := 8) (by decide +kernel) (by decide +kernel),
  fun l0 l1 l2 l3 l4 l5 l6 l8 l9 x S h => zD_op (ins := .iload 7) (len := 2) (c := (135, [l0, l1, l2, l3, l4, l5, l6, some (.int x), l8, l9], (.int x :: S), h)) (by decide +kernel) rfl rfl rfl rfl,
  fun l0 l1 l2 l3 l4 l5 l6 l7 l8 l9 x y r h => zD_op (ins := .imul) (len := 1) (c := (136, [l0, l1, l2, l3, l4, l5, l6, l7, l8, l9], (.int (x * y) :: r), h)) (by decide +kernel) rfl rfl rfl rfl,
  fun l0 l1 l2 l3 l4 l5 l6 l7 l9 x S h => zD_op (ins := .iload 8) (len := 2) (c := (138, [l0, l1, l2, l3, l4, l5, l6, l7, some (.int x), l9], (.int x :: S), h)) (by decide +kernel) rfl rfl rfl rfl,
  fun l0 l1 l2 l3 l4 l5 l6 l7 l8 l9 x y r h => zD_op (ins := .iadd) (len := 1) (c := (139, [l0, l1, l2, l3, l4, l5, l6, l7, l8, l9], (.int (x + y) :: r), h)) (by decide +kernel) rfl rfl rfl rfl,
  fun l0 l1 l2 l3 l4 l5 l6 l7 l8 l9 i a r h hx => zD_iald (by decide +kernel) hx,
  fun l0 l1 l2 l3 l4 l5 l6 l7 l8 x S h => zD_op (ins := .iload 9) (len := 2) (c := (142, [l0, l1, l2, l3, l4, l5, l6, l7, l8, some (.int x)], (.int x :: S), h)) (by decide +kernel) rfl rfl rfl rfl,
  fun l0 l1 l2 l3 l4 l5 l6 l7 l8 l9 x y r h => zD_if (cnd := .ne) (off := 7) (by decide +kernel) (by decide) rfl,
  fun l0 l1 l2 l3 l4 l5 l6 l7 l8 l9 S h => zD_icst (n := 1) (by decide +kernel) (by decide +kernel),
  fun l0 l1 l2 l3 l4 l5 l6 l7 l8 l9 S h => zD_goto (off := 4) (by decide +kernel) (by decide),
  fun l0 l1 l2 l3 l4 l5 l6 l7 l8 l9 S h => zD_icst (n := 0) (by decide +kernel) (by decide +kernel),
  fun l0 l1 l2 l3 l4 l5 l6 l7 l8 l9 x y r h => zD_op (ins := .iadd) (len := 1) (c := (151, [l0, l1, l2, l3, l4, l5, l6, l7, l8, l9], (.int (x + y) :: r), h)) (by decide +kernel) rfl rfl rfl rfl,
  fun l0 l1 l2 l3 l4 l5 l6 l7 l8 l9 x r h => zD_st1 (k := 5) (ins := .istore 5) (len := 2) (by decide +kernel) rfl rfl rfl (by decide +kernel) rfl rfl,
  fun l0 l1 l2 l3 l4 l5 l6 l7 l9 x S h => zD_iinc (k := 8) (x := x) (c := (1 : Int32)) (n := 1) (by decide +kernel) (by decide +kernel) rfl (by decide +kernel) rfl,
  fun l0 l1 l2 l3 l4 l5 l6 l7 l8 l9 S h => zD_goto (off := (-94)) (by decide +kernel) (by decide),
  fun l0 l1 l2 l3 l4 l5 l6 l8 l9 x S h => zD_iinc (k := 7) (x := x) (c := (1 : Int32)) (n := 1) (by decide +kernel) (by decide +kernel) rfl (by decide +kernel) rfl,
  fun l0 l1 l2 l3 l4 l5 l6 l7 l8 l9 S h => zD_goto (off := (-113)) (by decide +kernel) (by decide),
  fun l0 l1 l2 l3 l4 l5 l7 l8 l9 x S h => zD_iinc (k := 6) (x := x) (c := (1 : Int32)) (n := 1) (by decide +kernel) (by decide +kernel) rfl (by decide +kernel) rfl,
  fun l0 l1 l2 l3 l4 l5 l6 l7 l8 l9 S h => zD_goto (off := (-142)) (by decide +kernel) (by decide),
  fun l0 l1 l2 l3 l4 l6 l7 l8 l9 x S h => zD_op (ins := .iload 5) (len := 2) (c := (173, [l0, l1, l2, l3, l4, some (.int x), l6, l7, l8, l9], (.int x :: S), h)) (by decide +kernel) rfl rfl rfl rfl,
  fun l0 l1 l2 l3 l4 l5 l6 l7 l8 l9 v h => zD_ireti (by decide +kernel) rfl⟩
set_option maxRecDepth 100000 in
theorem E_X10_near_h26 : (∀ (l0 l1 l2 l3 l4 l5 l7 l8 l9 : Option Value) (x : Int32) (S : List Value) (h : zH), zD 149 26 [l0, l1, l2, l3, l4, l5, some (.int x), l7, l8, l9] S h = zD 149 28 [l0, l1, l2, l3, l4, l5, some (.int x), l7, l8, l9] (.int x :: S) h) :=
  fun l0 l1 l2 l3 l4 l5 l7 l8 l9 x S h => zD_op (ins := .iload 6) (len := 2) (c := (28, [l0, l1, l2, l3, l4, l5, some (.int x), l7, l8, l9], (.int x :: S), h)) (by decide +kernel) rfl rfl rfl rfl
set_option maxRecDepth 100000 in
theorem E_X10_near_h49 : (∀ (l0 l1 l2 l3 l4 l5 l6 l8 l9 : Option Value) (x : Int32) (S : List Value) (h : zH), zD 149 49 [l0, l1, l2, l3, l4, l5, l6, some (.int x), l8, l9] S h = zD 149 51 [l0, l1, l2, l3, l4, l5, l6, some (.int x), l8, l9] (.int x :: S) h) :=
  fun l0 l1 l2 l3 l4 l5 l6 l8 l9 x S h => zD_op (ins := .iload 7) (len := 2) (c := (51, [l0, l1, l2, l3, l4, l5, l6, some (.int x), l8, l9], (.int x :: S), h)) (by decide +kernel) rfl rfl rfl rfl
set_option maxRecDepth 100000 in
theorem E_X10_near_h62 : (∀ (l0 l1 l2 l3 l4 l5 l6 l7 l9 : Option Value) (x : Int32) (S : List Value) (h : zH), zD 149 62 [l0, l1, l2, l3, l4, l5, l6, l7, some (.int x), l9] S h = zD 149 64 [l0, l1, l2, l3, l4, l5, l6, l7, some (.int x), l9] (.int x :: S) h) :=
  fun l0 l1 l2 l3 l4 l5 l6 l7 l9 x S h => zD_op (ins := .iload 8) (len := 2) (c := (64, [l0, l1, l2, l3, l4, l5, l6, l7, some (.int x), l9], (.int x :: S), h)) (by decide +kernel) rfl rfl rfl rfl
set_option maxRecDepth 100000 in
theorem I_X10_near : (∀ (a : Nat) (p0 : Int32) (p1 : Int32) (h : zH), zC 149 [.ref a, .int p0, .int p1] h = zD 149 0 [some (.ref a), some (.int p0), some (.int p1), none, none, none, none, none, none, none] [] h) :=
  fun a p0 p1 h => zC_def rfl
set_option maxRecDepth 100000 in
theorem E_X0_first : (∀ (l0 l1 l2 l3 l4 l5 l6 : Option Value) (S : List Value) (h : zH), zD 150 0 [l0, l1, l2, l3, l4, l5, l6] S h = zD 150 1 [l0, l1, l2, l3, l4, l5, l6] (.int (1 : Int32) :: S) h) ∧
  (∀ (l0 l1 l3 l4 l5 l6 : Option Value) (x : Int32) (S : List Value) (h : zH), zD 150 1 [l0, l1, some (.int x), l3, l4, l5, l6] S h = zD 150 2 [l0, l1, some (.int x), l3, l4, l5, l6] (.int x :: S) h) ∧
  (∀ (l0 l1 l2 l3 l4 l5 l6 : Option Value) (x y : Int32) (r : List Value) (h : zH), zD 150 2 [l0, l1, l2, l3, l4, l5, l6] (.int y :: .int x :: r) h = zD 150 3 [l0, l1, l2, l3, l4, l5, l6] (.int (x <<< (y &&& 31)) :: r) h) ∧
  (∀ (l0 l1 l2 l3 l4 l5 l6 : Option Value) (S : List Value) (h : zH), zD 150 3 [l0, l1, l2, l3, l4, l5, l6] S h = zD 150 4 [l0, l1, l2, l3, l4, l5, l6] (.int (1 : Int32) :: S) h) ∧
  (∀ (l0 l1 l2 l3 l4 l5 l6 : Option Value) (x y : Int32) (r : List Value) (h : zH), zD 150 4 [l0, l1, l2, l3, l4, l5, l6] (.int y :: .int x :: r) h = zD 150 5 [l0, l1, l2, l3, l4, l5, l6] (.int (x - y) :: r) h) ∧
  (∀ (l0 l1 l2 l3 l4 l5 l6 : Option Value) (x : Int32) (r : List Value) (h : zH), zD 150 5 [l0, l1, l2, l3, l4, l5, l6] (.int x :: r) h = zD 150 7 [l0, l1, l2, zclr l3, some (.int x), l5, l6] r h) ∧
  (∀ (l1 l2 l3 l4 l5 l6 : Option Value) (x : Nat) (S : List Value) (h : zH), zD 150 7 [some (.ref x), l1, l2, l3, l4, l5, l6] S h = zD 150 8 [some (.ref x), l1, l2, l3, l4, l5, l6] (.ref x :: S) h) ∧
  (∀ (l0 l1 l2 l3 l4 l5 l6 : Option Value) (a : Nat) (r : List Value) (h : zH) (hx : zfok (h.2.2 a) 0 0 = true), zD 150 8 [l0, l1, l2, l3, l4, l5, l6] (.ref a :: r) h = zD 150 11 [l0, l1, l2, l3, l4, l5, l6] (zfv (h.2.2 a) 0 :: r) h) ∧
  (∀ (l0 l1 l2 l3 l4 l5 l6 : Option Value) (S : List Value) (h : zH), zD 150 11 [l0, l1, l2, l3, l4, l5, l6] S h = zD 150 12 [l0, l1, l2, l3, l4, l5, l6] (.int (0 : Int32) :: S) h) ∧
  (∀ (l0 l1 l2 l3 l4 l5 l6 : Option Value) (i : Int32) (a : Nat) (r : List Value) (h : zH) (hx : zrok (h.2.2 a) i = true), zD 150 12 [l0, l1, l2, l3, l4, l5, l6] (.int i :: .ref a :: r) h = zD 150 13 [l0, l1, l2, l3, l4, l5, l6] (zrv' (h.2.2 a) i :: r) h) ∧
  (∀ (l0 l1 l2 l4 l5 l6 : Option Value) (x : Int32) (S : List Value) (h : zH), zD 150 13 [l0, l1, l2, some (.int x), l4, l5, l6] S h = zD 150 14 [l0, l1, l2, some (.int x), l4, l5, l6] (.int x :: S) h) ∧
  (∀ (l0 l1 l2 l3 l4 l5 l6 : Option Value) (p0 : Int32) (a : Nat) (r : List Value) (h : zH) (hcat : zcat r ≤ 8) (hr : zis (h.2.2 a) 7 = true) (hC : (zC 102 (.ref a :: [.int p0]) h).isSome = true), zD 150 14 [l0, l1, l2, l3, l4, l5, l6] (.int p0 :: .ref a :: r) h = zD 150 17 [l0, l1, l2, l3, l4, l5, l6] (zgv (zC 102 (.ref a :: [.int p0]) h) ++ r) (zgh h (zC 102 (.ref a :: [.int p0]) h))) ∧
  (∀ (l0 l1 l2 l3 l4 l5 l6 : Option Value) (S : List Value) (h : zH), zD 150 17 [l0, l1, l2, l3, l4, l5, l6] S h = zD 150 18 [l0, l1, l2, l3, l4, l5, l6] (.int (1 : Int32) :: S) h) ∧
  (∀ (l0 l1 l2 l3 l4 l5 l6 : Option Value) (x : Int32) (r : List Value) (h : zH), zD 150 18 [l0, l1, l2, l3, l4, l5, l6] (.int x :: r) h = zD 150 20 [l0, l1, l2, l3, zclr l4, some (.int x), l6] r h) ∧
  (∀ (l0 l1 l2 l3 l5 l6 : Option Value) (x : Int32) (S : List Value) (h : zH), zD 150 22 [l0, l1, l2, l3, some (.int x), l5, l6] S h = zD 150 24 [l0, l1, l2, l3, some (.int x), l5, l6] (.int x :: S) h) ∧
  (∀ (l0 l1 l2 l3 l4 l5 l6 : Option Value) (x y : Int32) (r : List Value) (h : zH), zD 150 24 [l0, l1, l2, l3, l4, l5, l6] (.int y :: .int x :: r) h = if y < x then zD 150 80 [l0, l1, l2, l3, l4, l5, l6] r h else zD 150 27 [l0, l1, l2, l3, l4, l5, l6] r h) ∧
  (∀ (l1 l2 l3 l4 l5 l6 : Option Value) (x : Nat) (S : List Value) (h : zH), zD 150 27 [some (.ref x), l1, l2, l3, l4, l5, l6] S h = zD 150 28 [some (.ref x), l1, l2, l3, l4, l5, l6] (.ref x :: S) h) ∧
  (∀ (l0 l1 l2 l3 l4 l5 l6 : Option Value) (a : Nat) (r : List Value) (h : zH) (hx : zfok (h.2.2 a) 0 0 = true), zD 150 28 [l0, l1, l2, l3, l4, l5, l6] (.ref a :: r) h = zD 150 31 [l0, l1, l2, l3, l4, l5, l6] (zfv (h.2.2 a) 0 :: r) h) ∧
  (∀ (l0 l1 l2 l3 l4 l6 : Option Value) (x : Int32) (S : List Value) (h : zH), zD 150 31 [l0, l1, l2, l3, l4, some (.int x), l6] S h = zD 150 33 [l0, l1, l2, l3, l4, some (.int x), l6] (.int x :: S) h) ∧
  (∀ (l0 l1 l2 l3 l4 l5 l6 : Option Value) (i : Int32) (a : Nat) (r : List Value) (h : zH) (hx : zrok (h.2.2 a) i = true), zD 150 33 [l0, l1, l2, l3, l4, l5, l6] (.int i :: .ref a :: r) h = zD 150 34 [l0, l1, l2, l3, l4, l5, l6] (zrv' (h.2.2 a) i :: r) h) ∧
  (∀ (l0 l1 l2 l4 l5 l6 : Option Value) (x : Int32) (S : List Value) (h : zH), zD 150 34 [l0, l1, l2, some (.int x), l4, l5, l6] S h = zD 150 35 [l0, l1, l2, some (.int x), l4, l5, l6] (.int x :: S) h) ∧
  (∀ (l0 l1 l2 l3 l4 l5 l6 : Option Value) (p0 : Int32) (a : Nat) (r : List Value) (h : zH) (hcat : zcat r ≤ 8) (hr : zis (h.2.2 a) 7 = true) (hC : (zC 66 (.ref a :: [.int p0]) h).isSome = true), zD 150 35 [l0, l1, l2, l3, l4, l5, l6] (.int p0 :: .ref a :: r) h = zD 150 38 [l0, l1, l2, l3, l4, l5, l6] (zgv (zC 66 (.ref a :: [.int p0]) h) ++ r) (zgh h (zC 66 (.ref a :: [.int p0]) h))) ∧
  (∀ (l0 l1 l2 l3 l4 l5 l6 : Option Value) (S : List Value) (h : zH), zD 150 38 [l0, l1, l2, l3, l4, l5, l6] S h = zD 150 39 [l0, l1, l2, l3, l4, l5, l6] (.int (1 : Int32) :: S) h) ∧
  (∀ (l0 l1 l2 l3 l4 l5 l6 : Option Value) (x : Int32) (r : List Value) (h : zH), zD 150 39 [l0, l1, l2, l3, l4, l5, l6] (.int x :: r) h = zD 150 41 [l0, l1, l2, l3, l4, zclr l5, some (.int x)] r h) ∧
  (∀ (l0 l1 l3 l4 l5 l6 : Option Value) (x : Int32) (S : List Value) (h : zH), zD 150 43 [l0, l1, some (.int x), l3, l4, l5, l6] S h = zD 150 44 [l0, l1, some (.int x), l3, l4, l5, l6] (.int x :: S) h) ∧
  (∀ (l0 l1 l2 l3 l4 l5 l6 : Option Value) (x y : Int32) (r : List Value) (h : zH), zD 150 44 [l0, l1, l2, l3, l4, l5, l6] (.int y :: .int x :: r) h = if y < x then zD 150 74 [l0, l1, l2, l3, l4, l5, l6] r h else zD 150 47 [l0, l1, l2, l3, l4, l5, l6] r h) ∧
  (∀ (l0 l1 l2 l3 l4 l6 : Option Value) (x : Int32) (S : List Value) (h : zH), zD 150 47 [l0, l1, l2, l3, l4, some (.int x), l6] S h = zD 150 49 [l0, l1, l2, l3, l4, some (.int x), l6] (.int x :: S) h) ∧
  (∀ (l0 l1 l2 l3 l4 l5 : Option Value) (x : Int32) (S : List Value) (h : zH), zD 150 49 [l0, l1, l2, l3, l4, l5, some (.int x)] S h = zD 150 51 [l0, l1, l2, l3, l4, l5, some (.int x)] (.int x :: S) h) ∧
  (∀ (l0 l1 l2 l3 l4 l5 l6 : Option Value) (S : List Value) (h : zH), zD 150 51 [l0, l1, l2, l3, l4, l5, l6] S h = zD 150 52 [l0, l1, l2, l3, l4, l5, l6] (.int (1 : Int32) :: S) h) ∧
  (∀ (l0 l1 l2 l3 l4 l5 l6 : Option Value) (x y : Int32) (r : List Value) (h : zH), zD 150 52 [l0, l1, l2, l3, l4, l5, l6] (.int y :: .int x :: r) h = zD 150 53 [l0, l1, l2, l3, l4, l5, l6] (.int (x - y) :: r) h) ∧
  (∀ (l0 l1 l2 l3 l4 l5 l6 : Option Value) (x y : Int32) (r : List Value) (h : zH), zD 150 53 [l0, l1, l2, l3, l4, l5, l6] (.int y :: .int x :: r) h = zD 150 54 [l0, l1, l2, l3, l4, l5, l6] (.int (x >>> (y &&& 31)) :: r) h) ∧
  (∀ (l0 l1 l2 l3 l4 l5 l6 : Option Value) (S : List Value) (h : zH), zD 150 54 [l0, l1, l2, l3, l4, l5, l6] S h = zD 150 55 [l0, l1, l2, l3, l4, l5, l6] (.int (1 : Int32) :: S) h) ∧
  (∀ (l0 l1 l2 l3 l4 l5 l6 : Option Value) (x y : Int32) (r : List Value) (h : zH), zD 150 55 [l0, l1, l2, l3, l4, l5, l6] (.int y :: .int x :: r) h = zD 150 56 [l0, l1, l2, l3, l4, l5, l6] (.int (x &&& y) :: r) h) ∧
  (∀ (l0 l1 l2 l3 l4 l5 l6 : Option Value) (x : Int32) (r : List Value) (h : zH), zD 150 56 [l0, l1, l2, l3, l4, l5, l6] (.int x :: r) h = if x = 0 then zD 150 68 [l0, l1, l2, l3, l4, l5, l6] r h else zD 150 59 [l0, l1, l2, l3, l4, l5, l6] r h) ∧
  (∀ (l1 l2 l3 l4 l5 l6 : Option Value) (x : Nat) (S : List Value) (h : zH), zD 150 59 [some (.ref x), l1, l2, l3, l4, l5, l6] S h = zD 150 60 [some (.ref x), l1, l2, l3, l4, l5, l6] (.ref x :: S) h) ∧
  (∀ (l0 l2 l3 l4 l5 l6 : Option Value) (x : Nat) (S : List Value) (h : zH), zD 150 60 [l0, some (.ref x), l2, l3, l4, l5, l6] S h = zD 150 61 [l0, some (.ref x), l2, l3, l4, l5, l6] (.ref x :: S) h) ∧
  (∀ (l0 l2 l3 l4 l5 l6 : Option Value) (S : List Value) (h : zH), zD 150 60 [l0, some .null, l2, l3, l4, l5, l6] S h = zD 150 61 [l0, some .null, l2, l3, l4, l5, l6] (.null :: S) h) ∧
  (∀ (l0 l1 l2 l3 l4 l6 : Option Value) (x : Int32) (S : List Value) (h : zH), zD 150 61 [l0, l1, l2, l3, l4, some (.int x), l6] S h = zD 150 63 [l0, l1, l2, l3, l4, some (.int x), l6] (.int x :: S) h) ∧
  (∀ (l0 l1 l2 l3 l4 l5 : Option Value) (x : Int32) (S : List Value) (h : zH), zD 150 63 [l0, l1, l2, l3, l4, l5, some (.int x)] S h = zD 150 65 [l0, l1, l2, l3, l4, l5, some (.int x)] (.int x :: S) h) ∧
  (∀ (l0 l1 l2 l3 l4 l5 l6 : Option Value) (p0 : Nat) (p1 : Int32) (p2 : Int32) (a : Nat) (r : List Value) (h : zH) (hcat : zcat r ≤ 8) (hr : zis (h.2.2 a) 0 = true) (hC : (zC 126 (.ref a :: [.ref p0, .int p1, .int p2]) h).isSome = true), zD 150 65 [l0, l1, l2, l3, l4, l5, l6] (.int p2 :: .int p1 :: .ref p0 :: .ref a :: r) h = zD 150 68 [l0, l1, l2, l3, l4, l5, l6] (zgv (zC 126 (.ref a :: [.ref p0, .int p1, .int p2]) h) ++ r) (zgh h (zC 126 (.ref a :: [.ref p0, .int p1, .int p2]) h))) ∧
  (∀ (l0 l1 l2 l3 l4 l5 : Option Value) (x : Int32) (S : List Value) (h : zH), zD 150 68 [l0, l1, l2, l3, l4, l5, some (.int x)] S h = zD 150 71 [l0, l1, l2, l3, l4, zclr l5, some (.int (x + (1 : Int32)))] S h) ∧
  (∀ (l0 l1 l2 l3 l4 l5 l6 : Option Value) (S : List Value) (h : zH), zD 150 71 [l0, l1, l2, l3, l4, l5, l6] S h = zD 150 41 [l0, l1, l2, l3, l4, l5, l6] S h) ∧
  (∀ (l0 l1 l2 l3 l4 l6 : Option Value) (x : Int32) (S : List Value) (h : zH), zD 150 74 [l0, l1, l2, l3, l4, some (.int x), l6] S h = zD 150 77 [l0, l1, l2, l3, zclr l4, some (.int (x + (1 : Int32))), l6] S h) ∧
  (∀ (l0 l1 l2 l3 l4 l5 l6 : Option Value) (S : List Value) (h : zH), zD 150 77 [l0, l1, l2, l3, l4, l5, l6] S h = zD 150 20 [l0, l1, l2, l3, l4, l5, l6] S h) ∧
  (∀ (l1 l2 l3 l4 l5 l6 : Option Value) (x : Nat) (S : List Value) (h : zH), zD 150 80 [some (.ref x), l1, l2, l3, l4, l5, l6] S h = zD 150 81 [some (.ref x), l1, l2, l3, l4, l5, l6] (.ref x :: S) h) ∧
  (∀ (l0 l1 l2 l3 l4 l5 l6 : Option Value) (a : Nat) (r : List Value) (h : zH) (hx : zfok (h.2.2 a) 0 0 = true), zD 150 81 [l0, l1, l2, l3, l4, l5, l6] (.ref a :: r) h = zD 150 84 [l0, l1, l2, l3, l4, l5, l6] (zfv (h.2.2 a) 0 :: r) h) ∧
  (∀ (l0 l1 l2 l3 l5 l6 : Option Value) (x : Int32) (S : List Value) (h : zH), zD 150 84 [l0, l1, l2, l3, some (.int x), l5, l6] S h = zD 150 86 [l0, l1, l2, l3, some (.int x), l5, l6] (.int x :: S) h) ∧
  (∀ (l0 l1 l2 l3 l4 l5 l6 : Option Value) (i : Int32) (a : Nat) (r : List Value) (h : zH) (hx : zrok (h.2.2 a) i = true), zD 150 86 [l0, l1, l2, l3, l4, l5, l6] (.int i :: .ref a :: r) h = zD 150 87 [l0, l1, l2, l3, l4, l5, l6] (zrv' (h.2.2 a) i :: r) h) ∧
  (∀ (l0 l1 l2 l3 l4 l5 l6 : Option Value) (v : Nat) (h : zH), zD 150 87 [l0, l1, l2, l3, l4, l5, l6] [.ref v] h = some (some (.ref v), h)) ∧
  (∀ (l0 l1 l2 l3 l4 l5 l6 : Option Value) (h : zH), zD 150 87 [l0, l1, l2, l3, l4, l5, l6] [.null] h = some (some .null, h)) :=
  ⟨fun l0 l1 l2 l3 l4 l5 l6 S h => zD_icst (n := 1) (by decide +kernel) (by decide +kernel),
  fun l0 l1 l3 l4 l5 l6 x S h => zD_op (ins := .iload_n 2) (len := 1) (c := (2, [l0, l1, some (.int x), l3, l4, l5, l6], (.int x :: S), h)) (by decide +kernel) rfl rfl rfl rfl,
  fun l0 l1 l2 l3 l4 l5 l6 x y r h => zD_op (ins := .ishl) (len := 1) (c := (3, [l0, l1, l2, l3, l4, l5, l6], (.int (x <<< (y &&& 31)) :: r), h)) (by decide +kernel) rfl rfl rfl rfl,
  fun l0 l1 l2 l3 l4 l5 l6 S h => zD_icst (n := 1) (by decide +kernel) (by decide +kernel),
  fun l0 l1 l2 l3 l4 l5 l6 x y r h => zD_op (ins := .isub) (len := 1) (c := (5, [l0, l1, l2, l3, l4, l5, l6], (.int (x - y) :: r), h)) (by decide +kernel) rfl rfl rfl rfl,
  fun l0 l1 l2 l3 l4 l5 l6 x r h => zD_st1 (k := 4) (ins := .istore 4) (len := 2) (by decide +kernel) rfl rfl rfl (by decide +kernel) rfl rfl,
  fun l1 l2 l3 l4 l5 l6 x S h => zD_op (ins := .aload_n 0) (len := 1) (c := (8, [some (.ref x), l1, l2, l3, l4, l5, l6], (.ref x :: S), h)) (by decide +kernel) rfl rfl rfl rfl,
  fun l0 l1 l2 l3 l4 l5 l6 a r h hx => zD_getf (i := 9) (ci := 0) (k := 0) (q := (153, 0)) (by decide +kernel) (by decide +kernel) hx,
  fun l0 l1 l2 l3 l4 l5 l6 S h => zD_icst (n := 0) (by decide +kernel) (by decide +kernel),
  fun l0 l1 l2 l3 l4 l5 l6 i a r h hx => zD_aald (by decide +kernel) hx,
  fun l0 l1 l2 l4 l5 l6 x S h => zD_op (ins := .iload_n 3) (len := 1) (c := (14, [l0, l1, l2, some (.int x), l4, l5, l6], (.int x :: S), h)) (by decide +kernel) rfl rfl rfl rfl,
  fun l0 l1 l2 l3 l4 l5 l6 p0 a r h hcat hr hC => zD_callv (i := 19) (y := 102) (n := 1) (as := [.int p0]) (ci := 7) (by decide +kernel) (by decide +kernel) rfl (by decide +kernel) (Nat.le_of_ble_eq_true rfl) (by decide +kernel) hcat hr hC,
  fun l0 l1 l2 l3 l4 l5 l6 S h => zD_icst (n := 1) (by decide +kernel) (by decide +kernel),
  fun l0 l1 l2 l3 l4 l5 l6 x r h => zD_st1 (k := 5) (ins := .istore 5) (len := 2) (by decide +kernel) rfl rfl rfl (by decide +kernel) rfl rfl,
  fun l0 l1 l2 l3 l5 l6 x S h => zD_op (ins := .iload 4) (len := 2) (c := (24, [l0, l1, l2, l3, some (.int x), l5, l6], (.int x :: S), h)) (by decide +kernel) rfl rfl rfl rfl,
  fun l0 l1 l2 l3 l4 l5 l6 x y r h => zD_if (cnd := .gt) (off := 56) (by decide +kernel) (by decide) rfl,
  fun l1 l2 l3 l4 l5 l6 x S h => zD_op (ins := .aload_n 0) (len := 1) (c := (28, [some (.ref x), l1, l2, l3, l4, l5, l6], (.ref x :: S), h)) (by decide +kernel) rfl rfl rfl rfl,
  fun l0 l1 l2 l3 l4 l5 l6 a r h hx => zD_getf (i := 9) (ci := 0) (k := 0) (q := (153, 0)) (by decide +kernel) (by decide +kernel) hx,
  fun l0 l1 l2 l3 l4 l6 x S h => zD_op (ins := .iload 5) (len := 2) (c := (33, [l0, l1, l2, l3, l4, some (.int x), l6], (.int x :: S), h)) (by decide +kernel) rfl rfl rfl rfl,
  fun l0 l1 l2 l3 l4 l5 l6 i a r h hx => zD_aald (by decide +kernel) hx,
  fun l0 l1 l2 l4 l5 l6 x S h => zD_op (ins := .iload_n 3) (len := 1) (c := (35, [l0, l1, l2, some (.int x), l4, l5, l6], (.int x :: S), h)) (by decide +kernel) rfl rfl rfl rfl,
  fun l0 l1 l2 l3 l4 l5 l6 p0 a r h hcat hr hC => zD_callv (i := 25) (y := 66) (n := 1) (as := [.int p0]) (ci := 7) (by decide +kernel) (by decide +kernel) rfl (by decide +kernel) (Nat.le_of_ble_eq_true rfl) (by decide +kernel) hcat hr hC,
  fun l0 l1 l2 l3 l4 l5 l6 S h => zD_icst (n := 1) (by decide +kernel) (by decide +kernel),
  fun l0 l1 l2 l3 l4 l5 l6 x r h => zD_st1 (k := 6) (ins := .istore 6) (len := 2) (by decide +kernel) rfl rfl rfl (by decide +kernel) rfl rfl,
  fun l0 l1 l3 l4 l5 l6 x S h => zD_op (ins := .iload_n 2) (len := 1) (c := (44, [l0, l1, some (.int x), l3, l4, l5, l6], (.int x :: S), h)) (by decide +kernel) rfl rfl rfl rfl,
  fun l0 l1 l2 l3 l4 l5 l6 x y r h => zD_if (cnd := .gt) (off := 30) (by decide +kernel) (by decide) rfl,
  fun l0 l1 l2 l3 l4 l6 x S h => zD_op (ins := .iload 5) (len := 2) (c := (49, [l0, l1, l2, l3, l4, some (.int x), l6], (.int x :: S), h)) (by decide +kernel) rfl rfl rfl rfl,
  fun l0 l1 l2 l3 l4 l5 x S h => zD_op (ins := .iload 6) (len := 2) (c := (51, [l0, l1, l2, l3, l4, l5, some (.int x)], (.int x :: S), h)) (by decide +kernel) rfl rfl rfl rfl,
  fun l0 l1 l2 l3 l4 l5 l6 S h => zD_icst (n := 1) (by decide +kernel) (by decide +kernel),
  fun l0 l1 l2 l3 l4 l5 l6 x y r h => zD_op (ins := .isub) (len := 1) (c := (53, [l0, l1, l2, l3, l4, l5, l6], (.int (x - y) :: r), h)) (by decide +kernel) rfl rfl rfl rfl,
  fun l0 l1 l2 l3 l4 l5 l6 x y r h => zD_op (ins := .ishr) (len := 1) (c := (54, [l0, l1, l2, l3, l4, l5, l6], (.int (x >>> (y &&& 31)) :: r), h)) (by decide +kernel) rfl rfl rfl rfl,
  fun l0 l1 l2 l3 l4 l5 l6 S h => zD_icst (n := 1) (by decide +kernel) (by decide +kernel),
  fun l0 l1 l2 l3 l4 l5 l6 x y r h => zD_op (ins := .iand) (len := 1) (c := (56, [l0, l1, l2, l3, l4, l5, l6], (.int (x &&& y) :: r), h)) (by decide +kernel) rfl rfl rfl rfl,
  fun l0 l1 l2 l3 l4 l5 l6 x r h => zD_if0 (cnd := .eq) (off := 12) (by decide +kernel) (by decide) rfl,
  fun l1 l2 l3 l4 l5 l6 x S h => zD_op (ins := .aload_n 0) (len := 1) (c := (60, [some (.ref x), l1, l2, l3, l4, l5, l6], (.ref x :: S), h)) (by decide +kernel) rfl rfl rfl rfl,
  fun l0 l2 l3 l4 l5 l6 x S h => zD_op (ins := .aload_n 1) (len := 1) (c := (61, [l0, some (.ref x), l2, l3, l4, l5, l6], (.ref x :: S), h)) (by decide +kernel) rfl rfl rfl rfl,
  fun l0 l2 l3 l4 l5 l6 S h => zD_op (ins := .aload_n 1) (len := 1) (c := (61, [l0, some .null, l2, l3, l4, l5, l6], (.null :: S), h)) (by decide +kernel) rfl rfl rfl rfl,
  fun l0 l1 l2 l3 l4 l6 x S h => zD_op (ins := .iload 5) (len := 2) (c := (63, [l0, l1, l2, l3, l4, some (.int x), l6], (.int x :: S), h)) (by decide +kernel) rfl rfl rfl rfl,
  fun l0 l1 l2 l3 l4 l5 x S h => zD_op (ins := .iload 6) (len := 2) (c := (65, [l0, l1, l2, l3, l4, l5, some (.int x)], (.int x :: S), h)) (by decide +kernel) rfl rfl rfl rfl,
  fun l0 l1 l2 l3 l4 l5 l6 p0 p1 p2 a r h hcat hr hC => zD_callv (i := 28) (y := 126) (n := 3) (as := [.ref p0, .int p1, .int p2]) (ci := 0) (by decide +kernel) (by decide +kernel) rfl (by decide +kernel) (Nat.le_of_ble_eq_true rfl) (by decide +kernel) hcat hr hC,
  fun l0 l1 l2 l3 l4 l5 x S h => zD_iinc (k := 6) (x := x) (c := (1 : Int32)) (n := 1) (by decide +kernel) (by decide +kernel) rfl (by decide +kernel) rfl,
  fun l0 l1 l2 l3 l4 l5 l6 S h => zD_goto (off := (-30)) (by decide +kernel) (by decide),
  fun l0 l1 l2 l3 l4 l6 x S h => zD_iinc (k := 5) (x := x) (c := (1 : Int32)) (n := 1) (by decide +kernel) (by decide +kernel) rfl (by decide +kernel) rfl,
  fun l0 l1 l2 l3 l4 l5 l6 S h => zD_goto (off := (-57)) (by decide +kernel) (by decide),
  fun l1 l2 l3 l4 l5 l6 x S h => zD_op (ins := .aload_n 0) (len := 1) (c := (81, [some (.ref x), l1, l2, l3, l4, l5, l6], (.ref x :: S), h)) (by decide +kernel) rfl rfl rfl rfl,
  fun l0 l1 l2 l3 l4 l5 l6 a r h hx => zD_getf (i := 9) (ci := 0) (k := 0) (q := (153, 0)) (by decide +kernel) (by decide +kernel) hx,
  fun l0 l1 l2 l3 l5 l6 x S h => zD_op (ins := .iload 4) (len := 2) (c := (86, [l0, l1, l2, l3, some (.int x), l5, l6], (.int x :: S), h)) (by decide +kernel) rfl rfl rfl rfl,
  fun l0 l1 l2 l3 l4 l5 l6 i a r h hx => zD_aald (by decide +kernel) hx,
  fun l0 l1 l2 l3 l4 l5 l6 v h => zD_aret (by decide +kernel) rfl,
  fun l0 l1 l2 l3 l4 l5 l6 h => zD_aretn (by decide +kernel) rfl⟩
set_option maxRecDepth 100000 in
theorem E_X0_first_h20 : (∀ (l0 l1 l2 l3 l4 l6 : Option Value) (x : Int32) (S : List Value) (h : zH), zD 150 20 [l0, l1, l2, l3, l4, some (.int x), l6] S h = zD 150 22 [l0, l1, l2, l3, l4, some (.int x), l6] (.int x :: S) h) :=
  fun l0 l1 l2 l3 l4 l6 x S h => zD_op (ins := .iload 5) (len := 2) (c := (22, [l0, l1, l2, l3, l4, some (.int x), l6], (.int x :: S), h)) (by decide +kernel) rfl rfl rfl rfl
set_option maxRecDepth 100000 in
theorem E_X0_first_h41 : (∀ (l0 l1 l2 l3 l4 l5 : Option Value) (x : Int32) (S : List Value) (h : zH), zD 150 41 [l0, l1, l2, l3, l4, l5, some (.int x)] S h = zD 150 43 [l0, l1, l2, l3, l4, l5, some (.int x)] (.int x :: S) h) :=
  fun l0 l1 l2 l3 l4 l5 x S h => zD_op (ins := .iload 6) (len := 2) (c := (43, [l0, l1, l2, l3, l4, l5, some (.int x)], (.int x :: S), h)) (by decide +kernel) rfl rfl rfl rfl
set_option maxRecDepth 100000 in
theorem I_X0_first : (∀ (a : Nat) (p0 : Nat) (p1 : Int32) (p2 : Int32) (h : zH), zC 150 [.ref a, .ref p0, .int p1, .int p2] h = zD 150 0 [some (.ref a), some (.ref p0), some (.int p1), some (.int p2), none, none, none] [] h) :=
  fun a p0 p1 p2 h => zC_def rfl
