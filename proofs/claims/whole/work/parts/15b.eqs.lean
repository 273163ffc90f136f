set_option maxRecDepth 100000 in
theorem E_X10_isTree : (∀ (l0 l1 l2 l3 l4 l5 : Option Value) (S : List Value) (h : zH), zD 29 0 [l0, l1, l2, l3, l4, l5] S h = zD 29 1 [l0, l1, l2, l3, l4, l5] (.int (1 : Int32) :: S) h) ∧
  (∀ (l0 l1 l2 l3 l4 l5 : Option Value) (x : Int32) (r : List Value) (h : zH), zD 29 1 [l0, l1, l2, l3, l4, l5] (.int x :: r) h = zD 29 2 [l0, zclr l1, some (.int x), l3, l4, l5] r h) ∧
  (∀ (l0 l1 l2 l3 l4 l5 : Option Value) (S : List Value) (h : zH), zD 29 2 [l0, l1, l2, l3, l4, l5] S h = zD 29 3 [l0, l1, l2, l3, l4, l5] (.int (1 : Int32) :: S) h) ∧
  (∀ (l0 l1 l2 l3 l4 l5 : Option Value) (x : Int32) (r : List Value) (h : zH), zD 29 3 [l0, l1, l2, l3, l4, l5] (.int x :: r) h = zD 29 4 [l0, l1, zclr l2, some (.int x), l4, l5] r h) ∧
  (∀ (l0 l2 l3 l4 l5 : Option Value) (x : Int32) (S : List Value) (h : zH), zD 29 5 [l0, some (.int x), l2, l3, l4, l5] S h = zD 29 6 [l0, some (.int x), l2, l3, l4, l5] (.int x :: S) h) ∧
  (∀ (l0 l1 l2 l3 l4 l5 : Option Value) (x y : Int32) (r : List Value) (h : zH), zD 29 6 [l0, l1, l2, l3, l4, l5] (.int y :: .int x :: r) h = if y < x then zD 29 62 [l0, l1, l2, l3, l4, l5] r h else zD 29 9 [l0, l1, l2, l3, l4, l5] r h) ∧
  (∀ (l0 l1 l3 l4 l5 : Option Value) (x : Int32) (S : List Value) (h : zH), zD 29 9 [l0, l1, some (.int x), l3, l4, l5] S h = zD 29 10 [l0, l1, some (.int x), l3, l4, l5] (.int x :: S) h) ∧
  (∀ (l0 l1 l2 l3 l4 l5 : Option Value) (x : Int32) (r : List Value) (h : zH), zD 29 10 [l0, l1, l2, l3, l4, l5] (.int x :: r) h = if x = 0 then zD 29 62 [l0, l1, l2, l3, l4, l5] r h else zD 29 13 [l0, l1, l2, l3, l4, l5] r h) ∧
  (∀ (l0 l1 l2 l4 l5 : Option Value) (x : Int32) (S : List Value) (h : zH), zD 29 13 [l0, l1, l2, some (.int x), l4, l5] S h = zD 29 14 [l0, l1, l2, some (.int x), l4, l5] (.int x :: S) h) ∧
  (∀ (l0 l1 l2 l3 l4 l5 : Option Value) (x : Int32) (r : List Value) (h : zH), zD 29 14 [l0, l1, l2, l3, l4, l5] (.int x :: r) h = zD 29 16 [l0, l1, l2, zclr l3, some (.int x), l5] r h) ∧
  (∀ (l0 l1 l2 l3 l4 l5 : Option Value) (S : List Value) (h : zH), zD 29 16 [l0, l1, l2, l3, l4, l5] S h = zD 29 17 [l0, l1, l2, l3, l4, l5] (.int (0 : Int32) :: S) h) ∧
  (∀ (l0 l1 l2 l3 l4 l5 : Option Value) (x : Int32) (r : List Value) (h : zH), zD 29 17 [l0, l1, l2, l3, l4, l5] (.int x :: r) h = zD 29 19 [l0, l1, l2, l3, zclr l4, some (.int x)] r h) ∧
  (∀ (l0 l2 l3 l4 l5 : Option Value) (x : Int32) (S : List Value) (h : zH), zD 29 21 [l0, some (.int x), l2, l3, l4, l5] S h = zD 29 22 [l0, some (.int x), l2, l3, l4, l5] (.int x :: S) h) ∧
  (∀ (l0 l1 l2 l3 l4 l5 : Option Value) (x y : Int32) (r : List Value) (h : zH), zD 29 22 [l0, l1, l2, l3, l4, l5] (.int y :: .int x :: r) h = if y < x then zD 29 45 [l0, l1, l2, l3, l4, l5] r h else zD 29 25 [l0, l1, l2, l3, l4, l5] r h) ∧
  (∀ (l0 l1 l2 l3 l5 : Option Value) (x : Int32) (S : List Value) (h : zH), zD 29 25 [l0, l1, l2, l3, some (.int x), l5] S h = zD 29 27 [l0, l1, l2, l3, some (.int x), l5] (.int x :: S) h) ∧
  (∀ (l0 l1 l2 l3 l4 l5 : Option Value) (x : Int32) (r : List Value) (h : zH), zD 29 27 [l0, l1, l2, l3, l4, l5] (.int x :: r) h = if x ≤ 0 then zD 29 45 [l0, l1, l2, l3, l4, l5] r h else zD 29 30 [l0, l1, l2, l3, l4, l5] r h) ∧
  (∀ (l1 l2 l3 l4 l5 : Option Value) (x : Nat) (S : List Value) (h : zH), zD 29 30 [some (.ref x), l1, l2, l3, l4, l5] S h = zD 29 31 [some (.ref x), l1, l2, l3, l4, l5] (.ref x :: S) h) ∧
  (∀ (l0 l1 l2 l3 l4 l5 : Option Value) (a : Nat) (r : List Value) (h : zH) (hx : zfok (h.2.2 a) 9 19 = true), zD 29 31 [l0, l1, l2, l3, l4, l5] (.ref a :: r) h = zD 29 34 [l0, l1, l2, l3, l4, l5] (zfv (h.2.2 a) 19 :: r) h) ∧
  (∀ (l0 l1 l2 l3 l5 : Option Value) (x : Int32) (S : List Value) (h : zH), zD 29 34 [l0, l1, l2, l3, some (.int x), l5] S h = zD 29 36 [l0, l1, l2, l3, some (.int x), l5] (.int x :: S) h) ∧
  (∀ (l0 l1 l2 l3 l4 l5 : Option Value) (i : Int32) (a : Nat) (r : List Value) (h : zH) (hx : ziok a (h.2.2 a) i = true), zD 29 36 [l0, l1, l2, l3, l4, l5] (.int i :: .ref a :: r) h = zD 29 37 [l0, l1, l2, l3, l4, l5] (.int (ziv (h.2.2 a) i) :: r) h) ∧
  (∀ (l0 l1 l2 l3 l4 l5 : Option Value) (x : Int32) (r : List Value) (h : zH), zD 29 37 [l0, l1, l2, l3, l4, l5] (.int x :: r) h = zD 29 39 [l0, l1, l2, zclr l3, some (.int x), l5] r h) ∧
  (∀ (l0 l1 l2 l3 l4 : Option Value) (x : Int32) (S : List Value) (h : zH), zD 29 39 [l0, l1, l2, l3, l4, some (.int x)] S h = zD 29 42 [l0, l1, l2, l3, zclr l4, some (.int (x + (1 : Int32)))] S h) ∧
  (∀ (l0 l1 l2 l3 l4 l5 : Option Value) (S : List Value) (h : zH), zD 29 42 [l0, l1, l2, l3, l4, l5] S h = zD 29 19 [l0, l1, l2, l3, l4, l5] S h) ∧
  (∀ (l0 l1 l2 l3 l5 : Option Value) (x : Int32) (S : List Value) (h : zH), zD 29 45 [l0, l1, l2, l3, some (.int x), l5] S h = zD 29 47 [l0, l1, l2, l3, some (.int x), l5] (.int x :: S) h) ∧
  (∀ (l0 l1 l2 l3 l4 l5 : Option Value) (x : Int32) (r : List Value) (h : zH), zD 29 47 [l0, l1, l2, l3, l4, l5] (.int x :: r) h = if ¬ x = 0 then zD 29 54 [l0, l1, l2, l3, l4, l5] r h else zD 29 50 [l0, l1, l2, l3, l4, l5] r h) ∧
  (∀ (l0 l1 l2 l3 l4 l5 : Option Value) (S : List Value) (h : zH), zD 29 50 [l0, l1, l2, l3, l4, l5] S h = zD 29 51 [l0, l1, l2, l3, l4, l5] (.int (1 : Int32) :: S) h) ∧
  (∀ (l0 l1 l2 l3 l4 l5 : Option Value) (S : List Value) (h : zH), zD 29 51 [l0, l1, l2, l3, l4, l5] S h = zD 29 55 [l0, l1, l2, l3, l4, l5] S h) ∧
  (∀ (l0 l1 l2 l3 l4 l5 : Option Value) (S : List Value) (h : zH), zD 29 54 [l0, l1, l2, l3, l4, l5] S h = zD 29 55 [l0, l1, l2, l3, l4, l5] (.int (0 : Int32) :: S) h) ∧
  (∀ (l0 l1 l2 l3 l4 l5 : Option Value) (x : Int32) (r : List Value) (h : zH), zD 29 55 [l0, l1, l2, l3, l4, l5] (.int x :: r) h = zD 29 56 [l0, zclr l1, some (.int x), l3, l4, l5] r h) ∧
  (∀ (l0 l1 l2 l4 l5 : Option Value) (x : Int32) (S : List Value) (h : zH), zD 29 56 [l0, l1, l2, some (.int x), l4, l5] S h = zD 29 59 [l0, l1, zclr l2, some (.int (x + (1 : Int32))), l4, l5] S h) ∧
  (∀ (l0 l1 l2 l3 l4 l5 : Option Value) (S : List Value) (h : zH), zD 29 59 [l0, l1, l2, l3, l4, l5] S h = zD 29 4 [l0, l1, l2, l3, l4, l5] S h) ∧
  (∀ (l0 l1 l3 l4 l5 : Option Value) (x : Int32) (S : List Value) (h : zH), zD 29 62 [l0, l1, some (.int x), l3, l4, l5] S h = zD 29 63 [l0, l1, some (.int x), l3, l4, l5] (.int x :: S) h) ∧
  (∀ (l0 l1 l2 l3 l4 l5 : Option Value) (v : Int32) (h : zH) (hv : zbv v), zD 29 63 [l0, l1, l2, l3, l4, l5] [.int v] h = some (some (.int v), h)) :=
  ⟨fun l0 l1 l2 l3 l4 l5 S h => zD_icst (n := 1) (by decide +kernel) (by decide +kernel),
  fun l0 l1 l2 l3 l4 l5 x r h => zD_st1 (k := 2) (ins := .istore_n 2) (len := 1) (by decide +kernel) rfl rfl rfl (by decide +kernel) rfl rfl,
  fun l0 l1 l2 l3 l4 l5 S h => zD_icst (n := 1) (by decide +kernel) (by decide +kernel),
  fun l0 l1 l2 l3 l4 l5 x r h => zD_st1 (k := 3) (ins := .istore_n 3) (len := 1) (by decide +kernel) rfl rfl rfl (by decide +kernel) rfl rfl,
  fun l0 l2 l3 l4 l5 x S h => zD_op (ins := .iload_n 1) (len := 1) (c := (6, [l0, some (.int x), l2, l3, l4, l5], (.int x :: S), h)) (by decide +kernel) rfl rfl rfl rfl,
  fun l0 l1 l2 l3 l4 l5 x y r h => zD_if (cnd := .gt) (off := 56) (by decide +kernel) (by decide) rfl,
  fun l0 l1 l3 l4 l5 x S h => zD_op (ins := .iload_n 2) (len := 1) (c := (10, [l0, l1, some (.int x), l3, l4, l5], (.int x :: S), h)) (by decide +kernel) rfl rfl rfl rfl,
  fun l0 l1 l2 l3 l4 l5 x r h => zD_if0 (cnd := .eq) (off := 52) (by decide +kernel) (by decide) rfl,
  fun l0 l1 l2 l4 l5 x S h => zD_op (ins := .iload_n 3) (len := 1) (c := (14, [l0, l1, l2, some (.int x), l4, l5], (.int x :: S), h)) (by decide +kernel) rfl rfl rfl rfl,
  fun l0 l1 l2 l3 l4 l5 x r h => zD_st1 (k := 4) (ins := .istore 4) (len := 2) (by decide +kernel) rfl rfl rfl (by decide +kernel) rfl rfl,
  fun l0 l1 l2 l3 l4 l5 S h => zD_icst (n := 0) (by decide +kernel) (by decide +kernel),
  fun l0 l1 l2 l3 l4 l5 x r h => zD_st1 (k := 5) (ins := .istore 5) (len := 2) (by decide +kernel) rfl rfl rfl (by decide +kernel) rfl rfl,
  fun l0 l2 l3 l4 l5 x S h => zD_op (ins := .iload_n 1) (len := 1) (c := (22, [l0, some (.int x), l2, l3, l4, l5], (.int x :: S), h)) (by decide +kernel) rfl rfl rfl rfl,
  fun l0 l1 l2 l3 l4 l5 x y r h => zD_if (cnd := .gt) (off := 23) (by decide +kernel) (by decide) rfl,
  fun l0 l1 l2 l3 l5 x S h => zD_op (ins := .iload 4) (len := 2) (c := (27, [l0, l1, l2, l3, some (.int x), l5], (.int x :: S), h)) (by decide +kernel) rfl rfl rfl rfl,
  fun l0 l1 l2 l3 l4 l5 x r h => zD_if0 (cnd := .le) (off := 18) (by decide +kernel) (by decide) rfl,
  fun l1 l2 l3 l4 l5 x S h => zD_op (ins := .aload_n 0) (len := 1) (c := (31, [some (.ref x), l1, l2, l3, l4, l5], (.ref x :: S), h)) (by decide +kernel) rfl rfl rfl rfl,
  fun l0 l1 l2 l3 l4 l5 a r h hx => zD_getf (i := 61) (ci := 9) (k := 19) (q := (730, 0)) (by decide +kernel) (by decide +kernel) hx,
  fun l0 l1 l2 l3 l5 x S h => zD_op (ins := .iload 4) (len := 2) (c := (36, [l0, l1, l2, l3, some (.int x), l5], (.int x :: S), h)) (by decide +kernel) rfl rfl rfl rfl,
  fun l0 l1 l2 l3 l4 l5 i a r h hx => zD_iald (by decide +kernel) hx,
  fun l0 l1 l2 l3 l4 l5 x r h => zD_st1 (k := 4) (ins := .istore 4) (len := 2) (by decide +kernel) rfl rfl rfl (by decide +kernel) rfl rfl,
  fun l0 l1 l2 l3 l4 x S h => zD_iinc (k := 5) (x := x) (c := (1 : Int32)) (n := 1) (by decide +kernel) (by decide +kernel) rfl (by decide +kernel) rfl,
  fun l0 l1 l2 l3 l4 l5 S h => zD_goto (off := (-23)) (by decide +kernel) (by decide),
  fun l0 l1 l2 l3 l5 x S h => zD_op (ins := .iload 4) (len := 2) (c := (47, [l0, l1, l2, l3, some (.int x), l5], (.int x :: S), h)) (by decide +kernel) rfl rfl rfl rfl,
  fun l0 l1 l2 l3 l4 l5 x r h => zD_if0 (cnd := .ne) (off := 7) (by decide +kernel) (by decide) rfl,
  fun l0 l1 l2 l3 l4 l5 S h => zD_icst (n := 1) (by decide +kernel) (by decide +kernel),
  fun l0 l1 l2 l3 l4 l5 S h => zD_goto (off := 4) (by decide +kernel) (by decide),
  fun l0 l1 l2 l3 l4 l5 S h => zD_icst (n := 0) (by decide +kernel) (by decide +kernel),
  fun l0 l1 l2 l3 l4 l5 x r h => zD_st1 (k := 2) (ins := .istore_n 2) (len := 1) (by decide +kernel) rfl rfl rfl (by decide +kernel) rfl rfl,
  fun l0 l1 l2 l4 l5 x S h => zD_iinc (k := 3) (x := x) (c := (1 : Int32)) (n := 1) (by decide +kernel) (by decide +kernel) rfl (by decide +kernel) rfl,
  fun l0 l1 l2 l3 l4 l5 S h => zD_goto (off := (-55)) (by decide +kernel) (by decide),
  fun l0 l1 l3 l4 l5 x S h => zD_op (ins := .iload_n 2) (len := 1) (c := (63, [l0, l1, some (.int x), l3, l4, l5], (.int x :: S), h)) (by decide +kernel) rfl rfl rfl rfl,
  fun l0 l1 l2 l3 l4 l5 v h hv => zD_iretz (by decide +kernel) rfl hv⟩
set_option maxRecDepth 100000 in
theorem E_X10_isTree_h4 : (∀ (l0 l1 l2 l4 l5 : Option Value) (x : Int32) (S : List Value) (h : zH), zD 29 4 [l0, l1, l2, some (.int x), l4, l5] S h = zD 29 5 [l0, l1, l2, some (.int x), l4, l5] (.int x :: S) h) :=
  fun l0 l1 l2 l4 l5 x S h => zD_op (ins := .iload_n 3) (len := 1) (c := (5, [l0, l1, l2, some (.int x), l4, l5], (.int x :: S), h)) (by decide +kernel) rfl rfl rfl rfl
set_option maxRecDepth 100000 in
theorem E_X10_isTree_h19 : (∀ (l0 l1 l2 l3 l4 : Option Value) (x : Int32) (S : List Value) (h : zH), zD 29 19 [l0, l1, l2, l3, l4, some (.int x)] S h = zD 29 21 [l0, l1, l2, l3, l4, some (.int x)] (.int x :: S) h) :=
  fun l0 l1 l2 l3 l4 x S h => zD_op (ins := .iload 5) (len := 2) (c := (21, [l0, l1, l2, l3, l4, some (.int x)], (.int x :: S), h)) (by decide +kernel) rfl rfl rfl rfl
set_option maxRecDepth 100000 in
theorem I_X10_isTree : (∀ (a : Nat) (p0 : Int32) (h : zH), zC 29 [.ref a, .int p0] h = zD 29 0 [some (.ref a), some (.int p0), none, none, none, none] [] h) :=
  fun a p0 h => zC_def rfl
set_option maxRecDepth 100000 in
theorem E_X10_isOver : (∀ (l0 l1 l3 : Option Value) (x : Int32) (S : List Value) (h : zH), zD 30 0 [l0, l1, some (.int x), l3] S h = zD 30 1 [l0, l1, some (.int x), l3] (.int x :: S) h) ∧
  (∀ (l0 l1 l2 l3 : Option Value) (x : Int32) (r : List Value) (h : zH), zD 30 1 [l0, l1, l2, l3] (.int x :: r) h = zD 30 2 [l0, l1, zclr l2, some (.int x)] r h) ∧
  (∀ (l0 l1 l2 l3 : Option Value) (x : Int32) (r : List Value) (h : zH), zD 30 3 [l0, l1, l2, l3] (.int x :: r) h = if x ≤ 0 then zD 30 20 [l0, l1, l2, l3] r h else zD 30 6 [l0, l1, l2, l3] r h) ∧
  (∀ (l1 l2 l3 : Option Value) (x : Nat) (S : List Value) (h : zH), zD 30 6 [some (.ref x), l1, l2, l3] S h = zD 30 7 [some (.ref x), l1, l2, l3] (.ref x :: S) h) ∧
  (∀ (l0 l1 l2 l3 : Option Value) (a : Nat) (r : List Value) (h : zH) (hx : zfok (h.2.2 a) 9 19 = true), zD 30 7 [l0, l1, l2, l3] (.ref a :: r) h = zD 30 10 [l0, l1, l2, l3] (zfv (h.2.2 a) 19 :: r) h) ∧
  (∀ (l0 l1 l2 : Option Value) (x : Int32) (S : List Value) (h : zH), zD 30 10 [l0, l1, l2, some (.int x)] S h = zD 30 11 [l0, l1, l2, some (.int x)] (.int x :: S) h) ∧
  (∀ (l0 l1 l2 l3 : Option Value) (i : Int32) (a : Nat) (r : List Value) (h : zH) (hx : ziok a (h.2.2 a) i = true), zD 30 11 [l0, l1, l2, l3] (.int i :: .ref a :: r) h = zD 30 12 [l0, l1, l2, l3] (.int (ziv (h.2.2 a) i) :: r) h) ∧
  (∀ (l0 l1 l2 l3 : Option Value) (x : Int32) (r : List Value) (h : zH), zD 30 12 [l0, l1, l2, l3] (.int x :: r) h = zD 30 13 [l0, l1, zclr l2, some (.int x)] r h) ∧
  (∀ (l0 l1 l2 : Option Value) (x : Int32) (S : List Value) (h : zH), zD 30 13 [l0, l1, l2, some (.int x)] S h = zD 30 14 [l0, l1, l2, some (.int x)] (.int x :: S) h) ∧
  (∀ (l0 l2 l3 : Option Value) (x : Int32) (S : List Value) (h : zH), zD 30 14 [l0, some (.int x), l2, l3] S h = zD 30 15 [l0, some (.int x), l2, l3] (.int x :: S) h) ∧
  (∀ (l0 l1 l2 l3 : Option Value) (x y : Int32) (r : List Value) (h : zH), zD 30 15 [l0, l1, l2, l3] (.int y :: .int x :: r) h = if ¬ x = y then zD 30 2 [l0, l1, l2, l3] r h else zD 30 18 [l0, l1, l2, l3] r h) ∧
  (∀ (l0 l1 l2 l3 : Option Value) (S : List Value) (h : zH), zD 30 18 [l0, l1, l2, l3] S h = zD 30 19 [l0, l1, l2, l3] (.int (1 : Int32) :: S) h) ∧
  (∀ (l0 l1 l2 l3 : Option Value) (v : Int32) (h : zH) (hv : zbv v), zD 30 19 [l0, l1, l2, l3] [.int v] h = some (some (.int v), h)) ∧
  (∀ (l0 l1 l2 l3 : Option Value) (S : List Value) (h : zH), zD 30 20 [l0, l1, l2, l3] S h = zD 30 21 [l0, l1, l2, l3] (.int (0 : Int32) :: S) h) ∧
  (∀ (l0 l1 l2 l3 : Option Value) (v : Int32) (h : zH) (hv : zbv v), zD 30 21 [l0, l1, l2, l3] [.int v] h = some (some (.int v), h)) :=
  ⟨fun l0 l1 l3 x S h => zD_op (ins := .iload_n 2) (len := 1) (c := (1, [l0, l1, some (.int x), l3], (.int x :: S), h)) (by decide +kernel) rfl rfl rfl rfl,
  fun l0 l1 l2 l3 x r h => zD_st1 (k := 3) (ins := .istore_n 3) (len := 1) (by decide +kernel) rfl rfl rfl (by decide +kernel) rfl rfl,
  fun l0 l1 l2 l3 x r h => zD_if0 (cnd := .le) (off := 17) (by decide +kernel) (by decide) rfl,
  fun l1 l2 l3 x S h => zD_op (ins := .aload_n 0) (len := 1) (c := (7, [some (.ref x), l1, l2, l3], (.ref x :: S), h)) (by decide +kernel) rfl rfl rfl rfl,
  fun l0 l1 l2 l3 a r h hx => zD_getf (i := 61) (ci := 9) (k := 19) (q := (730, 0)) (by decide +kernel) (by decide +kernel) hx,
  fun l0 l1 l2 x S h => zD_op (ins := .iload_n 3) (len := 1) (c := (11, [l0, l1, l2, some (.int x)], (.int x :: S), h)) (by decide +kernel) rfl rfl rfl rfl,
  fun l0 l1 l2 l3 i a r h hx => zD_iald (by decide +kernel) hx,
  fun l0 l1 l2 l3 x r h => zD_st1 (k := 3) (ins := .istore_n 3) (len := 1) (by decide +kernel) rfl rfl rfl (by decide +kernel) rfl rfl,
  fun l0 l1 l2 x S h => zD_op (ins := .iload_n 3) (len := 1) (c := (14, [l0, l1, l2, some (.int x)], (.int x :: S), h)) (by decide +kernel) rfl rfl rfl rfl,
  fun l0 l2 l3 x S h => zD_op (ins := .iload_n 1) (len := 1) (c := (15, [l0, some (.int x), l2, l3], (.int x :: S), h)) (by decide +kernel) rfl rfl rfl rfl,
  fun l0 l1 l2 l3 x y r h => zD_if (cnd := .ne) (off := (-13)) (by decide +kernel) (by decide) rfl,
  fun l0 l1 l2 l3 S h => zD_icst (n := 1) (by decide +kernel) (by decide +kernel),
  fun l0 l1 l2 l3 v h hv => zD_iretz (by decide +kernel) rfl hv,
  fun l0 l1 l2 l3 S h => zD_icst (n := 0) (by decide +kernel) (by decide +kernel),
  fun l0 l1 l2 l3 v h hv => zD_iretz (by decide +kernel) rfl hv⟩
set_option maxRecDepth 100000 in
theorem E_X10_isOver_h2 : (∀ (l0 l1 l2 : Option Value) (x : Int32) (S : List Value) (h : zH), zD 30 2 [l0, l1, l2, some (.int x)] S h = zD 30 3 [l0, l1, l2, some (.int x)] (.int x :: S) h) :=
  fun l0 l1 l2 x S h => zD_op (ins := .iload_n 3) (len := 1) (c := (3, [l0, l1, l2, some (.int x)], (.int x :: S), h)) (by decide +kernel) rfl rfl rfl rfl
set_option maxRecDepth 100000 in
theorem I_X10_isOver : (∀ (a : Nat) (p0 : Int32) (p1 : Int32) (h : zH), zC 30 [.ref a, .int p0, .int p1] h = zD 30 0 [some (.ref a), some (.int p0), some (.int p1), none] [] h) :=
  fun a p0 p1 h => zC_def rfl
set_option maxRecDepth 100000 in
theorem E_X10_sum : (∀ (l0 l1 l2 : Option Value) (S : List Value) (h : zH), zD 31 0 [l0, l1, l2] S h = zD 31 1 [l0, l1, l2] (.int (0 : Int32) :: S) h) ∧
  (∀ (l0 l1 l2 : Option Value) (x : Int32) (r : List Value) (h : zH), zD 31 1 [l0, l1, l2] (.int x :: r) h = zD 31 2 [zclr l0, some (.int x), l2] r h) ∧
  (∀ (l0 l1 l2 : Option Value) (S : List Value) (h : zH), zD 31 2 [l0, l1, l2] S h = zD 31 3 [l0, l1, l2] (.int (1 : Int32) :: S) h) ∧
  (∀ (l0 l1 l2 : Option Value) (x : Int32) (r : List Value) (h : zH), zD 31 3 [l0, l1, l2] (.int x :: r) h = zD 31 4 [l0, zclr l1, some (.int x)] r h) ∧
  (∀ (l1 l2 : Option Value) (x : Nat) (S : List Value) (h : zH), zD 31 5 [some (.ref x), l1, l2] S h = zD 31 6 [some (.ref x), l1, l2] (.ref x :: S) h) ∧
  (∀ (l0 l1 l2 : Option Value) (a : Nat) (r : List Value) (h : zH) (hx : zfok (h.2.2 a) 9 0 = true), zD 31 6 [l0, l1, l2] (.ref a :: r) h = zD 31 9 [l0, l1, l2] (zfv (h.2.2 a) 0 :: r) h) ∧
  (∀ (l0 l1 l2 : Option Value) (x y : Int32) (r : List Value) (h : zH), zD 31 9 [l0, l1, l2] (.int y :: .int x :: r) h = if y < x then zD 31 37 [l0, l1, l2] r h else zD 31 12 [l0, l1, l2] r h) ∧
  (∀ (l0 l2 : Option Value) (x : Int32) (S : List Value) (h : zH), zD 31 12 [l0, some (.int x), l2] S h = zD 31 13 [l0, some (.int x), l2] (.int x :: S) h) ∧
  (∀ (l1 l2 : Option Value) (x : Nat) (S : List Value) (h : zH), zD 31 13 [some (.ref x), l1, l2] S h = zD 31 14 [some (.ref x), l1, l2] (.ref x :: S) h) ∧
  (∀ (l0 l1 l2 : Option Value) (a : Nat) (r : List Value) (h : zH) (hx : zfok (h.2.2 a) 9 3 = true), zD 31 14 [l0, l1, l2] (.ref a :: r) h = zD 31 17 [l0, l1, l2] (zfv (h.2.2 a) 3 :: r) h) ∧
  (∀ (l0 l1 l2 : Option Value) (S : List Value) (h : zH), zD 31 17 [l0, l1, l2] S h = zD 31 19 [l0, l1, l2] (.int (8 : Int32) :: S) h) ∧
  (∀ (l0 l1 : Option Value) (x : Int32) (S : List Value) (h : zH), zD 31 19 [l0, l1, some (.int x)] S h = zD 31 20 [l0, l1, some (.int x)] (.int x :: S) h) ∧
  (∀ (l0 l1 l2 : Option Value) (x y : Int32) (r : List Value) (h : zH), zD 31 20 [l0, l1, l2] (.int y :: .int x :: r) h = zD 31 21 [l0, l1, l2] (.int (x * y) :: r) h) ∧
  (∀ (l1 l2 : Option Value) (x : Nat) (S : List Value) (h : zH), zD 31 21 [some (.ref x), l1, l2] S h = zD 31 22 [some (.ref x), l1, l2] (.ref x :: S) h) ∧
  (∀ (l0 l1 l2 : Option Value) (a : Nat) (r : List Value) (h : zH) (hx : zfok (h.2.2 a) 9 2 = true), zD 31 22 [l0, l1, l2] (.ref a :: r) h = zD 31 25 [l0, l1, l2] (zfv (h.2.2 a) 2 :: r) h) ∧
  (∀ (l0 l1 : Option Value) (x : Int32) (S : List Value) (h : zH), zD 31 25 [l0, l1, some (.int x)] S h = zD 31 26 [l0, l1, some (.int x)] (.int x :: S) h) ∧
  (∀ (l0 l1 l2 : Option Value) (i : Int32) (a : Nat) (r : List Value) (h : zH) (hx : ziok a (h.2.2 a) i = true), zD 31 26 [l0, l1, l2] (.int i :: .ref a :: r) h = zD 31 27 [l0, l1, l2] (.int (ziv (h.2.2 a) i) :: r) h) ∧
  (∀ (l0 l1 l2 : Option Value) (x y : Int32) (r : List Value) (h : zH), zD 31 27 [l0, l1, l2] (.int y :: .int x :: r) h = zD 31 28 [l0, l1, l2] (.int (x + y) :: r) h) ∧
  (∀ (l0 l1 l2 : Option Value) (i : Int32) (a : Nat) (r : List Value) (h : zH) (hx : ziok a (h.2.2 a) i = true), zD 31 28 [l0, l1, l2] (.int i :: .ref a :: r) h = zD 31 29 [l0, l1, l2] (.int (ziv (h.2.2 a) i) :: r) h) ∧
  (∀ (l0 l1 l2 : Option Value) (x y : Int32) (r : List Value) (h : zH), zD 31 29 [l0, l1, l2] (.int y :: .int x :: r) h = zD 31 30 [l0, l1, l2] (.int (x + y) :: r) h) ∧
  (∀ (l0 l1 l2 : Option Value) (x : Int32) (r : List Value) (h : zH), zD 31 30 [l0, l1, l2] (.int x :: r) h = zD 31 31 [zclr l0, some (.int x), l2] r h) ∧
  (∀ (l0 l1 : Option Value) (x : Int32) (S : List Value) (h : zH), zD 31 31 [l0, l1, some (.int x)] S h = zD 31 34 [l0, zclr l1, some (.int (x + (1 : Int32)))] S h) ∧
  (∀ (l0 l1 l2 : Option Value) (S : List Value) (h : zH), zD 31 34 [l0, l1, l2] S h = zD 31 4 [l0, l1, l2] S h) ∧
  (∀ (l0 l2 : Option Value) (x : Int32) (S : List Value) (h : zH), zD 31 37 [l0, some (.int x), l2] S h = zD 31 38 [l0, some (.int x), l2] (.int x :: S) h) ∧
  (∀ (l0 l1 l2 : Option Value) (v : Int32) (h : zH), zD 31 38 [l0, l1, l2] [.int v] h = some (some (.int v), h)) :=
  ⟨fun l0 l1 l2 S h => zD_icst (n := 0) (by decide +kernel) (by decide +kernel),
  fun l0 l1 l2 x r h => zD_st1 (k := 1) (ins := .istore_n 1) (len := 1) (by decide +kernel) rfl rfl rfl (by decide +kernel) rfl rfl,
  fun l0 l1 l2 S h => zD_icst (n := 1) (by decide +kernel) (by decide +kernel),
  fun l0 l1 l2 x r h => zD_st1 (k := 2) (ins := .istore_n 2) (len := 1) (by decide +kernel) rfl rfl rfl (by decide +kernel) rfl rfl,
  fun l1 l2 x S h => zD_op (ins := .aload_n 0) (len := 1) (c := (6, [some (.ref x), l1, l2], (.ref x :: S), h)) (by decide +kernel) rfl rfl rfl rfl,
  fun l0 l1 l2 a r h hx => zD_getf (i := 7) (ci := 9) (k := 0) (q := (711, 0)) (by decide +kernel) (by decide +kernel) hx,
  fun l0 l1 l2 x y r h => zD_if (cnd := .gt) (off := 28) (by decide +kernel) (by decide) rfl,
  fun l0 l2 x S h => zD_op (ins := .iload_n 1) (len := 1) (c := (13, [l0, some (.int x), l2], (.int x :: S), h)) (by decide +kernel) rfl rfl rfl rfl,
  fun l1 l2 x S h => zD_op (ins := .aload_n 0) (len := 1) (c := (14, [some (.ref x), l1, l2], (.ref x :: S), h)) (by decide +kernel) rfl rfl rfl rfl,
  fun l0 l1 l2 a r h hx => zD_getf (i := 20) (ci := 9) (k := 3) (q := (714, 0)) (by decide +kernel) (by decide +kernel) hx,
  fun l0 l1 l2 S h => zD_bip (n := 8) (by decide +kernel) (by decide +kernel),
  fun l0 l1 x S h => zD_op (ins := .iload_n 2) (len := 1) (c := (20, [l0, l1, some (.int x)], (.int x :: S), h)) (by decide +kernel) rfl rfl rfl rfl,
  fun l0 l1 l2 x y r h => zD_op (ins := .imul) (len := 1) (c := (21, [l0, l1, l2], (.int (x * y) :: r), h)) (by decide +kernel) rfl rfl rfl rfl,
  fun l1 l2 x S h => zD_op (ins := .aload_n 0) (len := 1) (c := (22, [some (.ref x), l1, l2], (.ref x :: S), h)) (by decide +kernel) rfl rfl rfl rfl,
  fun l0 l1 l2 a r h hx => zD_getf (i := 17) (ci := 9) (k := 2) (q := (713, 0)) (by decide +kernel) (by decide +kernel) hx,
  fun l0 l1 x S h => zD_op (ins := .iload_n 2) (len := 1) (c := (26, [l0, l1, some (.int x)], (.int x :: S), h)) (by decide +kernel) rfl rfl rfl rfl,
  fun l0 l1 l2 i a r h hx => zD_iald (by decide +kernel) hx,
  fun l0 l1 l2 x y r h => zD_op (ins := .iadd) (len := 1) (c := (28, [l0, l1, l2], (.int (x + y) :: r), h)) (by decide +kernel) rfl rfl rfl rfl,
  fun l0 l1 l2 i a r h hx => zD_iald (by decide +kernel) hx,
  fun l0 l1 l2 x y r h => zD_op (ins := .iadd) (len := 1) (c := (30, [l0, l1, l2], (.int (x + y) :: r), h)) (by decide +kernel) rfl rfl rfl rfl,
  fun l0 l1 l2 x r h => zD_st1 (k := 1) (ins := .istore_n 1) (len := 1) (by decide +kernel) rfl rfl rfl (by decide +kernel) rfl rfl,
  fun l0 l1 x S h => zD_iinc (k := 2) (x := x) (c := (1 : Int32)) (n := 1) (by decide +kernel) (by decide +kernel) rfl (by decide +kernel) rfl,
  fun l0 l1 l2 S h => zD_goto (off := (-30)) (by decide +kernel) (by decide),
  fun l0 l2 x S h => zD_op (ins := .iload_n 1) (len := 1) (c := (38, [l0, some (.int x), l2], (.int x :: S), h)) (by decide +kernel) rfl rfl rfl rfl,
  fun l0 l1 l2 v h => zD_ireti (by decide +kernel) rfl⟩
set_option maxRecDepth 100000 in
theorem E_X10_sum_h4 : (∀ (l0 l1 : Option Value) (x : Int32) (S : List Value) (h : zH), zD 31 4 [l0, l1, some (.int x)] S h = zD 31 5 [l0, l1, some (.int x)] (.int x :: S) h) :=
  fun l0 l1 x S h => zD_op (ins := .iload_n 2) (len := 1) (c := (5, [l0, l1, some (.int x)], (.int x :: S), h)) (by decide +kernel) rfl rfl rfl rfl
set_option maxRecDepth 100000 in
theorem I_X10_sum : (∀ (a : Nat) (h : zH), zC 31 [.ref a] h = zD 31 0 [some (.ref a), none, none] [] h) :=
  fun a h => zC_def rfl
set_option maxRecDepth 100000 in
theorem E_X10_rings : (∀ (l1 l2 : Option Value) (x : Nat) (S : List Value) (h : zH), zD 32 0 [some (.ref x), l1, l2] S h = zD 32 1 [some (.ref x), l1, l2] (.ref x :: S) h) ∧
  (∀ (l0 l1 l2 : Option Value) (a : Nat) (r : List Value) (h : zH) (hx : zfok (h.2.2 a) 9 19 = true), zD 32 1 [l0, l1, l2] (.ref a :: r) h = zD 32 4 [l0, l1, l2] (zfv (h.2.2 a) 19 :: r) h) ∧
  (∀ (l0 l2 : Option Value) (x : Int32) (S : List Value) (h : zH), zD 32 4 [l0, some (.int x), l2] S h = zD 32 5 [l0, some (.int x), l2] (.int x :: S) h) ∧
  (∀ (l0 l1 l2 : Option Value) (i : Int32) (a : Nat) (r : List Value) (h : zH) (hx : ziok a (h.2.2 a) i = true), zD 32 5 [l0, l1, l2] (.int i :: .ref a :: r) h = zD 32 6 [l0, l1, l2] (.int (ziv (h.2.2 a) i) :: r) h) ∧
  (∀ (l0 l1 l2 : Option Value) (x : Int32) (r : List Value) (h : zH), zD 32 6 [l0, l1, l2] (.int x :: r) h = zD 32 7 [l0, zclr l1, some (.int x)] r h) ∧
  (∀ (l0 l1 l2 : Option Value) (x : Int32) (r : List Value) (h : zH), zD 32 8 [l0, l1, l2] (.int x :: r) h = if x ≤ 0 then zD 32 26 [l0, l1, l2] r h else zD 32 11 [l0, l1, l2] r h) ∧
  (∀ (l0 l1 : Option Value) (x : Int32) (S : List Value) (h : zH), zD 32 11 [l0, l1, some (.int x)] S h = zD 32 12 [l0, l1, some (.int x)] (.int x :: S) h) ∧
  (∀ (l0 l2 : Option Value) (x : Int32) (S : List Value) (h : zH), zD 32 12 [l0, some (.int x), l2] S h = zD 32 13 [l0, some (.int x), l2] (.int x :: S) h) ∧
  (∀ (l0 l1 l2 : Option Value) (x y : Int32) (r : List Value) (h : zH), zD 32 13 [l0, l1, l2] (.int y :: .int x :: r) h = if y ≤ x then zD 32 26 [l0, l1, l2] r h else zD 32 16 [l0, l1, l2] r h) ∧
  (∀ (l1 l2 : Option Value) (x : Nat) (S : List Value) (h : zH), zD 32 16 [some (.ref x), l1, l2] S h = zD 32 17 [some (.ref x), l1, l2] (.ref x :: S) h) ∧
  (∀ (l0 l1 l2 : Option Value) (a : Nat) (r : List Value) (h : zH) (hx : zfok (h.2.2 a) 9 19 = true), zD 32 17 [l0, l1, l2] (.ref a :: r) h = zD 32 20 [l0, l1, l2] (zfv (h.2.2 a) 19 :: r) h) ∧
  (∀ (l0 l1 : Option Value) (x : Int32) (S : List Value) (h : zH), zD 32 20 [l0, l1, some (.int x)] S h = zD 32 21 [l0, l1, some (.int x)] (.int x :: S) h) ∧
  (∀ (l0 l1 l2 : Option Value) (i : Int32) (a : Nat) (r : List Value) (h : zH) (hx : ziok a (h.2.2 a) i = true), zD 32 21 [l0, l1, l2] (.int i :: .ref a :: r) h = zD 32 22 [l0, l1, l2] (.int (ziv (h.2.2 a) i) :: r) h) ∧
  (∀ (l0 l1 l2 : Option Value) (x : Int32) (r : List Value) (h : zH), zD 32 22 [l0, l1, l2] (.int x :: r) h = zD 32 23 [l0, zclr l1, some (.int x)] r h) ∧
  (∀ (l0 l1 l2 : Option Value) (S : List Value) (h : zH), zD 32 23 [l0, l1, l2] S h = zD 32 7 [l0, l1, l2] S h) ∧
  (∀ (l0 l1 : Option Value) (x : Int32) (S : List Value) (h : zH), zD 32 26 [l0, l1, some (.int x)] S h = zD 32 27 [l0, l1, some (.int x)] (.int x :: S) h) ∧
  (∀ (l0 l2 : Option Value) (x : Int32) (S : List Value) (h : zH), zD 32 27 [l0, some (.int x), l2] S h = zD 32 28 [l0, some (.int x), l2] (.int x :: S) h) ∧
  (∀ (l0 l1 l2 : Option Value) (x y : Int32) (r : List Value) (h : zH), zD 32 28 [l0, l1, l2] (.int y :: .int x :: r) h = if ¬ x = y then zD 32 35 [l0, l1, l2] r h else zD 32 31 [l0, l1, l2] r h) ∧
  (∀ (l0 l1 l2 : Option Value) (S : List Value) (h : zH), zD 32 31 [l0, l1, l2] S h = zD 32 32 [l0, l1, l2] (.int (1 : Int32) :: S) h) ∧
  (∀ (l0 l1 l2 : Option Value) (S : List Value) (h : zH), zD 32 32 [l0, l1, l2] S h = zD 32 36 [l0, l1, l2] S h) ∧
  (∀ (l0 l1 l2 : Option Value) (S : List Value) (h : zH), zD 32 35 [l0, l1, l2] S h = zD 32 36 [l0, l1, l2] (.int (0 : Int32) :: S) h) ∧
  (∀ (l0 l1 l2 : Option Value) (v : Int32) (h : zH) (hv : zbv v), zD 32 36 [l0, l1, l2] [.int v] h = some (some (.int v), h)) :=
  ⟨fun l1 l2 x S h => zD_op (ins := .aload_n 0) (len := 1) (c := (1, [some (.ref x), l1, l2], (.ref x :: S), h)) (by decide +kernel) rfl rfl rfl rfl,
  fun l0 l1 l2 a r h hx => zD_getf (i := 61) (ci := 9) (k := 19) (q := (730, 0)) (by decide +kernel) (by decide +kernel) hx,
  fun l0 l2 x S h => zD_op (ins := .iload_n 1) (len := 1) (c := (5, [l0, some (.int x), l2], (.int x :: S), h)) (by decide +kernel) rfl rfl rfl rfl,
  fun l0 l1 l2 i a r h hx => zD_iald (by decide +kernel) hx,
  fun l0 l1 l2 x r h => zD_st1 (k := 2) (ins := .istore_n 2) (len := 1) (by decide +kernel) rfl rfl rfl (by decide +kernel) rfl rfl,
  fun l0 l1 l2 x r h => zD_if0 (cnd := .le) (off := 18) (by decide +kernel) (by decide) rfl,
  fun l0 l1 x S h => zD_op (ins := .iload_n 2) (len := 1) (c := (12, [l0, l1, some (.int x)], (.int x :: S), h)) (by decide +kernel) rfl rfl rfl rfl,
  fun l0 l2 x S h => zD_op (ins := .iload_n 1) (len := 1) (c := (13, [l0, some (.int x), l2], (.int x :: S), h)) (by decide +kernel) rfl rfl rfl rfl,
  fun l0 l1 l2 x y r h => zD_if (cnd := .ge) (off := 13) (by decide +kernel) (by decide) rfl,
  fun l1 l2 x S h => zD_op (ins := .aload_n 0) (len := 1) (c := (17, [some (.ref x), l1, l2], (.ref x :: S), h)) (by decide +kernel) rfl rfl rfl rfl,
  fun l0 l1 l2 a r h hx => zD_getf (i := 61) (ci := 9) (k := 19) (q := (730, 0)) (by decide +kernel) (by decide +kernel) hx,
  fun l0 l1 x S h => zD_op (ins := .iload_n 2) (len := 1) (c := (21, [l0, l1, some (.int x)], (.int x :: S), h)) (by decide +kernel) rfl rfl rfl rfl,
  fun l0 l1 l2 i a r h hx => zD_iald (by decide +kernel) hx,
  fun l0 l1 l2 x r h => zD_st1 (k := 2) (ins := .istore_n 2) (len := 1) (by decide +kernel) rfl rfl rfl (by decide +kernel) rfl rfl,
  fun l0 l1 l2 S h => zD_goto (off := (-16)) (by decide +kernel) (by decide),
  fun l0 l1 x S h => zD_op (ins := .iload_n 2) (len := 1) (c := (27, [l0, l1, some (.int x)], (.int x :: S), h)) (by decide +kernel) rfl rfl rfl rfl,
  fun l0 l2 x S h => zD_op (ins := .iload_n 1) (len := 1) (c := (28, [l0, some (.int x), l2], (.int x :: S), h)) (by decide +kernel) rfl rfl rfl rfl,
  fun l0 l1 l2 x y r h => zD_if (cnd := .ne) (off := 7) (by decide +kernel) (by decide) rfl,
  fun l0 l1 l2 S h => zD_icst (n := 1) (by decide +kernel) (by decide +kernel),
  fun l0 l1 l2 S h => zD_goto (off := 4) (by decide +kernel) (by decide),
  fun l0 l1 l2 S h => zD_icst (n := 0) (by decide +kernel) (by decide +kernel),
  fun l0 l1 l2 v h hv => zD_iretz (by decide +kernel) rfl hv⟩
set_option maxRecDepth 100000 in
theorem E_X10_rings_h7 : (∀ (l0 l1 : Option Value) (x : Int32) (S : List Value) (h : zH), zD 32 7 [l0, l1, some (.int x)] S h = zD 32 8 [l0, l1, some (.int x)] (.int x :: S) h) :=
  fun l0 l1 x S h => zD_op (ins := .iload_n 2) (len := 1) (c := (8, [l0, l1, some (.int x)], (.int x :: S), h)) (by decide +kernel) rfl rfl rfl rfl
set_option maxRecDepth 100000 in
theorem I_X10_rings : (∀ (a : Nat) (p0 : Int32) (h : zH), zC 32 [.ref a, .int p0] h = zD 32 0 [some (.ref a), some (.int p0), none] [] h) :=
  fun a p0 h => zC_def rfl
set_option maxRecDepth 100000 in
theorem E_X10_note : (∀ (l1 l2 l3 l4 l5 l6 : Option Value) (x : Nat) (S : List Value) (h : zH), zD 33 0 [some (.ref x), l1, l2, l3, l4, l5, l6] S h = zD 33 1 [some (.ref x), l1, l2, l3, l4, l5, l6] (.ref x :: S) h) ∧
  (∀ (l0 l1 l2 l3 l4 l5 l6 : Option Value) (a : Nat) (r : List Value) (h : zH) (hx : zfok (h.2.2 a) 9 6 = true), zD 33 1 [l0, l1, l2, l3, l4, l5, l6] (.ref a :: r) h = zD 33 4 [l0, l1, l2, l3, l4, l5, l6] (zfv (h.2.2 a) 6 :: r) h) ∧
  (∀ (l0 l2 l3 l4 l5 l6 : Option Value) (x : Int32) (S : List Value) (h : zH), zD 33 4 [l0, some (.int x), l2, l3, l4, l5, l6] S h = zD 33 5 [l0, some (.int x), l2, l3, l4, l5, l6] (.int x :: S) h) ∧
  (∀ (l0 l1 l2 l3 l4 l5 l6 : Option Value) (x : Int32) (y : Nat) (r : List Value) (h : zH), zD 33 5 [l0, l1, l2, l3, l4, l5, l6] (.int x :: .ref y :: r) h = zD 33 6 [l0, l1, l2, l3, l4, l5, l6] (.int x :: .ref y :: .int x :: .ref y :: r) h) ∧
  (∀ (l0 l1 l2 l3 l4 l5 l6 : Option Value) (i : Int32) (a : Nat) (r : List Value) (h : zH) (hx : zlok (h.2.2 a) i = true), zD 33 6 [l0, l1, l2, l3, l4, l5, l6] (.int i :: .ref a :: r) h = zD 33 7 [l0, l1, l2, l3, l4, l5, l6] (.long (zlv' (h.2.2 a) i) :: r) h) ∧
  (∀ (l0 l1 l2 l3 l4 l5 l6 : Option Value) (S : List Value) (h : zH), zD 33 7 [l0, l1, l2, l3, l4, l5, l6] S h = zD 33 8 [l0, l1, l2, l3, l4, l5, l6] (.long (1 : Int64) :: S) h) ∧
  (∀ (l0 l1 l2 l3 l4 l5 l6 : Option Value) (x y : Int64) (r : List Value) (h : zH), zD 33 8 [l0, l1, l2, l3, l4, l5, l6] (.long y :: .long x :: r) h = zD 33 9 [l0, l1, l2, l3, l4, l5, l6] (.long (x + y) :: r) h) ∧
  (∀ (l0 l1 l2 l3 l4 l5 l6 : Option Value) (w : Int64) (i : Int32) (a : Nat) (r : List Value) (h : zH) (hx : zlok (h.2.2 a) i = true), zD 33 9 [l0, l1, l2, l3, l4, l5, l6] (.long w :: .int i :: .ref a :: r) h = zD 33 10 [l0, l1, l2, l3, l4, l5, l6] r (zw h a (zls' (h.2.2 a) i w))) ∧
  (∀ (l1 l2 l3 l4 l5 l6 : Option Value) (x : Nat) (S : List Value) (h : zH), zD 33 10 [some (.ref x), l1, l2, l3, l4, l5, l6] S h = zD 33 11 [some (.ref x), l1, l2, l3, l4, l5, l6] (.ref x :: S) h) ∧
  (∀ (l0 l1 l2 l3 l4 l5 l6 : Option Value) (a : Nat) (r : List Value) (h : zH) (hx : zfok (h.2.2 a) 9 7 = true), zD 33 11 [l0, l1, l2, l3, l4, l5, l6] (.ref a :: r) h = zD 33 14 [l0, l1, l2, l3, l4, l5, l6] (zfv (h.2.2 a) 7 :: r) h) ∧
  (∀ (l0 l2 l3 l4 l5 l6 : Option Value) (x : Int32) (S : List Value) (h : zH), zD 33 14 [l0, some (.int x), l2, l3, l4, l5, l6] S h = zD 33 15 [l0, some (.int x), l2, l3, l4, l5, l6] (.int x :: S) h) ∧
  (∀ (l0 l1 l2 l3 l4 l5 l6 : Option Value) (i : Int32) (a : Nat) (r : List Value) (h : zH) (hx : ziok a (h.2.2 a) i = true), zD 33 15 [l0, l1, l2, l3, l4, l5, l6] (.int i :: .ref a :: r) h = zD 33 16 [l0, l1, l2, l3, l4, l5, l6] (.int (ziv (h.2.2 a) i) :: r) h) ∧
  (∀ (l0 l1 l2 l3 l4 l5 l6 : Option Value) (x : Int32) (r : List Value) (h : zH), zD 33 16 [l0, l1, l2, l3, l4, l5, l6] (.int x :: r) h = zD 33 17 [l0, l1, zclr l2, some (.int x), l4, l5, l6] r h) ∧
  (∀ (l0 l1 l2 l3 l4 l5 l6 : Option Value) (x : Int32) (r : List Value) (h : zH), zD 33 18 [l0, l1, l2, l3, l4, l5, l6] (.int x :: r) h = if x ≤ 0 then zD 33 44 [l0, l1, l2, l3, l4, l5, l6] r h else zD 33 21 [l0, l1, l2, l3, l4, l5, l6] r h) ∧
  (∀ (l1 l2 l3 l4 l5 l6 : Option Value) (x : Nat) (S : List Value) (h : zH), zD 33 21 [some (.ref x), l1, l2, l3, l4, l5, l6] S h = zD 33 22 [some (.ref x), l1, l2, l3, l4, l5, l6] (.ref x :: S) h) ∧
  (∀ (l0 l1 l2 l3 l4 l5 l6 : Option Value) (a : Nat) (r : List Value) (h : zH) (hx : zfok (h.2.2 a) 9 8 = true), zD 33 22 [l0, l1, l2, l3, l4, l5, l6] (.ref a :: r) h = zD 33 25 [l0, l1, l2, l3, l4, l5, l6] (zfv (h.2.2 a) 8 :: r) h) ∧
  (∀ (l0 l1 l2 l3 l4 l5 l6 : Option Value) (S : List Value) (h : zH), zD 33 25 [l0, l1, l2, l3, l4, l5, l6] S h = zD 33 27 [l0, l1, l2, l3, l4, l5, l6] (.int (31 : Int32) :: S) h) ∧
  (∀ (l0 l2 l3 l4 l5 l6 : Option Value) (x : Int32) (S : List Value) (h : zH), zD 33 27 [l0, some (.int x), l2, l3, l4, l5, l6] S h = zD 33 28 [l0, some (.int x), l2, l3, l4, l5, l6] (.int x :: S) h) ∧
  (∀ (l0 l1 l2 l3 l4 l5 l6 : Option Value) (x y : Int32) (r : List Value) (h : zH), zD 33 28 [l0, l1, l2, l3, l4, l5, l6] (.int y :: .int x :: r) h = zD 33 29 [l0, l1, l2, l3, l4, l5, l6] (.int (x * y) :: r) h) ∧
  (∀ (l0 l1 l2 l4 l5 l6 : Option Value) (x : Int32) (S : List Value) (h : zH), zD 33 29 [l0, l1, l2, some (.int x), l4, l5, l6] S h = zD 33 30 [l0, l1, l2, some (.int x), l4, l5, l6] (.int x :: S) h) ∧
  (∀ (l0 l1 l2 l3 l4 l5 l6 : Option Value) (x y : Int32) (r : List Value) (h : zH), zD 33 30 [l0, l1, l2, l3, l4, l5, l6] (.int y :: .int x :: r) h = zD 33 31 [l0, l1, l2, l3, l4, l5, l6] (.int (x + y) :: r) h) ∧
  (∀ (l0 l1 l2 l3 l4 l5 l6 : Option Value) (S : List Value) (h : zH), zD 33 31 [l0, l1, l2, l3, l4, l5, l6] S h = zD 33 32 [l0, l1, l2, l3, l4, l5, l6] (.int (1 : Int32) :: S) h) ∧
  (∀ (l0 l1 l2 l3 l4 l5 l6 : Option Value) (x y : Int32) (r : List Value) (h : zH), zD 33 32 [l0, l1, l2, l3, l4, l5, l6] (.int y :: .int x :: r) h = zD 33 33 [l0, l1, l2, l3, l4, l5, l6] (.int (x - y) :: r) h) ∧
  (∀ (l0 l1 l2 l3 l4 l5 l6 : Option Value) (i : Int32) (a : Nat) (r : List Value) (h : zH) (hx : ziok a (h.2.2 a) i = true), zD 33 33 [l0, l1, l2, l3, l4, l5, l6] (.int i :: .ref a :: r) h = zD 33 34 [l0, l1, l2, l3, l4, l5, l6] (.int (ziv (h.2.2 a) i) :: r) h) ∧
  (∀ (l0 l1 l3 l4 l5 l6 : Option Value) (x : Int32) (S : List Value) (h : zH), zD 33 34 [l0, l1, some (.int x), l3, l4, l5, l6] S h = zD 33 35 [l0, l1, some (.int x), l3, l4, l5, l6] (.int x :: S) h) ∧
  (∀ (l0 l1 l2 l3 l4 l5 l6 : Option Value) (x y : Int32) (r : List Value) (h : zH), zD 33 35 [l0, l1, l2, l3, l4, l5, l6] (.int y :: .int x :: r) h = if y ≤ x then zD 33 44 [l0, l1, l2, l3, l4, l5, l6] r h else zD 33 38 [l0, l1, l2, l3, l4, l5, l6] r h) ∧
  (∀ (l0 l1 l2 l4 l5 l6 : Option Value) (x : Int32) (S : List Value) (h : zH), zD 33 38 [l0, l1, l2, some (.int x), l4, l5, l6] S h = zD 33 41 [l0, l1, zclr l2, some (.int (x + (-1 : Int32))), l4, l5, l6] S h) ∧
  (∀ (l0 l1 l2 l3 l4 l5 l6 : Option Value) (S : List Value) (h : zH), zD 33 41 [l0, l1, l2, l3, l4, l5, l6] S h = zD 33 17 [l0, l1, l2, l3, l4, l5, l6] S h) ∧
  (∀ (l0 l1 l2 l4 l5 l6 : Option Value) (x : Int32) (S : List Value) (h : zH), zD 33 44 [l0, l1, l2, some (.int x), l4, l5, l6] S h = zD 33 45 [l0, l1, l2, some (.int x), l4, l5, l6] (.int x :: S) h) ∧
  (∀ (l0 l1 l2 l3 l4 l5 l6 : Option Value) (S : List Value) (h : zH), zD 33 45 [l0, l1, l2, l3, l4, l5, l6] S h = zD 33 47 [l0, l1, l2, l3, l4, l5, l6] (.int (31 : Int32) :: S) h) ∧
  (∀ (l0 l1 l2 l3 l4 l5 l6 : Option Value) (x y : Int32) (r : List Value) (h : zH), zD 33 47 [l0, l1, l2, l3, l4, l5, l6] (.int y :: .int x :: r) h = if ¬ x = y then zD 33 51 [l0, l1, l2, l3, l4, l5, l6] r h else zD 33 50 [l0, l1, l2, l3, l4, l5, l6] r h) ∧
  (∀ (l0 l1 l2 l3 l4 l5 l6 : Option Value) (h : zH), zD 33 50 [l0, l1, l2, l3, l4, l5, l6] [] h = some (none, h)) ∧
  (∀ (l1 l2 l3 l4 l5 l6 : Option Value) (x : Nat) (S : List Value) (h : zH), zD 33 51 [some (.ref x), l1, l2, l3, l4, l5, l6] S h = zD 33 52 [some (.ref x), l1, l2, l3, l4, l5, l6] (.ref x :: S) h) ∧
  (∀ (l0 l1 l2 l3 l4 l5 l6 : Option Value) (a : Nat) (r : List Value) (h : zH) (hx : zfok (h.2.2 a) 9 7 = true), zD 33 52 [l0, l1, l2, l3, l4, l5, l6] (.ref a :: r) h = zD 33 55 [l0, l1, l2, l3, l4, l5, l6] (zfv (h.2.2 a) 7 :: r) h) ∧
  (∀ (l0 l2 l3 l4 l5 l6 : Option Value) (x : Int32) (S : List Value) (h : zH), zD 33 55 [l0, some (.int x), l2, l3, l4, l5, l6] S h = zD 33 56 [l0, some (.int x), l2, l3, l4, l5, l6] (.int x :: S) h) ∧
  (∀ (l0 l1 l2 l3 l4 l5 l6 : Option Value) (i : Int32) (a : Nat) (r : List Value) (h : zH) (hx : ziok a (h.2.2 a) i = true), zD 33 56 [l0, l1, l2, l3, l4, l5, l6] (.int i :: .ref a :: r) h = zD 33 57 [l0, l1, l2, l3, l4, l5, l6] (.int (ziv (h.2.2 a) i) :: r) h) ∧
  (∀ (l0 l1 l2 l3 l4 l5 l6 : Option Value) (S : List Value) (h : zH), zD 33 57 [l0, l1, l2, l3, l4, l5, l6] S h = zD 33 59 [l0, l1, l2, l3, l4, l5, l6] (.int (31 : Int32) :: S) h) ∧
  (∀ (l0 l1 l2 l3 l4 l5 l6 : Option Value) (x y : Int32) (r : List Value) (h : zH), zD 33 59 [l0, l1, l2, l3, l4, l5, l6] (.int y :: .int x :: r) h = if y ≤ x then zD 33 71 [l0, l1, l2, l3, l4, l5, l6] r h else zD 33 62 [l0, l1, l2, l3, l4, l5, l6] r h) ∧
  (∀ (l1 l2 l3 l4 l5 l6 : Option Value) (x : Nat) (S : List Value) (h : zH), zD 33 62 [some (.ref x), l1, l2, l3, l4, l5, l6] S h = zD 33 63 [some (.ref x), l1, l2, l3, l4, l5, l6] (.ref x :: S) h) ∧
  (∀ (l0 l1 l2 l3 l4 l5 l6 : Option Value) (a : Nat) (r : List Value) (h : zH) (hx : zfok (h.2.2 a) 9 7 = true), zD 33 63 [l0, l1, l2, l3, l4, l5, l6] (.ref a :: r) h = zD 33 66 [l0, l1, l2, l3, l4, l5, l6] (zfv (h.2.2 a) 7 :: r) h) ∧
  (∀ (l0 l2 l3 l4 l5 l6 : Option Value) (x : Int32) (S : List Value) (h : zH), zD 33 66 [l0, some (.int x), l2, l3, l4, l5, l6] S h = zD 33 67 [l0, some (.int x), l2, l3, l4, l5, l6] (.int x :: S) h) ∧
  (∀ (l0 l1 l2 l3 l4 l5 l6 : Option Value) (i : Int32) (a : Nat) (r : List Value) (h : zH) (hx : ziok a (h.2.2 a) i = true), zD 33 67 [l0, l1, l2, l3, l4, l5, l6] (.int i :: .ref a :: r) h = zD 33 68 [l0, l1, l2, l3, l4, l5, l6] (.int (ziv (h.2.2 a) i) :: r) h) ∧
  (∀ (l0 l1 l2 l3 l4 l5 l6 : Option Value) (S : List Value) (h : zH), zD 33 68 [l0, l1, l2, l3, l4, l5, l6] S h = zD 33 73 [l0, l1, l2, l3, l4, l5, l6] S h) ∧
  (∀ (l0 l1 l2 l3 l4 l5 l6 : Option Value) (S : List Value) (h : zH), zD 33 71 [l0, l1, l2, l3, l4, l5, l6] S h = zD 33 73 [l0, l1, l2, l3, l4, l5, l6] (.int (30 : Int32) :: S) h) ∧
  (∀ (l0 l1 l2 l3 l4 l5 l6 : Option Value) (x : Int32) (r : List Value) (h : zH), zD 33 73 [l0, l1, l2, l3, l4, l5, l6] (.int x :: r) h = zD 33 75 [l0, l1, l2, zclr l3, some (.int x), l5, l6] r h) ∧
  (∀ (l0 l1 l2 l3 l5 l6 : Option Value) (x : Int32) (S : List Value) (h : zH), zD 33 75 [l0, l1, l2, l3, some (.int x), l5, l6] S h = zD 33 77 [l0, l1, l2, l3, some (.int x), l5, l6] (.int x :: S) h) ∧
  (∀ (l0 l1 l2 l3 l4 l5 l6 : Option Value) (x : Int32) (r : List Value) (h : zH), zD 33 77 [l0, l1, l2, l3, l4, l5, l6] (.int x :: r) h = zD 33 79 [l0, l1, l2, l3, zclr l4, some (.int x), l6] r h) ∧
  (∀ (l0 l1 l2 l4 l5 l6 : Option Value) (x : Int32) (S : List Value) (h : zH), zD 33 81 [l0, l1, l2, some (.int x), l4, l5, l6] S h = zD 33 82 [l0, l1, l2, some (.int x), l4, l5, l6] (.int x :: S) h) ∧
  (∀ (l0 l1 l2 l3 l4 l5 l6 : Option Value) (x y : Int32) (r : List Value) (h : zH), zD 33 82 [l0, l1, l2, l3, l4, l5, l6] (.int y :: .int x :: r) h = if x ≤ y then zD 33 173 [l0, l1, l2, l3, l4, l5, l6] r h else zD 33 85 [l0, l1, l2, l3, l4, l5, l6] r h) ∧
  (∀ (l1 l2 l3 l4 l5 l6 : Option Value) (x : Nat) (S : List Value) (h : zH), zD 33 85 [some (.ref x), l1, l2, l3, l4, l5, l6] S h = zD 33 86 [some (.ref x), l1, l2, l3, l4, l5, l6] (.ref x :: S) h) ∧
  (∀ (l0 l1 l2 l3 l4 l5 l6 : Option Value) (a : Nat) (r : List Value) (h : zH) (hx : zfok (h.2.2 a) 9 8 = true), zD 33 86 [l0, l1, l2, l3, l4, l5, l6] (.ref a :: r) h = zD 33 89 [l0, l1, l2, l3, l4, l5, l6] (zfv (h.2.2 a) 8 :: r) h) ∧
  (∀ (l0 l1 l2 l3 l4 l5 l6 : Option Value) (S : List Value) (h : zH), zD 33 89 [l0, l1, l2, l3, l4, l5, l6] S h = zD 33 91 [l0, l1, l2, l3, l4, l5, l6] (.int (31 : Int32) :: S) h) ∧
  (∀ (l0 l2 l3 l4 l5 l6 : Option Value) (x : Int32) (S : List Value) (h : zH), zD 33 91 [l0, some (.int x), l2, l3, l4, l5, l6] S h = zD 33 92 [l0, some (.int x), l2, l3, l4, l5, l6] (.int x :: S) h) ∧
  (∀ (l0 l1 l2 l3 l4 l5 l6 : Option Value) (x y : Int32) (r : List Value) (h : zH), zD 33 92 [l0, l1, l2, l3, l4, l5, l6] (.int y :: .int x :: r) h = zD 33 93 [l0, l1, l2, l3, l4, l5, l6] (.int (x * y) :: r) h) ∧
  (∀ (l0 l1 l2 l3 l4 l6 : Option Value) (x : Int32) (S : List Value) (h : zH), zD 33 93 [l0, l1, l2, l3, l4, some (.int x), l6] S h = zD 33 95 [l0, l1, l2, l3, l4, some (.int x), l6] (.int x :: S) h) ∧
  (∀ (l0 l1 l2 l3 l4 l5 l6 : Option Value) (x y : Int32) (r : List Value) (h : zH), zD 33 95 [l0, l1, l2, l3, l4, l5, l6] (.int y :: .int x :: r) h = zD 33 96 [l0, l1, l2, l3, l4, l5, l6] (.int (x + y) :: r) h) ∧
  (∀ (l1 l2 l3 l4 l5 l6 : Option Value) (x : Nat) (S : List Value) (h : zH), zD 33 96 [some (.ref x), l1, l2, l3, l4, l5, l6] S h = zD 33 97 [some (.ref x), l1, l2, l3, l4, l5, l6] (.ref x :: S) h) ∧
  (∀ (l0 l1 l2 l3 l4 l5 l6 : Option Value) (a : Nat) (r : List Value) (h : zH) (hx : zfok (h.2.2 a) 9 8 = true), zD 33 97 [l0, l1, l2, l3, l4, l5, l6] (.ref a :: r) h = zD 33 100 [l0, l1, l2, l3, l4, l5, l6] (zfv (h.2.2 a) 8 :: r) h) ∧
  (∀ (l0 l1 l2 l3 l4 l5 l6 : Option Value) (S : List Value) (h : zH), zD 33 100 [l0, l1, l2, l3, l4, l5, l6] S h = zD 33 102 [l0, l1, l2, l3, l4, l5, l6] (.int (31 : Int32) :: S) h) ∧
  (∀ (l0 l2 l3 l4 l5 l6 : Option Value) (x : Int32) (S : List Value) (h : zH), zD 33 102 [l0, some (.int x), l2, l3, l4, l5, l6] S h = zD 33 103 [l0, some (.int x), l2, l3, l4, l5, l6] (.int x :: S) h) ∧
  (∀ (l0 l1 l2 l3 l4 l5 l6 : Option Value) (x y : Int32) (r : List Value) (h : zH), zD 33 103 [l0, l1, l2, l3, l4, l5, l6] (.int y :: .int x :: r) h = zD 33 104 [l0, l1, l2, l3, l4, l5, l6] (.int (x * y) :: r) h) ∧
  (∀ (l0 l1 l2 l3 l4 l6 : Option Value) (x : Int32) (S : List Value) (h : zH), zD 33 104 [l0, l1, l2, l3, l4, some (.int x), l6] S h = zD 33 106 [l0, l1, l2, l3, l4, some (.int x), l6] (.int x :: S) h) ∧
  (∀ (l0 l1 l2 l3 l4 l5 l6 : Option Value) (x y : Int32) (r : List Value) (h : zH), zD 33 106 [l0, l1, l2, l3, l4, l5, l6] (.int y :: .int x :: r) h = zD 33 107 [l0, l1, l2, l3, l4, l5, l6] (.int (x + y) :: r) h) ∧
  (∀ (l0 l1 l2 l3 l4 l5 l6 : Option Value) (S : List Value) (h : zH), zD 33 107 [l0, l1, l2, l3, l4, l5, l6] S h = zD 33 108 [l0, l1, l2, l3, l4, l5, l6] (.int (1 : Int32) :: S) h) ∧
  (∀ (l0 l1 l2 l3 l4 l5 l6 : Option Value) (x y : Int32) (r : List Value) (h : zH), zD 33 108 [l0, l1, l2, l3, l4, l5, l6] (.int y :: .int x :: r) h = zD 33 109 [l0, l1, l2, l3, l4, l5, l6] (.int (x - y) :: r) h) ∧
  (∀ (l0 l1 l2 l3 l4 l5 l6 : Option Value) (i : Int32) (a : Nat) (r : List Value) (h : zH) (hx : ziok a (h.2.2 a) i = true), zD 33 109 [l0, l1, l2, l3, l4, l5, l6] (.int i :: .ref a :: r) h = zD 33 110 [l0, l1, l2, l3, l4, l5, l6] (.int (ziv (h.2.2 a) i) :: r) h) ∧
  (∀ (l0 l1 l2 l3 l4 l5 l6 : Option Value) (w i : Int32) (a : Nat) (r : List Value) (h : zH) (hx : zpok (h.2.2 a) i = true), zD 33 110 [l0, l1, l2, l3, l4, l5, l6] (.int w :: .int i :: .ref a :: r) h = zD 33 111 [l0, l1, l2, l3, l4, l5, l6] r (zw h a (zis' (h.2.2 a) i w))) ∧
  (∀ (l0 l1 l2 l3 l4 l5 l6 : Option Value) (S : List Value) (h : zH), zD 33 111 [l0, l1, l2, l3, l4, l5, l6] S h = zD 33 112 [l0, l1, l2, l3, l4, l5, l6] (.int (1 : Int32) :: S) h) ∧
  (∀ (l0 l1 l2 l3 l4 l5 l6 : Option Value) (x : Int32) (r : List Value) (h : zH), zD 33 112 [l0, l1, l2, l3, l4, l5, l6] (.int x :: r) h = zD 33 114 [l0, l1, l2, l3, l4, zclr l5, some (.int x)] r h) ∧
  (∀ (l1 l2 l3 l4 l5 l6 : Option Value) (x : Nat) (S : List Value) (h : zH), zD 33 116 [some (.ref x), l1, l2, l3, l4, l5, l6] S h = zD 33 117 [some (.ref x), l1, l2, l3, l4, l5, l6] (.ref x :: S) h) ∧
  (∀ (l0 l1 l2 l3 l4 l5 l6 : Option Value) (a : Nat) (r : List Value) (h : zH) (hx : zfok (h.2.2 a) 9 0 = true), zD 33 117 [l0, l1, l2, l3, l4, l5, l6] (.ref a :: r) h = zD 33 120 [l0, l1, l2, l3, l4, l5, l6] (zfv (h.2.2 a) 0 :: r) h) ∧
  (∀ (l0 l1 l2 l3 l4 l5 l6 : Option Value) (x y : Int32) (r : List Value) (h : zH), zD 33 120 [l0, l1, l2, l3, l4, l5, l6] (.int y :: .int x :: r) h = if y < x then zD 33 167 [l0, l1, l2, l3, l4, l5, l6] r h else zD 33 123 [l0, l1, l2, l3, l4, l5, l6] r h) ∧
  (∀ (l1 l2 l3 l4 l5 l6 : Option Value) (x : Nat) (S : List Value) (h : zH), zD 33 123 [some (.ref x), l1, l2, l3, l4, l5, l6] S h = zD 33 124 [some (.ref x), l1, l2, l3, l4, l5, l6] (.ref x :: S) h) ∧
  (∀ (l0 l1 l2 l3 l4 l5 l6 : Option Value) (a : Nat) (r : List Value) (h : zH) (hx : zfok (h.2.2 a) 9 9 = true), zD 33 124 [l0, l1, l2, l3, l4, l5, l6] (.ref a :: r) h = zD 33 127 [l0, l1, l2, l3, l4, l5, l6] (zfv (h.2.2 a) 9 :: r) h) ∧
  (∀ (l0 l1 l2 l3 l4 l5 l6 : Option Value) (S : List Value) (h : zH), zD 33 127 [l0, l1, l2, l3, l4, l5, l6] S h = zD 33 129 [l0, l1, l2, l3, l4, l5, l6] (.int (8 : Int32) :: S) h) ∧
  (∀ (l0 l1 l2 l3 l4 l5 l6 : Option Value) (S : List Value) (h : zH), zD 33 129 [l0, l1, l2, l3, l4, l5, l6] S h = zD 33 131 [l0, l1, l2, l3, l4, l5, l6] (.int (31 : Int32) :: S) h) ∧
  (∀ (l0 l2 l3 l4 l5 l6 : Option Value) (x : Int32) (S : List Value) (h : zH), zD 33 131 [l0, some (.int x), l2, l3, l4, l5, l6] S h = zD 33 132 [l0, some (.int x), l2, l3, l4, l5, l6] (.int x :: S) h) ∧
  (∀ (l0 l1 l2 l3 l4 l5 l6 : Option Value) (x y : Int32) (r : List Value) (h : zH), zD 33 132 [l0, l1, l2, l3, l4, l5, l6] (.int y :: .int x :: r) h = zD 33 133 [l0, l1, l2, l3, l4, l5, l6] (.int (x * y) :: r) h) ∧
  (∀ (l0 l1 l2 l3 l4 l6 : Option Value) (x : Int32) (S : List Value) (h : zH), zD 33 133 [l0, l1, l2, l3, l4, some (.int x), l6] S h = zD 33 135 [l0, l1, l2, l3, l4, some (.int x), l6] (.int x :: S) h) ∧
  (∀ (l0 l1 l2 l3 l4 l5 l6 : Option Value) (x y : Int32) (r : List Value) (h : zH), zD 33 135 [l0, l1, l2, l3, l4, l5, l6] (.int y :: .int x :: r) h = zD 33 136 [l0, l1, l2, l3, l4, l5, l6] (.int (x + y) :: r) h) ∧
  (∀ (l0 l1 l2 l3 l4 l5 l6 : Option Value) (x y : Int32) (r : List Value) (h : zH), zD 33 136 [l0, l1, l2, l3, l4, l5, l6] (.int y :: .int x :: r) h = zD 33 137 [l0, l1, l2, l3, l4, l5, l6] (.int (x * y) :: r) h) ∧
  (∀ (l0 l1 l2 l3 l4 l5 : Option Value) (x : Int32) (S : List Value) (h : zH), zD 33 137 [l0, l1, l2, l3, l4, l5, some (.int x)] S h = zD 33 139 [l0, l1, l2, l3, l4, l5, some (.int x)] (.int x :: S) h) ∧
  (∀ (l0 l1 l2 l3 l4 l5 l6 : Option Value) (x y : Int32) (r : List Value) (h : zH), zD 33 139 [l0, l1, l2, l3, l4, l5, l6] (.int y :: .int x :: r) h = zD 33 140 [l0, l1, l2, l3, l4, l5, l6] (.int (x + y) :: r) h) ∧
  (∀ (l1 l2 l3 l4 l5 l6 : Option Value) (x : Nat) (S : List Value) (h : zH), zD 33 140 [some (.ref x), l1, l2, l3, l4, l5, l6] S h = zD 33 141 [some (.ref x), l1, l2, l3, l4, l5, l6] (.ref x :: S) h) ∧
  (∀ (l0 l1 l2 l3 l4 l5 l6 : Option Value) (a : Nat) (r : List Value) (h : zH) (hx : zfok (h.2.2 a) 9 9 = true), zD 33 141 [l0, l1, l2, l3, l4, l5, l6] (.ref a :: r) h = zD 33 144 [l0, l1, l2, l3, l4, l5, l6] (zfv (h.2.2 a) 9 :: r) h) ∧
  (∀ (l0 l1 l2 l3 l4 l5 l6 : Option Value) (S : List Value) (h : zH), zD 33 144 [l0, l1, l2, l3, l4, l5, l6] S h = zD 33 146 [l0, l1, l2, l3, l4, l5, l6] (.int (8 : Int32) :: S) h) ∧
  (∀ (l0 l1 l2 l3 l4 l5 l6 : Option Value) (S : List Value) (h : zH), zD 33 146 [l0, l1, l2, l3, l4, l5, l6] S h = zD 33 148 [l0, l1, l2, l3, l4, l5, l6] (.int (31 : Int32) :: S) h) ∧
  (∀ (l0 l2 l3 l4 l5 l6 : Option Value) (x : Int32) (S : List Value) (h : zH), zD 33 148 [l0, some (.int x), l2, l3, l4, l5, l6] S h = zD 33 149 [l0, some (.int x), l2, l3, l4, l5, l6] (.int x :: S) h) ∧
  (∀ (l0 l1 l2 l3 l4 l5 l6 : Option Value) (x y : Int32) (r : List Value) (h : zH), zD 33 149 [l0, l1, l2, l3, l4, l5, l6] (.int y :: .int x :: r) h = zD 33 150 [l0, l1, l2, l3, l4, l5, l6] (.int (x * y) :: r) h) ∧
  (∀ (l0 l1 l2 l3 l4 l6 : Option Value) (x : Int32) (S : List Value) (h : zH), zD 33 150 [l0, l1, l2, l3, l4, some (.int x), l6] S h = zD 33 152 [l0, l1, l2, l3, l4, some (.int x), l6] (.int x :: S) h) ∧
  (∀ (l0 l1 l2 l3 l4 l5 l6 : Option Value) (x y : Int32) (r : List Value) (h : zH), zD 33 152 [l0, l1, l2, l3, l4, l5, l6] (.int y :: .int x :: r) h = zD 33 153 [l0, l1, l2, l3, l4, l5, l6] (.int (x + y) :: r) h) ∧
  (∀ (l0 l1 l2 l3 l4 l5 l6 : Option Value) (S : List Value) (h : zH), zD 33 153 [l0, l1, l2, l3, l4, l5, l6] S h = zD 33 154 [l0, l1, l2, l3, l4, l5, l6] (.int (1 : Int32) :: S) h) ∧
  (∀ (l0 l1 l2 l3 l4 l5 l6 : Option Value) (x y : Int32) (r : List Value) (h : zH), zD 33 154 [l0, l1, l2, l3, l4, l5, l6] (.int y :: .int x :: r) h = zD 33 155 [l0, l1, l2, l3, l4, l5, l6] (.int (x - y) :: r) h) ∧
  (∀ (l0 l1 l2 l3 l4 l5 l6 : Option Value) (x y : Int32) (r : List Value) (h : zH), zD 33 155 [l0, l1, l2, l3, l4, l5, l6] (.int y :: .int x :: r) h = zD 33 156 [l0, l1, l2, l3, l4, l5, l6] (.int (x * y) :: r) h) ∧
  (∀ (l0 l1 l2 l3 l4 l5 : Option Value) (x : Int32) (S : List Value) (h : zH), zD 33 156 [l0, l1, l2, l3, l4, l5, some (.int x)] S h = zD 33 158 [l0, l1, l2, l3, l4, l5, some (.int x)] (.int x :: S) h) ∧
  (∀ (l0 l1 l2 l3 l4 l5 l6 : Option Value) (x y : Int32) (r : List Value) (h : zH), zD 33 158 [l0, l1, l2, l3, l4, l5, l6] (.int y :: .int x :: r) h = zD 33 159 [l0, l1, l2, l3, l4, l5, l6] (.int (x + y) :: r) h) ∧
  (∀ (l0 l1 l2 l3 l4 l5 l6 : Option Value) (i : Int32) (a : Nat) (r : List Value) (h : zH) (hx : ziok a (h.2.2 a) i = true), zD 33 159 [l0, l1, l2, l3, l4, l5, l6] (.int i :: .ref a :: r) h = zD 33 160 [l0, l1, l2, l3, l4, l5, l6] (.int (ziv (h.2.2 a) i) :: r) h) ∧
  (∀ (l0 l1 l2 l3 l4 l5 l6 : Option Value) (w i : Int32) (a : Nat) (r : List Value) (h : zH) (hx : zpok (h.2.2 a) i = true), zD 33 160 [l0, l1, l2, l3, l4, l5, l6] (.int w :: .int i :: .ref a :: r) h = zD 33 161 [l0, l1, l2, l3, l4, l5, l6] r (zw h a (zis' (h.2.2 a) i w))) ∧
  (∀ (l0 l1 l2 l3 l4 l5 : Option Value) (x : Int32) (S : List Value) (h : zH), zD 33 161 [l0, l1, l2, l3, l4, l5, some (.int x)] S h = zD 33 164 [l0, l1, l2, l3, l4, zclr l5, some (.int (x + (1 : Int32)))] S h) ∧
  (∀ (l0 l1 l2 l3 l4 l5 l6 : Option Value) (S : List Value) (h : zH), zD 33 164 [l0, l1, l2, l3, l4, l5, l6] S h = zD 33 114 [l0, l1, l2, l3, l4, l5, l6] S h) ∧
  (∀ (l0 l1 l2 l3 l4 l6 : Option Value) (x : Int32) (S : List Value) (h : zH), zD 33 167 [l0, l1, l2, l3, l4, some (.int x), l6] S h = zD 33 170 [l0, l1, l2, l3, zclr l4, some (.int (x + (-1 : Int32))), l6] S h) ∧
  (∀ (l0 l1 l2 l3 l4 l5 l6 : Option Value) (S : List Value) (h : zH), zD 33 170 [l0, l1, l2, l3, l4, l5, l6] S h = zD 33 79 [l0, l1, l2, l3, l4, l5, l6] S h) ∧
  (∀ (l1 l2 l3 l4 l5 l6 : Option Value) (x : Nat) (S : List Value) (h : zH), zD 33 173 [some (.ref x), l1, l2, l3, l4, l5, l6] S h = zD 33 174 [some (.ref x), l1, l2, l3, l4, l5, l6] (.ref x :: S) h) ∧
  (∀ (l0 l1 l2 l3 l4 l5 l6 : Option Value) (a : Nat) (r : List Value) (h : zH) (hx : zfok (h.2.2 a) 9 8 = true), zD 33 174 [l0, l1, l2, l3, l4, l5, l6] (.ref a :: r) h = zD 33 177 [l0, l1, l2, l3, l4, l5, l6] (zfv (h.2.2 a) 8 :: r) h) ∧
  (∀ (l0 l1 l2 l3 l4 l5 l6 : Option Value) (S : List Value) (h : zH), zD 33 177 [l0, l1, l2, l3, l4, l5, l6] S h = zD 33 179 [l0, l1, l2, l3, l4, l5, l6] (.int (31 : Int32) :: S) h) ∧
  (∀ (l0 l2 l3 l4 l5 l6 : Option Value) (x : Int32) (S : List Value) (h : zH), zD 33 179 [l0, some (.int x), l2, l3, l4, l5, l6] S h = zD 33 180 [l0, some (.int x), l2, l3, l4, l5, l6] (.int x :: S) h) ∧
  (∀ (l0 l1 l2 l3 l4 l5 l6 : Option Value) (x y : Int32) (r : List Value) (h : zH), zD 33 180 [l0, l1, l2, l3, l4, l5, l6] (.int y :: .int x :: r) h = zD 33 181 [l0, l1, l2, l3, l4, l5, l6] (.int (x * y) :: r) h) ∧
  (∀ (l0 l1 l2 l4 l5 l6 : Option Value) (x : Int32) (S : List Value) (h : zH), zD 33 181 [l0, l1, l2, some (.int x), l4, l5, l6] S h = zD 33 182 [l0, l1, l2, some (.int x), l4, l5, l6] (.int x :: S) h) ∧
  (∀ (l0 l1 l2 l3 l4 l5 l6 : Option Value) (x y : Int32) (r : List Value) (h : zH), zD 33 182 [l0, l1, l2, l3, l4, l5, l6] (.int y :: .int x :: r) h = zD 33 183 [l0, l1, l2, l3, l4, l5, l6] (.int (x + y) :: r) h) ∧
  (∀ (l0 l1 l3 l4 l5 l6 : Option Value) (x : Int32) (S : List Value) (h : zH), zD 33 183 [l0, l1, some (.int x), l3, l4, l5, l6] S h = zD 33 184 [l0, l1, some (.int x), l3, l4, l5, l6] (.int x :: S) h) ∧
  (∀ (l0 l1 l2 l3 l4 l5 l6 : Option Value) (w i : Int32) (a : Nat) (r : List Value) (h : zH) (hx : zpok (h.2.2 a) i = true), zD 33 184 [l0, l1, l2, l3, l4, l5, l6] (.int w :: .int i :: .ref a :: r) h = zD 33 185 [l0, l1, l2, l3, l4, l5, l6] r (zw h a (zis' (h.2.2 a) i w))) ∧
  (∀ (l0 l1 l2 l3 l4 l5 l6 : Option Value) (S : List Value) (h : zH), zD 33 185 [l0, l1, l2, l3, l4, l5, l6] S h = zD 33 186 [l0, l1, l2, l3, l4, l5, l6] (.int (1 : Int32) :: S) h) ∧
  (∀ (l0 l1 l2 l3 l4 l5 l6 : Option Value) (x : Int32) (r : List Value) (h : zH), zD 33 186 [l0, l1, l2, l3, l4, l5, l6] (.int x :: r) h = zD 33 188 [l0, l1, l2, l3, zclr l4, some (.int x), l6] r h) ∧
  (∀ (l1 l2 l3 l4 l5 l6 : Option Value) (x : Nat) (S : List Value) (h : zH), zD 33 190 [some (.ref x), l1, l2, l3, l4, l5, l6] S h = zD 33 191 [some (.ref x), l1, l2, l3, l4, l5, l6] (.ref x :: S) h) ∧
  (∀ (l0 l1 l2 l3 l4 l5 l6 : Option Value) (a : Nat) (r : List Value) (h : zH) (hx : zfok (h.2.2 a) 9 0 = true), zD 33 191 [l0, l1, l2, l3, l4, l5, l6] (.ref a :: r) h = zD 33 194 [l0, l1, l2, l3, l4, l5, l6] (zfv (h.2.2 a) 0 :: r) h) ∧
  (∀ (l0 l1 l2 l3 l4 l5 l6 : Option Value) (x y : Int32) (r : List Value) (h : zH), zD 33 194 [l0, l1, l2, l3, l4, l5, l6] (.int y :: .int x :: r) h = if y < x then zD 33 227 [l0, l1, l2, l3, l4, l5, l6] r h else zD 33 197 [l0, l1, l2, l3, l4, l5, l6] r h) ∧
  (∀ (l1 l2 l3 l4 l5 l6 : Option Value) (x : Nat) (S : List Value) (h : zH), zD 33 197 [some (.ref x), l1, l2, l3, l4, l5, l6] S h = zD 33 198 [some (.ref x), l1, l2, l3, l4, l5, l6] (.ref x :: S) h) ∧
  (∀ (l0 l1 l2 l3 l4 l5 l6 : Option Value) (a : Nat) (r : List Value) (h : zH) (hx : zfok (h.2.2 a) 9 9 = true), zD 33 198 [l0, l1, l2, l3, l4, l5, l6] (.ref a :: r) h = zD 33 201 [l0, l1, l2, l3, l4, l5, l6] (zfv (h.2.2 a) 9 :: r) h) ∧
  (∀ (l0 l1 l2 l3 l4 l5 l6 : Option Value) (S : List Value) (h : zH), zD 33 201 [l0, l1, l2, l3, l4, l5, l6] S h = zD 33 203 [l0, l1, l2, l3, l4, l5, l6] (.int (8 : Int32) :: S) h) ∧
  (∀ (l0 l1 l2 l3 l4 l5 l6 : Option Value) (S : List Value) (h : zH), zD 33 203 [l0, l1, l2, l3, l4, l5, l6] S h = zD 33 205 [l0, l1, l2, l3, l4, l5, l6] (.int (31 : Int32) :: S) h) ∧
  (∀ (l0 l2 l3 l4 l5 l6 : Option Value) (x : Int32) (S : List Value) (h : zH), zD 33 205 [l0, some (.int x), l2, l3, l4, l5, l6] S h = zD 33 206 [l0, some (.int x), l2, l3, l4, l5, l6] (.int x :: S) h) ∧
  (∀ (l0 l1 l2 l3 l4 l5 l6 : Option Value) (x y : Int32) (r : List Value) (h : zH), zD 33 206 [l0, l1, l2, l3, l4, l5, l6] (.int y :: .int x :: r) h = zD 33 207 [l0, l1, l2, l3, l4, l5, l6] (.int (x * y) :: r) h) ∧
  (∀ (l0 l1 l2 l4 l5 l6 : Option Value) (x : Int32) (S : List Value) (h : zH), zD 33 207 [l0, l1, l2, some (.int x), l4, l5, l6] S h = zD 33 208 [l0, l1, l2, some (.int x), l4, l5, l6] (.int x :: S) h) ∧
  (∀ (l0 l1 l2 l3 l4 l5 l6 : Option Value) (x y : Int32) (r : List Value) (h : zH), zD 33 208 [l0, l1, l2, l3, l4, l5, l6] (.int y :: .int x :: r) h = zD 33 209 [l0, l1, l2, l3, l4, l5, l6] (.int (x + y) :: r) h) ∧
  (∀ (l0 l1 l2 l3 l4 l5 l6 : Option Value) (x y : Int32) (r : List Value) (h : zH), zD 33 209 [l0, l1, l2, l3, l4, l5, l6] (.int y :: .int x :: r) h = zD 33 210 [l0, l1, l2, l3, l4, l5, l6] (.int (x * y) :: r) h) ∧
  (∀ (l0 l1 l2 l3 l4 l6 : Option Value) (x : Int32) (S : List Value) (h : zH), zD 33 210 [l0, l1, l2, l3, l4, some (.int x), l6] S h = zD 33 212 [l0, l1, l2, l3, l4, some (.int x), l6] (.int x :: S) h) ∧
  (∀ (l0 l1 l2 l3 l4 l5 l6 : Option Value) (x y : Int32) (r : List Value) (h : zH), zD 33 212 [l0, l1, l2, l3, l4, l5, l6] (.int y :: .int x :: r) h = zD 33 213 [l0, l1, l2, l3, l4, l5, l6] (.int (x + y) :: r) h) ∧
  (∀ (l1 l2 l3 l4 l5 l6 : Option Value) (x : Nat) (S : List Value) (h : zH), zD 33 213 [some (.ref x), l1, l2, l3, l4, l5, l6] S h = zD 33 214 [some (.ref x), l1, l2, l3, l4, l5, l6] (.ref x :: S) h) ∧
  (∀ (l0 l1 l2 l3 l4 l5 l6 : Option Value) (a : Nat) (r : List Value) (h : zH) (hx : zfok (h.2.2 a) 9 19 = true), zD 33 214 [l0, l1, l2, l3, l4, l5, l6] (.ref a :: r) h = zD 33 217 [l0, l1, l2, l3, l4, l5, l6] (zfv (h.2.2 a) 19 :: r) h) ∧
  (∀ (l0 l1 l2 l3 l4 l6 : Option Value) (x : Int32) (S : List Value) (h : zH), zD 33 217 [l0, l1, l2, l3, l4, some (.int x), l6] S h = zD 33 219 [l0, l1, l2, l3, l4, some (.int x), l6] (.int x :: S) h) ∧
  (∀ (l0 l1 l2 l3 l4 l5 l6 : Option Value) (i : Int32) (a : Nat) (r : List Value) (h : zH) (hx : ziok a (h.2.2 a) i = true), zD 33 219 [l0, l1, l2, l3, l4, l5, l6] (.int i :: .ref a :: r) h = zD 33 220 [l0, l1, l2, l3, l4, l5, l6] (.int (ziv (h.2.2 a) i) :: r) h) ∧
  (∀ (l0 l1 l2 l3 l4 l5 l6 : Option Value) (w i : Int32) (a : Nat) (r : List Value) (h : zH) (hx : zpok (h.2.2 a) i = true), zD 33 220 [l0, l1, l2, l3, l4, l5, l6] (.int w :: .int i :: .ref a :: r) h = zD 33 221 [l0, l1, l2, l3, l4, l5, l6] r (zw h a (zis' (h.2.2 a) i w))) ∧
  (∀ (l0 l1 l2 l3 l4 l6 : Option Value) (x : Int32) (S : List Value) (h : zH), zD 33 221 [l0, l1, l2, l3, l4, some (.int x), l6] S h = zD 33 224 [l0, l1, l2, l3, zclr l4, some (.int (x + (1 : Int32))), l6] S h) ∧
  (∀ (l0 l1 l2 l3 l4 l5 l6 : Option Value) (S : List Value) (h : zH), zD 33 224 [l0, l1, l2, l3, l4, l5, l6] S h = zD 33 188 [l0, l1, l2, l3, l4, l5, l6] S h) ∧
  (∀ (l1 l2 l3 l4 l5 l6 : Option Value) (x : Nat) (S : List Value) (h : zH), zD 33 227 [some (.ref x), l1, l2, l3, l4, l5, l6] S h = zD 33 228 [some (.ref x), l1, l2, l3, l4, l5, l6] (.ref x :: S) h) ∧
  (∀ (l0 l1 l2 l3 l4 l5 l6 : Option Value) (a : Nat) (r : List Value) (h : zH) (hx : zfok (h.2.2 a) 9 7 = true), zD 33 228 [l0, l1, l2, l3, l4, l5, l6] (.ref a :: r) h = zD 33 231 [l0, l1, l2, l3, l4, l5, l6] (zfv (h.2.2 a) 7 :: r) h) ∧
  (∀ (l0 l2 l3 l4 l5 l6 : Option Value) (x : Int32) (S : List Value) (h : zH), zD 33 231 [l0, some (.int x), l2, l3, l4, l5, l6] S h = zD 33 232 [l0, some (.int x), l2, l3, l4, l5, l6] (.int x :: S) h) ∧
  (∀ (l0 l1 l2 l3 l5 l6 : Option Value) (x : Int32) (S : List Value) (h : zH), zD 33 232 [l0, l1, l2, l3, some (.int x), l5, l6] S h = zD 33 234 [l0, l1, l2, l3, some (.int x), l5, l6] (.int x :: S) h) ∧
  (∀ (l0 l1 l2 l3 l4 l5 l6 : Option Value) (S : List Value) (h : zH), zD 33 234 [l0, l1, l2, l3, l4, l5, l6] S h = zD 33 235 [l0, l1, l2, l3, l4, l5, l6] (.int (1 : Int32) :: S) h) ∧
  (∀ (l0 l1 l2 l3 l4 l5 l6 : Option Value) (x y : Int32) (r : List Value) (h : zH), zD 33 235 [l0, l1, l2, l3, l4, l5, l6] (.int y :: .int x :: r) h = zD 33 236 [l0, l1, l2, l3, l4, l5, l6] (.int (x + y) :: r) h) ∧
  (∀ (l0 l1 l2 l3 l4 l5 l6 : Option Value) (w i : Int32) (a : Nat) (r : List Value) (h : zH) (hx : zpok (h.2.2 a) i = true), zD 33 236 [l0, l1, l2, l3, l4, l5, l6] (.int w :: .int i :: .ref a :: r) h = zD 33 237 [l0, l1, l2, l3, l4, l5, l6] r (zw h a (zis' (h.2.2 a) i w))) ∧
  (∀ (l0 l1 l2 l3 l4 l5 l6 : Option Value) (h : zH), zD 33 237 [l0, l1, l2, l3, l4, l5, l6] [] h = some (none, h)) :=
  ⟨fun l1 l2 l3 l4 l5 l6 x S h => zD_op (ins := .aload_n 0) (len := 1) (c := (1, [some (.ref x), l1, l2, l3, l4, l5, l6], (.ref x :: S), h)) (by decide +kernel) rfl rfl rfl rfl,
  fun l0 l1 l2 l3 l4 l5 l6 a r h hx => zD_getf (i := 27) (ci := 9) (k := 6) (q := (717, 0)) (by decide +kernel) (by decide +kernel) hx,
  fun l0 l2 l3 l4 l5 l6 x S h => zD_op (ins := .iload_n 1) (len := 1) (c := (5, [l0, some (.int x), l2, l3, l4, l5, l6], (.int x :: S), h)) (by decide +kernel) rfl rfl rfl rfl,
  fun l0 l1 l2 l3 l4 l5 l6 x y r h => zD_op (ins := .dup2) (len := 1) (c := (6, [l0, l1, l2, l3, l4, l5, l6], (.int x :: .ref y :: .int x :: .ref y :: r), h)) (by decide +kernel) rfl rfl rfl rfl,
  fun l0 l1 l2 l3 l4 l5 l6 i a r h hx => zD_lald (by decide +kernel) hx,
  fun l0 l1 l2 l3 l4 l5 l6 S h => zD_op (ins := .lconst 1) (len := 1) (c := (8, [l0, l1, l2, l3, l4, l5, l6], (.long (1 : Int64) :: S), h)) (by decide +kernel) rfl rfl rfl rfl,
  fun l0 l1 l2 l3 l4 l5 l6 x y r h => zD_op (ins := .ladd) (len := 1) (c := (9, [l0, l1, l2, l3, l4, l5, l6], (.long (x + y) :: r), h)) (by decide +kernel) rfl rfl rfl rfl,
  fun l0 l1 l2 l3 l4 l5 l6 w i a r h hx => zD_last (by decide +kernel) hx,
  fun l1 l2 l3 l4 l5 l6 x S h => zD_op (ins := .aload_n 0) (len := 1) (c := (11, [some (.ref x), l1, l2, l3, l4, l5, l6], (.ref x :: S), h)) (by decide +kernel) rfl rfl rfl rfl,
  fun l0 l1 l2 l3 l4 l5 l6 a r h hx => zD_getf (i := 31) (ci := 9) (k := 7) (q := (718, 0)) (by decide +kernel) (by decide +kernel) hx,
  fun l0 l2 l3 l4 l5 l6 x S h => zD_op (ins := .iload_n 1) (len := 1) (c := (15, [l0, some (.int x), l2, l3, l4, l5, l6], (.int x :: S), h)) (by decide +kernel) rfl rfl rfl rfl,
  fun l0 l1 l2 l3 l4 l5 l6 i a r h hx => zD_iald (by decide +kernel) hx,
  fun l0 l1 l2 l3 l4 l5 l6 x r h => zD_st1 (k := 3) (ins := .istore_n 3) (len := 1) (by decide +kernel) rfl rfl rfl (by decide +kernel) rfl rfl,
  fun l0 l1 l2 l3 l4 l5 l6 x r h => zD_if0 (cnd := .le) (off := 26) (by decide +kernel) (by decide) rfl,
  fun l1 l2 l3 l4 l5 l6 x S h => zD_op (ins := .aload_n 0) (len := 1) (c := (22, [some (.ref x), l1, l2, l3, l4, l5, l6], (.ref x :: S), h)) (by decide +kernel) rfl rfl rfl rfl,
  fun l0 l1 l2 l3 l4 l5 l6 a r h hx => zD_getf (i := 34) (ci := 9) (k := 8) (q := (719, 0)) (by decide +kernel) (by decide +kernel) hx,
  fun l0 l1 l2 l3 l4 l5 l6 S h => zD_bip (n := 31) (by decide +kernel) (by decide +kernel),
  fun l0 l2 l3 l4 l5 l6 x S h => zD_op (ins := .iload_n 1) (len := 1) (c := (28, [l0, some (.int x), l2, l3, l4, l5, l6], (.int x :: S), h)) (by decide +kernel) rfl rfl rfl rfl,
  fun l0 l1 l2 l3 l4 l5 l6 x y r h => zD_op (ins := .imul) (len := 1) (c := (29, [l0, l1, l2, l3, l4, l5, l6], (.int (x * y) :: r), h)) (by decide +kernel) rfl rfl rfl rfl,
  fun l0 l1 l2 l4 l5 l6 x S h => zD_op (ins := .iload_n 3) (len := 1) (c := (30, [l0, l1, l2, some (.int x), l4, l5, l6], (.int x :: S), h)) (by decide +kernel) rfl rfl rfl rfl,
  fun l0 l1 l2 l3 l4 l5 l6 x y r h => zD_op (ins := .iadd) (len := 1) (c := (31, [l0, l1, l2, l3, l4, l5, l6], (.int (x + y) :: r), h)) (by decide +kernel) rfl rfl rfl rfl,
  fun l0 l1 l2 l3 l4 l5 l6 S h => zD_icst (n := 1) (by decide +kernel) (by decide +kernel),
  fun l0 l1 l2 l3 l4 l5 l6 x y r h => zD_op (ins := .isub) (len := 1) (c := (33, [l0, l1, l2, l3, l4, l5, l6], (.int (x - y) :: r), h)) (by decide +kernel) rfl rfl rfl rfl,
  fun l0 l1 l2 l3 l4 l5 l6 i a r h hx => zD_iald (by decide +kernel) hx,
  fun l0 l1 l3 l4 l5 l6 x S h => zD_op (ins := .iload_n 2) (len := 1) (c := (35, [l0, l1, some (.int x), l3, l4, l5, l6], (.int x :: S), h)) (by decide +kernel) rfl rfl rfl rfl,
  fun l0 l1 l2 l3 l4 l5 l6 x y r h => zD_if (cnd := .ge) (off := 9) (by decide +kernel) (by decide) rfl,
  fun l0 l1 l2 l4 l5 l6 x S h => zD_iinc (k := 3) (x := x) (c := (-1 : Int32)) (n := (-1)) (by decide +kernel) (by decide +kernel) rfl (by decide +kernel) rfl,
  fun l0 l1 l2 l3 l4 l5 l6 S h => zD_goto (off := (-24)) (by decide +kernel) (by decide),
  fun l0 l1 l2 l4 l5 l6 x S h => zD_op (ins := .iload_n 3) (len := 1) (c := (45, [l0, l1, l2, some (.int x), l4, l5, l6], (.int x :: S), h)) (by decide +kernel) rfl rfl rfl rfl,
  fun l0 l1 l2 l3 l4 l5 l6 S h => zD_bip (n := 31) (by decide +kernel) (by decide +kernel),
  fun l0 l1 l2 l3 l4 l5 l6 x y r h => zD_if (cnd := .ne) (off := 4) (by decide +kernel) (by decide) rfl,
  fun l0 l1 l2 l3 l4 l5 l6 h => zD_vret (by decide +kernel) rfl,
  fun l1 l2 l3 l4 l5 l6 x S h => zD_op (ins := .aload_n 0) (len := 1) (c := (52, [some (.ref x), l1, l2, l3, l4, l5, l6], (.ref x :: S), h)) (by decide +kernel) rfl rfl rfl rfl,
  fun l0 l1 l2 l3 l4 l5 l6 a r h hx => zD_getf (i := 31) (ci := 9) (k := 7) (q := (718, 0)) (by decide +kernel) (by decide +kernel) hx,
  fun l0 l2 l3 l4 l5 l6 x S h => zD_op (ins := .iload_n 1) (len := 1) (c := (56, [l0, some (.int x), l2, l3, l4, l5, l6], (.int x :: S), h)) (by decide +kernel) rfl rfl rfl rfl,
  fun l0 l1 l2 l3 l4 l5 l6 i a r h hx => zD_iald (by decide +kernel) hx,
  fun l0 l1 l2 l3 l4 l5 l6 S h => zD_bip (n := 31) (by decide +kernel) (by decide +kernel),
  fun l0 l1 l2 l3 l4 l5 l6 x y r h => zD_if (cnd := .ge) (off := 12) (by decide +kernel) (by decide) rfl,
  fun l1 l2 l3 l4 l5 l6 x S h => zD_op (ins := .aload_n 0) (len := 1) (c := (63, [some (.ref x), l1, l2, l3, l4, l5, l6], (.ref x :: S), h)) (by decide +kernel) rfl rfl rfl rfl,
  fun l0 l1 l2 l3 l4 l5 l6 a r h hx => zD_getf (i := 31) (ci := 9) (k := 7) (q := (718, 0)) (by decide +kernel) (by decide +kernel) hx,
  fun l0 l2 l3 l4 l5 l6 x S h => zD_op (ins := .iload_n 1) (len := 1) (c := (67, [l0, some (.int x), l2, l3, l4, l5, l6], (.int x :: S), h)) (by decide +kernel) rfl rfl rfl rfl,
  fun l0 l1 l2 l3 l4 l5 l6 i a r h hx => zD_iald (by decide +kernel) hx,
  fun l0 l1 l2 l3 l4 l5 l6 S h => zD_goto (off := 5) (by decide +kernel) (by decide),
  fun l0 l1 l2 l3 l4 l5 l6 S h => zD_bip (n := 30) (by decide +kernel) (by decide +kernel),
  fun l0 l1 l2 l3 l4 l5 l6 x r h => zD_st1 (k := 4) (ins := .istore 4) (len := 2) (by decide +kernel) rfl rfl rfl (by decide +kernel) rfl rfl,
  fun l0 l1 l2 l3 l5 l6 x S h => zD_op (ins := .iload 4) (len := 2) (c := (77, [l0, l1, l2, l3, some (.int x), l5, l6], (.int x :: S), h)) (by decide +kernel) rfl rfl rfl rfl,
  fun l0 l1 l2 l3 l4 l5 l6 x r h => zD_st1 (k := 5) (ins := .istore 5) (len := 2) (by decide +kernel) rfl rfl rfl (by decide +kernel) rfl rfl,
  fun l0 l1 l2 l4 l5 l6 x S h => zD_op (ins := .iload_n 3) (len := 1) (c := (82, [l0, l1, l2, some (.int x), l4, l5, l6], (.int x :: S), h)) (by decide +kernel) rfl rfl rfl rfl,
  fun l0 l1 l2 l3 l4 l5 l6 x y r h => zD_if (cnd := .le) (off := 91) (by decide +kernel) (by decide) rfl,
  fun l1 l2 l3 l4 l5 l6 x S h => zD_op (ins := .aload_n 0) (len := 1) (c := (86, [some (.ref x), l1, l2, l3, l4, l5, l6], (.ref x :: S), h)) (by decide +kernel) rfl rfl rfl rfl,
  fun l0 l1 l2 l3 l4 l5 l6 a r h hx => zD_getf (i := 34) (ci := 9) (k := 8) (q := (719, 0)) (by decide +kernel) (by decide +kernel) hx,
  fun l0 l1 l2 l3 l4 l5 l6 S h => zD_bip (n := 31) (by decide +kernel) (by decide +kernel),
  fun l0 l2 l3 l4 l5 l6 x S h => zD_op (ins := .iload_n 1) (len := 1) (c := (92, [l0, some (.int x), l2, l3, l4, l5, l6], (.int x :: S), h)) (by decide +kernel) rfl rfl rfl rfl,
  fun l0 l1 l2 l3 l4 l5 l6 x y r h => zD_op (ins := .imul) (len := 1) (c := (93, [l0, l1, l2, l3, l4, l5, l6], (.int (x * y) :: r), h)) (by decide +kernel) rfl rfl rfl rfl,
  fun l0 l1 l2 l3 l4 l6 x S h => zD_op (ins := .iload 5) (len := 2) (c := (95, [l0, l1, l2, l3, l4, some (.int x), l6], (.int x :: S), h)) (by decide +kernel) rfl rfl rfl rfl,
  fun l0 l1 l2 l3 l4 l5 l6 x y r h => zD_op (ins := .iadd) (len := 1) (c := (96, [l0, l1, l2, l3, l4, l5, l6], (.int (x + y) :: r), h)) (by decide +kernel) rfl rfl rfl rfl,
  fun l1 l2 l3 l4 l5 l6 x S h => zD_op (ins := .aload_n 0) (len := 1) (c := (97, [some (.ref x), l1, l2, l3, l4, l5, l6], (.ref x :: S), h)) (by decide +kernel) rfl rfl rfl rfl,
  fun l0 l1 l2 l3 l4 l5 l6 a r h hx => zD_getf (i := 34) (ci := 9) (k := 8) (q := (719, 0)) (by decide +kernel) (by decide +kernel) hx,
  fun l0 l1 l2 l3 l4 l5 l6 S h => zD_bip (n := 31) (by decide +kernel) (by decide +kernel),
  fun l0 l2 l3 l4 l5 l6 x S h => zD_op (ins := .iload_n 1) (len := 1) (c := (103, [l0, some (.int x), l2, l3, l4, l5, l6], (.int x :: S), h)) (by decide +kernel) rfl rfl rfl rfl,
  fun l0 l1 l2 l3 l4 l5 l6 x y r h => zD_op (ins := .imul) (len := 1) (c := (104, [l0, l1, l2, l3, l4, l5, l6], (.int (x * y) :: r), h)) (by decide +kernel) rfl rfl rfl rfl,
  fun l0 l1 l2 l3 l4 l6 x S h => zD_op (ins := .iload 5) (len := 2) (c := (106, [l0, l1, l2, l3, l4, some (.int x), l6], (.int x :: S), h)) (by decide +kernel) rfl rfl rfl rfl,
  fun l0 l1 l2 l3 l4 l5 l6 x y r h => zD_op (ins := .iadd) (len := 1) (c := (107, [l0, l1, l2, l3, l4, l5, l6], (.int (x + y) :: r), h)) (by decide +kernel) rfl rfl rfl rfl,
  fun l0 l1 l2 l3 l4 l5 l6 S h => zD_icst (n := 1) (by decide +kernel) (by decide +kernel),
  fun l0 l1 l2 l3 l4 l5 l6 x y r h => zD_op (ins := .isub) (len := 1) (c := (109, [l0, l1, l2, l3, l4, l5, l6], (.int (x - y) :: r), h)) (by decide +kernel) rfl rfl rfl rfl,
  fun l0 l1 l2 l3 l4 l5 l6 i a r h hx => zD_iald (by decide +kernel) hx,
  fun l0 l1 l2 l3 l4 l5 l6 w i a r h hx => zD_iast (by decide +kernel) hx,
  fun l0 l1 l2 l3 l4 l5 l6 S h => zD_icst (n := 1) (by decide +kernel) (by decide +kernel),
  fun l0 l1 l2 l3 l4 l5 l6 x r h => zD_st1 (k := 6) (ins := .istore 6) (len := 2) (by decide +kernel) rfl rfl rfl (by decide +kernel) rfl rfl,
  fun l1 l2 l3 l4 l5 l6 x S h => zD_op (ins := .aload_n 0) (len := 1) (c := (117, [some (.ref x), l1, l2, l3, l4, l5, l6], (.ref x :: S), h)) (by decide +kernel) rfl rfl rfl rfl,
  fun l0 l1 l2 l3 l4 l5 l6 a r h hx => zD_getf (i := 7) (ci := 9) (k := 0) (q := (711, 0)) (by decide +kernel) (by decide +kernel) hx,
  fun l0 l1 l2 l3 l4 l5 l6 x y r h => zD_if (cnd := .gt) (off := 47) (by decide +kernel) (by decide) rfl,
  fun l1 l2 l3 l4 l5 l6 x S h => zD_op (ins := .aload_n 0) (len := 1) (c := (124, [some (.ref x), l1, l2, l3, l4, l5, l6], (.ref x :: S), h)) (by decide +kernel) rfl rfl rfl rfl,
  fun l0 l1 l2 l3 l4 l5 l6 a r h hx => zD_getf (i := 37) (ci := 9) (k := 9) (q := (720, 0)) (by decide +kernel) (by decide +kernel) hx,
  fun l0 l1 l2 l3 l4 l5 l6 S h => zD_bip (n := 8) (by decide +kernel) (by decide +kernel),
  fun l0 l1 l2 l3 l4 l5 l6 S h => zD_bip (n := 31) (by decide +kernel) (by decide +kernel),
  fun l0 l2 l3 l4 l5 l6 x S h => zD_op (ins := .iload_n 1) (len := 1) (c := (132, [l0, some (.int x), l2, l3, l4, l5, l6], (.int x :: S), h)) (by decide +kernel) rfl rfl rfl rfl,
  fun l0 l1 l2 l3 l4 l5 l6 x y r h => zD_op (ins := .imul) (len := 1) (c := (133, [l0, l1, l2, l3, l4, l5, l6], (.int (x * y) :: r), h)) (by decide +kernel) rfl rfl rfl rfl,
  fun l0 l1 l2 l3 l4 l6 x S h => zD_op (ins := .iload 5) (len := 2) (c := (135, [l0, l1, l2, l3, l4, some (.int x), l6], (.int x :: S), h)) (by decide +kernel) rfl rfl rfl rfl,
  fun l0 l1 l2 l3 l4 l5 l6 x y r h => zD_op (ins := .iadd) (len := 1) (c := (136, [l0, l1, l2, l3, l4, l5, l6], (.int (x + y) :: r), h)) (by decide +kernel) rfl rfl rfl rfl,
  fun l0 l1 l2 l3 l4 l5 l6 x y r h => zD_op (ins := .imul) (len := 1) (c := (137, [l0, l1, l2, l3, l4, l5, l6], (.int (x * y) :: r), h)) (by decide +kernel) rfl rfl rfl rfl,
  fun l0 l1 l2 l3 l4 l5 x S h => zD_op (ins := .iload 6) (len := 2) (c := (139, [l0, l1, l2, l3, l4, l5, some (.int x)], (.int x :: S), h)) (by decide +kernel) rfl rfl rfl rfl,
  fun l0 l1 l2 l3 l4 l5 l6 x y r h => zD_op (ins := .iadd) (len := 1) (c := (140, [l0, l1, l2, l3, l4, l5, l6], (.int (x + y) :: r), h)) (by decide +kernel) rfl rfl rfl rfl,
  fun l1 l2 l3 l4 l5 l6 x S h => zD_op (ins := .aload_n 0) (len := 1) (c := (141, [some (.ref x), l1, l2, l3, l4, l5, l6], (.ref x :: S), h)) (by decide +kernel) rfl rfl rfl rfl,
  fun l0 l1 l2 l3 l4 l5 l6 a r h hx => zD_getf (i := 37) (ci := 9) (k := 9) (q := (720, 0)) (by decide +kernel) (by decide +kernel) hx,
  fun l0 l1 l2 l3 l4 l5 l6 S h => zD_bip (n := 8) (by decide +kernel) (by decide +kernel),
  fun l0 l1 l2 l3 l4 l5 l6 S h => zD_bip (n := 31) (by decide +kernel) (by decide +kernel),
  fun l0 l2 l3 l4 l5 l6 x S h => zD_op (ins := .iload_n 1) (len := 1) (c := (149, [l0, some (.int x), l2, l3, l4, l5, l6], (.int x :: S), h)) (by decide +kernel) rfl rfl rfl rfl,
  fun l0 l1 l2 l3 l4 l5 l6 x y r h => zD_op (ins := .imul) (len := 1) (c := (150, [l0, l1, l2, l3, l4, l5, l6], (.int (x * y) :: r), h)) (by decide +kernel) rfl rfl rfl rfl,
  fun l0 l1 l2 l3 l4 l6 x S h => zD_op (ins := .iload 5) (len := 2) (c := (152, [l0, l1, l2, l3, l4, some (.int x), l6], (.int x :: S), h)) (by decide +kernel) rfl rfl rfl rfl,
  fun l0 l1 l2 l3 l4 l5 l6 x y r h => zD_op (ins := .iadd) (len := 1) (c := (153, [l0, l1, l2, l3, l4, l5, l6], (.int (x + y) :: r), h)) (by decide +kernel) rfl rfl rfl rfl,
  fun l0 l1 l2 l3 l4 l5 l6 S h => zD_icst (n := 1) (by decide +kernel) (by decide +kernel),
  fun l0 l1 l2 l3 l4 l5 l6 x y r h => zD_op (ins := .isub) (len := 1) (c := (155, [l0, l1, l2, l3, l4, l5, l6], (.int (x - y) :: r), h)) (by decide +kernel) rfl rfl rfl rfl,
  fun l0 l1 l2 l3 l4 l5 l6 x y r h => zD_op (ins := .imul) (len := 1) (c := (156, [l0, l1, l2, l3, l4, l5, l6], (.int (x * y) :: r), h)) (by decide +kernel) rfl rfl rfl rfl,
  fun l0 l1 l2 l3 l4 l5 x S h => zD_op (ins := .iload 6) (len := 2) (c := (158, [l0, l1, l2, l3, l4, l5, some (.int x)], (.int x :: S), h)) (by decide +kernel) rfl rfl rfl rfl,
  fun l0 l1 l2 l3 l4 l5 l6 x y r h => zD_op (ins := .iadd) (len := 1) (c := (159, [l0, l1, l2, l3, l4, l5, l6], (.int (x + y) :: r), h)) (by decide +kernel) rfl rfl rfl rfl,
  fun l0 l1 l2 l3 l4 l5 l6 i a r h hx => zD_iald (by decide +kernel) hx,
  fun l0 l1 l2 l3 l4 l5 l6 w i a r h hx => zD_iast (by decide +kernel) hx,
  fun l0 l1 l2 l3 l4 l5 x S h => zD_iinc (k := 6) (x := x) (c := (1 : Int32)) (n := 1) (by decide +kernel) (by decide +kernel) rfl (by decide +kernel) rfl,
  fun l0 l1 l2 l3 l4 l5 l6 S h => zD_goto (off := (-50)) (by decide +kernel) (by decide),
  fun l0 l1 l2 l3 l4 l6 x S h => zD_iinc (k := 5) (x := x) (c := (-1 : Int32)) (n := (-1)) (by decide +kernel) (by decide +kernel) rfl (by decide +kernel) rfl,
  fun l0 l1 l2 l3 l4 l5 l6 S h => zD_goto (off := (-91)) (by decide +kernel) (by decide),
  fun l1 l2 l3 l4 l5 l6 x S h => zD_op (ins := .aload_n 0) (len := 1) (c := (174, [some (.ref x), l1, l2, l3, l4, l5, l6], (.ref x :: S), h)) (by decide +kernel) rfl rfl rfl rfl,
  fun l0 l1 l2 l3 l4 l5 l6 a r h hx => zD_getf (i := 34) (ci := 9) (k := 8) (q := (719, 0)) (by decide +kernel) (by decide +kernel) hx,
  fun l0 l1 l2 l3 l4 l5 l6 S h => zD_bip (n := 31) (by decide +kernel) (by decide +kernel),
  fun l0 l2 l3 l4 l5 l6 x S h => zD_op (ins := .iload_n 1) (len := 1) (c := (180, [l0, some (.int x), l2, l3, l4, l5, l6], (.int x :: S), h)) (by decide +kernel) rfl rfl rfl rfl,
  fun l0 l1 l2 l3 l4 l5 l6 x y r h => zD_op (ins := .imul) (len := 1) (c := (181, [l0, l1, l2, l3, l4, l5, l6], (.int (x * y) :: r), h)) (by decide +kernel) rfl rfl rfl rfl,
  fun l0 l1 l2 l4 l5 l6 x S h => zD_op (ins := .iload_n 3) (len := 1) (c := (182, [l0, l1, l2, some (.int x), l4, l5, l6], (.int x :: S), h)) (by decide +kernel) rfl rfl rfl rfl,
  fun l0 l1 l2 l3 l4 l5 l6 x y r h => zD_op (ins := .iadd) (len := 1) (c := (183, [l0, l1, l2, l3, l4, l5, l6], (.int (x + y) :: r), h)) (by decide +kernel) rfl rfl rfl rfl,
  fun l0 l1 l3 l4 l5 l6 x S h => zD_op (ins := .iload_n 2) (len := 1) (c := (184, [l0, l1, some (.int x), l3, l4, l5, l6], (.int x :: S), h)) (by decide +kernel) rfl rfl rfl rfl,
  fun l0 l1 l2 l3 l4 l5 l6 w i a r h hx => zD_iast (by decide +kernel) hx,
  fun l0 l1 l2 l3 l4 l5 l6 S h => zD_icst (n := 1) (by decide +kernel) (by decide +kernel),
  fun l0 l1 l2 l3 l4 l5 l6 x r h => zD_st1 (k := 5) (ins := .istore 5) (len := 2) (by decide +kernel) rfl rfl rfl (by decide +kernel) rfl rfl,
  fun l1 l2 l3 l4 l5 l6 x S h => zD_op (ins := .aload_n 0) (len := 1) (c := (191, [some (.ref x), l1, l2, l3, l4, l5, l6], (.ref x :: S), h)) (by decide +kernel) rfl rfl rfl rfl,
  fun l0 l1 l2 l3 l4 l5 l6 a r h hx => zD_getf (i := 7) (ci := 9) (k := 0) (q := (711, 0)) (by decide +kernel) (by decide +kernel) hx,
  fun l0 l1 l2 l3 l4 l5 l6 x y r h => zD_if (cnd := .gt) (off := 33) (by decide +kernel) (by decide) rfl,
  fun l1 l2 l3 l4 l5 l6 x S h => zD_op (ins := .aload_n 0) (len := 1) (c := (198, [some (.ref x), l1, l2, l3, l4, l5, l6], (.ref x :: S), h)) (by decide +kernel) rfl rfl rfl rfl,
  fun l0 l1 l2 l3 l4 l5 l6 a r h hx => zD_getf (i := 37) (ci := 9) (k := 9) (q := (720, 0)) (by decide +kernel) (by decide +kernel) hx,
  fun l0 l1 l2 l3 l4 l5 l6 S h => zD_bip (n := 8) (by decide +kernel) (by decide +kernel),
  fun l0 l1 l2 l3 l4 l5 l6 S h => zD_bip (n := 31) (by decide +kernel) (by decide +kernel),
  fun l0 l2 l3 l4 l5 l6 x S h => zD_op (ins := .iload_n 1) (len := 1) (c := (206, [l0, some (.int x), l2, l3, l4, l5, l6], (.int x :: S), h)) (by decide +kernel) rfl rfl rfl rfl,
  fun l0 l1 l2 l3 l4 l5 l6 x y r h => zD_op (ins := .imul) (len := 1) (c := (207, [l0, l1, l2, l3, l4, l5, l6], (.int (x * y) :: r), h)) (by decide +kernel) rfl rfl rfl rfl,
  fun l0 l1 l2 l4 l5 l6 x S h => zD_op (ins := .iload_n 3) (len := 1) (c := (208, [l0, l1, l2, some (.int x), l4, l5, l6], (.int x :: S), h)) (by decide +kernel) rfl rfl rfl rfl,
  fun l0 l1 l2 l3 l4 l5 l6 x y r h => zD_op (ins := .iadd) (len := 1) (c := (209, [l0, l1, l2, l3, l4, l5, l6], (.int (x + y) :: r), h)) (by decide +kernel) rfl rfl rfl rfl,
  fun l0 l1 l2 l3 l4 l5 l6 x y r h => zD_op (ins := .imul) (len := 1) (c := (210, [l0, l1, l2, l3, l4, l5, l6], (.int (x * y) :: r), h)) (by decide +kernel) rfl rfl rfl rfl,
  fun l0 l1 l2 l3 l4 l6 x S h => zD_op (ins := .iload 5) (len := 2) (c := (212, [l0, l1, l2, l3, l4, some (.int x), l6], (.int x :: S), h)) (by decide +kernel) rfl rfl rfl rfl,
  fun l0 l1 l2 l3 l4 l5 l6 x y r h => zD_op (ins := .iadd) (len := 1) (c := (213, [l0, l1, l2, l3, l4, l5, l6], (.int (x + y) :: r), h)) (by decide +kernel) rfl rfl rfl rfl,
  fun l1 l2 l3 l4 l5 l6 x S h => zD_op (ins := .aload_n 0) (len := 1) (c := (214, [some (.ref x), l1, l2, l3, l4, l5, l6], (.ref x :: S), h)) (by decide +kernel) rfl rfl rfl rfl,
  fun l0 l1 l2 l3 l4 l5 l6 a r h hx => zD_getf (i := 61) (ci := 9) (k := 19) (q := (730, 0)) (by decide +kernel) (by decide +kernel) hx,
  fun l0 l1 l2 l3 l4 l6 x S h => zD_op (ins := .iload 5) (len := 2) (c := (219, [l0, l1, l2, l3, l4, some (.int x), l6], (.int x :: S), h)) (by decide +kernel) rfl rfl rfl rfl,
  fun l0 l1 l2 l3 l4 l5 l6 i a r h hx => zD_iald (by decide +kernel) hx,
  fun l0 l1 l2 l3 l4 l5 l6 w i a r h hx => zD_iast (by decide +kernel) hx,
  fun l0 l1 l2 l3 l4 l6 x S h => zD_iinc (k := 5) (x := x) (c := (1 : Int32)) (n := 1) (by decide +kernel) (by decide +kernel) rfl (by decide +kernel) rfl,
  fun l0 l1 l2 l3 l4 l5 l6 S h => zD_goto (off := (-36)) (by decide +kernel) (by decide),
  fun l1 l2 l3 l4 l5 l6 x S h => zD_op (ins := .aload_n 0) (len := 1) (c := (228, [some (.ref x), l1, l2, l3, l4, l5, l6], (.ref x :: S), h)) (by decide +kernel) rfl rfl rfl rfl,
  fun l0 l1 l2 l3 l4 l5 l6 a r h hx => zD_getf (i := 31) (ci := 9) (k := 7) (q := (718, 0)) (by decide +kernel) (by decide +kernel) hx,
  fun l0 l2 l3 l4 l5 l6 x S h => zD_op (ins := .iload_n 1) (len := 1) (c := (232, [l0, some (.int x), l2, l3, l4, l5, l6], (.int x :: S), h)) (by decide +kernel) rfl rfl rfl rfl,
  fun l0 l1 l2 l3 l5 l6 x S h => zD_op (ins := .iload 4) (len := 2) (c := (234, [l0, l1, l2, l3, some (.int x), l5, l6], (.int x :: S), h)) (by decide +kernel) rfl rfl rfl rfl,
  fun l0 l1 l2 l3 l4 l5 l6 S h => zD_icst (n := 1) (by decide +kernel) (by decide +kernel),
  fun l0 l1 l2 l3 l4 l5 l6 x y r h => zD_op (ins := .iadd) (len := 1) (c := (236, [l0, l1, l2, l3, l4, l5, l6], (.int (x + y) :: r), h)) (by decide +kernel) rfl rfl rfl rfl,
  fun l0 l1 l2 l3 l4 l5 l6 w i a r h hx => zD_iast (by decide +kernel) hx,
  fun l0 l1 l2 l3 l4 l5 l6 h => zD_vret (by decide +kernel) rfl⟩
set_option maxRecDepth 100000 in
theorem E_X10_note_h17 : (∀ (l0 l1 l2 l4 l5 l6 : Option Value) (x : Int32) (S : List Value) (h : zH), zD 33 17 [l0, l1, l2, some (.int x), l4, l5, l6] S h = zD 33 18 [l0, l1, l2, some (.int x), l4, l5, l6] (.int x :: S) h) :=
  fun l0 l1 l2 l4 l5 l6 x S h => zD_op (ins := .iload_n 3) (len := 1) (c := (18, [l0, l1, l2, some (.int x), l4, l5, l6], (.int x :: S), h)) (by decide +kernel) rfl rfl rfl rfl
set_option maxRecDepth 100000 in
theorem E_X10_note_h79 : (∀ (l0 l1 l2 l3 l4 l6 : Option Value) (x : Int32) (S : List Value) (h : zH), zD 33 79 [l0, l1, l2, l3, l4, some (.int x), l6] S h = zD 33 81 [l0, l1, l2, l3, l4, some (.int x), l6] (.int x :: S) h) :=
  fun l0 l1 l2 l3 l4 l6 x S h => zD_op (ins := .iload 5) (len := 2) (c := (81, [l0, l1, l2, l3, l4, some (.int x), l6], (.int x :: S), h)) (by decide +kernel) rfl rfl rfl rfl
set_option maxRecDepth 100000 in
theorem E_X10_note_h114 : (∀ (l0 l1 l2 l3 l4 l5 : Option Value) (x : Int32) (S : List Value) (h : zH), zD 33 114 [l0, l1, l2, l3, l4, l5, some (.int x)] S h = zD 33 116 [l0, l1, l2, l3, l4, l5, some (.int x)] (.int x :: S) h) :=
  fun l0 l1 l2 l3 l4 l5 x S h => zD_op (ins := .iload 6) (len := 2) (c := (116, [l0, l1, l2, l3, l4, l5, some (.int x)], (.int x :: S), h)) (by decide +kernel) rfl rfl rfl rfl
set_option maxRecDepth 100000 in
theorem E_X10_note_h188 : (∀ (l0 l1 l2 l3 l4 l6 : Option Value) (x : Int32) (S : List Value) (h : zH), zD 33 188 [l0, l1, l2, l3, l4, some (.int x), l6] S h = zD 33 190 [l0, l1, l2, l3, l4, some (.int x), l6] (.int x :: S) h) :=
  fun l0 l1 l2 l3 l4 l6 x S h => zD_op (ins := .iload 5) (len := 2) (c := (190, [l0, l1, l2, l3, l4, some (.int x), l6], (.int x :: S), h)) (by decide +kernel) rfl rfl rfl rfl
set_option maxRecDepth 100000 in
theorem I_X10_note : (∀ (a : Nat) (p0 : Int32) (p1 : Int32) (h : zH), zC 33 [.ref a, .int p0, .int p1] h = zD 33 0 [some (.ref a), some (.int p0), some (.int p1), none, none, none, none] [] h) :=
  fun a p0 p1 h => zC_def rfl
set_option maxRecDepth 100000 in
theorem E_X10_counted : (∀ (l0 l1 l2 l3 l4 l5 l6 l7 l8 : Option Value) (S : List Value) (h : zH), zD 34 0 [l0, l1, l2, l3, l4, l5, l6, l7, l8] S h = zD 34 1 [l0, l1, l2, l3, l4, l5, l6, l7, l8] (.int (0 : Int32) :: S) h) ∧
  (∀ (l0 l1 l2 l3 l4 l5 l6 l7 l8 : Option Value) (x : Int32) (r : List Value) (h : zH), zD 34 1 [l0, l1, l2, l3, l4, l5, l6, l7, l8] (.int x :: r) h = zD 34 3 [l0, l1, l2, zclr l3, some (.int x), l5, l6, l7, l8] r h) ∧
  (∀ (l0 l1 l2 l3 l4 l5 l6 l7 l8 : Option Value) (S : List Value) (h : zH), zD 34 3 [l0, l1, l2, l3, l4, l5, l6, l7, l8] S h = zD 34 4 [l0, l1, l2, l3, l4, l5, l6, l7, l8] (.int (0 : Int32) :: S) h) ∧
  (∀ (l0 l1 l2 l3 l4 l5 l6 l7 l8 : Option Value) (x : Int32) (r : List Value) (h : zH), zD 34 4 [l0, l1, l2, l3, l4, l5, l6, l7, l8] (.int x :: r) h = zD 34 6 [l0, l1, l2, l3, zclr l4, some (.int x), l6, l7, l8] r h) ∧
  (∀ (l1 l2 l3 l4 l5 l6 l7 l8 : Option Value) (x : Nat) (S : List Value) (h : zH), zD 34 8 [some (.ref x), l1, l2, l3, l4, l5, l6, l7, l8] S h = zD 34 9 [some (.ref x), l1, l2, l3, l4, l5, l6, l7, l8] (.ref x :: S) h) ∧
  (∀ (l0 l1 l2 l3 l4 l5 l6 l7 l8 : Option Value) (a : Nat) (r : List Value) (h : zH) (hx : zfok (h.2.2 a) 9 10 = true), zD 34 9 [l0, l1, l2, l3, l4, l5, l6, l7, l8] (.ref a :: r) h = zD 34 12 [l0, l1, l2, l3, l4, l5, l6, l7, l8] (zfv (h.2.2 a) 10 :: r) h) ∧
  (∀ (l0 l1 l2 l3 l4 l5 l6 l7 l8 : Option Value) (x y : Int32) (r : List Value) (h : zH), zD 34 12 [l0, l1, l2, l3, l4, l5, l6, l7, l8] (.int y :: .int x :: r) h = if y ≤ x then zD 34 141 [l0, l1, l2, l3, l4, l5, l6, l7, l8] r h else zD 34 15 [l0, l1, l2, l3, l4, l5, l6, l7, l8] r h) ∧
  (∀ (l0 l1 l2 l3 l4 l5 l6 l7 l8 : Option Value) (S : List Value) (h : zH), zD 34 15 [l0, l1, l2, l3, l4, l5, l6, l7, l8] S h = zD 34 16 [l0, l1, l2, l3, l4, l5, l6, l7, l8] (.int (1 : Int32) :: S) h) ∧
  (∀ (l0 l1 l2 l3 l4 l5 l6 l7 l8 : Option Value) (x : Int32) (r : List Value) (h : zH), zD 34 16 [l0, l1, l2, l3, l4, l5, l6, l7, l8] (.int x :: r) h = zD 34 18 [l0, l1, l2, l3, l4, zclr l5, some (.int x), l7, l8] r h) ∧
  (∀ (l1 l2 l3 l4 l5 l6 l7 l8 : Option Value) (x : Nat) (S : List Value) (h : zH), zD 34 20 [some (.ref x), l1, l2, l3, l4, l5, l6, l7, l8] S h = zD 34 21 [some (.ref x), l1, l2, l3, l4, l5, l6, l7, l8] (.ref x :: S) h) ∧
  (∀ (l0 l1 l2 l3 l4 l5 l6 l7 l8 : Option Value) (a : Nat) (r : List Value) (h : zH) (hx : zfok (h.2.2 a) 9 12 = true), zD 34 21 [l0, l1, l2, l3, l4, l5, l6, l7, l8] (.ref a :: r) h = zD 34 24 [l0, l1, l2, l3, l4, l5, l6, l7, l8] (zfv (h.2.2 a) 12 :: r) h) ∧
  (∀ (l0 l1 l2 l3 l4 l6 l7 l8 : Option Value) (x : Int32) (S : List Value) (h : zH), zD 34 24 [l0, l1, l2, l3, l4, some (.int x), l6, l7, l8] S h = zD 34 26 [l0, l1, l2, l3, l4, some (.int x), l6, l7, l8] (.int x :: S) h) ∧
  (∀ (l0 l1 l2 l3 l4 l5 l6 l7 l8 : Option Value) (i : Int32) (a : Nat) (r : List Value) (h : zH) (hx : ziok a (h.2.2 a) i = true), zD 34 26 [l0, l1, l2, l3, l4, l5, l6, l7, l8] (.int i :: .ref a :: r) h = zD 34 27 [l0, l1, l2, l3, l4, l5, l6, l7, l8] (.int (ziv (h.2.2 a) i) :: r) h) ∧
  (∀ (l0 l1 l2 l3 l4 l5 l6 l7 l8 : Option Value) (x y : Int32) (r : List Value) (h : zH), zD 34 27 [l0, l1, l2, l3, l4, l5, l6, l7, l8] (.int y :: .int x :: r) h = if y < x then zD 34 135 [l0, l1, l2, l3, l4, l5, l6, l7, l8] r h else zD 34 30 [l0, l1, l2, l3, l4, l5, l6, l7, l8] r h) ∧
  (∀ (l1 l2 l3 l4 l5 l6 l7 l8 : Option Value) (x : Nat) (S : List Value) (h : zH), zD 34 30 [some (.ref x), l1, l2, l3, l4, l5, l6, l7, l8] S h = zD 34 31 [some (.ref x), l1, l2, l3, l4, l5, l6, l7, l8] (.ref x :: S) h) ∧
  (∀ (l0 l1 l2 l3 l4 l5 l6 l7 l8 : Option Value) (a : Nat) (r : List Value) (h : zH) (hx : zfok (h.2.2 a) 9 11 = true), zD 34 31 [l0, l1, l2, l3, l4, l5, l6, l7, l8] (.ref a :: r) h = zD 34 34 [l0, l1, l2, l3, l4, l5, l6, l7, l8] (zfv (h.2.2 a) 11 :: r) h) ∧
  (∀ (l0 l1 l2 l3 l4 l6 l7 l8 : Option Value) (x : Int32) (S : List Value) (h : zH), zD 34 34 [l0, l1, l2, l3, l4, some (.int x), l6, l7, l8] S h = zD 34 36 [l0, l1, l2, l3, l4, some (.int x), l6, l7, l8] (.int x :: S) h) ∧
  (∀ (l0 l1 l2 l3 l4 l5 l6 l7 l8 : Option Value) (i : Int32) (a : Nat) (r : List Value) (h : zH) (hx : zbok (h.2.2 a) i = true), zD 34 36 [l0, l1, l2, l3, l4, l5, l6, l7, l8] (.int i :: .ref a :: r) h = zD 34 37 [l0, l1, l2, l3, l4, l5, l6, l7, l8] (.int (ziv (h.2.2 a) i) :: r) h) ∧
  (∀ (l0 l1 l2 l3 l4 l5 l6 l7 l8 : Option Value) (x : Int32) (r : List Value) (h : zH), zD 34 37 [l0, l1, l2, l3, l4, l5, l6, l7, l8] (.int x :: r) h = if ¬ x = 0 then zD 34 135 [l0, l1, l2, l3, l4, l5, l6, l7, l8] r h else zD 34 40 [l0, l1, l2, l3, l4, l5, l6, l7, l8] r h) ∧
  (∀ (l1 l2 l3 l4 l5 l6 l7 l8 : Option Value) (x : Nat) (S : List Value) (h : zH), zD 34 40 [some (.ref x), l1, l2, l3, l4, l5, l6, l7, l8] S h = zD 34 41 [some (.ref x), l1, l2, l3, l4, l5, l6, l7, l8] (.ref x :: S) h) ∧
  (∀ (l0 l1 l2 l3 l4 l5 l6 l7 l8 : Option Value) (a : Nat) (r : List Value) (h : zH) (hx : zfok (h.2.2 a) 9 14 = true), zD 34 41 [l0, l1, l2, l3, l4, l5, l6, l7, l8] (.ref a :: r) h = zD 34 44 [l0, l1, l2, l3, l4, l5, l6, l7, l8] (zfv (h.2.2 a) 14 :: r) h) ∧
  (∀ (l0 l1 l2 l3 l4 l5 l6 l7 l8 : Option Value) (S : List Value) (h : zH), zD 34 44 [l0, l1, l2, l3, l4, l5, l6, l7, l8] S h = zD 34 46 [l0, l1, l2, l3, l4, l5, l6, l7, l8] (.int (8 : Int32) :: S) h) ∧
  (∀ (l0 l1 l2 l3 l4 l6 l7 l8 : Option Value) (x : Int32) (S : List Value) (h : zH), zD 34 46 [l0, l1, l2, l3, l4, some (.int x), l6, l7, l8] S h = zD 34 48 [l0, l1, l2, l3, l4, some (.int x), l6, l7, l8] (.int x :: S) h) ∧
  (∀ (l0 l1 l2 l3 l4 l5 l6 l7 l8 : Option Value) (x y : Int32) (r : List Value) (h : zH), zD 34 48 [l0, l1, l2, l3, l4, l5, l6, l7, l8] (.int y :: .int x :: r) h = zD 34 49 [l0, l1, l2, l3, l4, l5, l6, l7, l8] (.int (x * y) :: r) h) ∧
  (∀ (l0 l1 l2 l3 l4 l5 l7 l8 : Option Value) (x : Int32) (S : List Value) (h : zH), zD 34 49 [l0, l1, l2, l3, l4, l5, some (.int x), l7, l8] S h = zD 34 51 [l0, l1, l2, l3, l4, l5, some (.int x), l7, l8] (.int x :: S) h) ∧
  (∀ (l0 l1 l2 l3 l4 l5 l6 l7 l8 : Option Value) (x y : Int32) (r : List Value) (h : zH), zD 34 51 [l0, l1, l2, l3, l4, l5, l6, l7, l8] (.int y :: .int x :: r) h = zD 34 52 [l0, l1, l2, l3, l4, l5, l6, l7, l8] (.int (x + y) :: r) h) ∧
  (∀ (l0 l1 l2 l3 l4 l5 l6 l7 l8 : Option Value) (i : Int32) (a : Nat) (r : List Value) (h : zH) (hx : ziok a (h.2.2 a) i = true), zD 34 52 [l0, l1, l2, l3, l4, l5, l6, l7, l8] (.int i :: .ref a :: r) h = zD 34 53 [l0, l1, l2, l3, l4, l5, l6, l7, l8] (.int (ziv (h.2.2 a) i) :: r) h) ∧
  (∀ (l0 l1 l2 l3 l4 l5 l6 l7 l8 : Option Value) (x : Int32) (r : List Value) (h : zH), zD 34 53 [l0, l1, l2, l3, l4, l5, l6, l7, l8] (.int x :: r) h = zD 34 55 [l0, l1, l2, l3, l4, l5, zclr l6, some (.int x), l8] r h) ∧
  (∀ (l0 l1 l2 l3 l4 l5 l6 l8 : Option Value) (x : Int32) (S : List Value) (h : zH), zD 34 55 [l0, l1, l2, l3, l4, l5, l6, some (.int x), l8] S h = zD 34 57 [l0, l1, l2, l3, l4, l5, l6, some (.int x), l8] (.int x :: S) h) ∧
  (∀ (l0 l1 l2 l3 l4 l5 l6 l7 l8 : Option Value) (x : Int32) (r : List Value) (h : zH), zD 34 57 [l0, l1, l2, l3, l4, l5, l6, l7, l8] (.int x :: r) h = if ¬ x = 0 then zD 34 65 [l0, l1, l2, l3, l4, l5, l6, l7, l8] r h else zD 34 60 [l0, l1, l2, l3, l4, l5, l6, l7, l8] r h) ∧
  (∀ (l0 l1 l2 l3 l4 l5 l6 l7 l8 : Option Value) (S : List Value) (h : zH), zD 34 60 [l0, l1, l2, l3, l4, l5, l6, l7, l8] S h = zD 34 62 [l0, l1, l2, l3, l4, l5, l6, l7, l8] (.int (10 : Int32) :: S) h) ∧
  (∀ (l0 l1 l2 l3 l4 l5 l6 l7 l8 : Option Value) (S : List Value) (h : zH), zD 34 62 [l0, l1, l2, l3, l4, l5, l6, l7, l8] S h = zD 34 78 [l0, l1, l2, l3, l4, l5, l6, l7, l8] S h) ∧
  (∀ (l1 l2 l3 l4 l5 l6 l7 l8 : Option Value) (x : Nat) (S : List Value) (h : zH), zD 34 65 [some (.ref x), l1, l2, l3, l4, l5, l6, l7, l8] S h = zD 34 66 [some (.ref x), l1, l2, l3, l4, l5, l6, l7, l8] (.ref x :: S) h) ∧
  (∀ (l0 l1 l2 l3 l4 l5 l6 l7 l8 : Option Value) (a : Nat) (r : List Value) (h : zH) (hx : zfok (h.2.2 a) 9 13 = true), zD 34 66 [l0, l1, l2, l3, l4, l5, l6, l7, l8] (.ref a :: r) h = zD 34 69 [l0, l1, l2, l3, l4, l5, l6, l7, l8] (zfv (h.2.2 a) 13 :: r) h) ∧
  (∀ (l0 l1 l2 l3 l4 l5 l6 l7 l8 : Option Value) (S : List Value) (h : zH), zD 34 69 [l0, l1, l2, l3, l4, l5, l6, l7, l8] S h = zD 34 71 [l0, l1, l2, l3, l4, l5, l6, l7, l8] (.int (8 : Int32) :: S) h) ∧
  (∀ (l0 l1 l2 l3 l4 l6 l7 l8 : Option Value) (x : Int32) (S : List Value) (h : zH), zD 34 71 [l0, l1, l2, l3, l4, some (.int x), l6, l7, l8] S h = zD 34 73 [l0, l1, l2, l3, l4, some (.int x), l6, l7, l8] (.int x :: S) h) ∧
  (∀ (l0 l1 l2 l3 l4 l5 l6 l7 l8 : Option Value) (x y : Int32) (r : List Value) (h : zH), zD 34 73 [l0, l1, l2, l3, l4, l5, l6, l7, l8] (.int y :: .int x :: r) h = zD 34 74 [l0, l1, l2, l3, l4, l5, l6, l7, l8] (.int (x * y) :: r) h) ∧
  (∀ (l0 l1 l2 l3 l4 l5 l6 l8 : Option Value) (x : Int32) (S : List Value) (h : zH), zD 34 74 [l0, l1, l2, l3, l4, l5, l6, some (.int x), l8] S h = zD 34 76 [l0, l1, l2, l3, l4, l5, l6, some (.int x), l8] (.int x :: S) h) ∧
  (∀ (l0 l1 l2 l3 l4 l5 l6 l7 l8 : Option Value) (x y : Int32) (r : List Value) (h : zH), zD 34 76 [l0, l1, l2, l3, l4, l5, l6, l7, l8] (.int y :: .int x :: r) h = zD 34 77 [l0, l1, l2, l3, l4, l5, l6, l7, l8] (.int (x + y) :: r) h) ∧
  (∀ (l0 l1 l2 l3 l4 l5 l6 l7 l8 : Option Value) (i : Int32) (a : Nat) (r : List Value) (h : zH) (hx : ziok a (h.2.2 a) i = true), zD 34 77 [l0, l1, l2, l3, l4, l5, l6, l7, l8] (.int i :: .ref a :: r) h = zD 34 78 [l0, l1, l2, l3, l4, l5, l6, l7, l8] (.int (ziv (h.2.2 a) i) :: r) h) ∧
  (∀ (l0 l1 l2 l3 l4 l5 l6 l7 l8 : Option Value) (x : Int32) (r : List Value) (h : zH), zD 34 78 [l0, l1, l2, l3, l4, l5, l6, l7, l8] (.int x :: r) h = zD 34 80 [l0, l1, l2, l3, l4, l5, l6, zclr l7, some (.int x)] r h) ∧
  (∀ (l0 l1 l2 l3 l5 l6 l7 l8 : Option Value) (x : Int32) (S : List Value) (h : zH), zD 34 80 [l0, l1, l2, l3, some (.int x), l5, l6, l7, l8] S h = zD 34 82 [l0, l1, l2, l3, some (.int x), l5, l6, l7, l8] (.int x :: S) h) ∧
  (∀ (l0 l1 l2 l3 l4 l5 l6 l7 : Option Value) (x : Int32) (S : List Value) (h : zH), zD 34 82 [l0, l1, l2, l3, l4, l5, l6, l7, some (.int x)] S h = zD 34 84 [l0, l1, l2, l3, l4, l5, l6, l7, some (.int x)] (.int x :: S) h) ∧
  (∀ (l0 l2 l3 l4 l5 l6 l7 l8 : Option Value) (x : Int32) (S : List Value) (h : zH), zD 34 84 [l0, some (.int x), l2, l3, l4, l5, l6, l7, l8] S h = zD 34 85 [l0, some (.int x), l2, l3, l4, l5, l6, l7, l8] (.int x :: S) h) ∧
  (∀ (l0 l1 l2 l3 l4 l5 l6 l7 l8 : Option Value) (x y : Int32) (r : List Value) (h : zH), zD 34 85 [l0, l1, l2, l3, l4, l5, l6, l7, l8] (.int y :: .int x :: r) h = if ¬ x = y then zD 34 125 [l0, l1, l2, l3, l4, l5, l6, l7, l8] r h else zD 34 88 [l0, l1, l2, l3, l4, l5, l6, l7, l8] r h) ∧
  (∀ (l1 l2 l3 l4 l5 l6 l7 l8 : Option Value) (x : Nat) (S : List Value) (h : zH), zD 34 88 [some (.ref x), l1, l2, l3, l4, l5, l6, l7, l8] S h = zD 34 89 [some (.ref x), l1, l2, l3, l4, l5, l6, l7, l8] (.ref x :: S) h) ∧
  (∀ (l0 l1 l2 l3 l4 l5 l6 l7 l8 : Option Value) (a : Nat) (r : List Value) (h : zH) (hx : zfok (h.2.2 a) 9 13 = true), zD 34 89 [l0, l1, l2, l3, l4, l5, l6, l7, l8] (.ref a :: r) h = zD 34 92 [l0, l1, l2, l3, l4, l5, l6, l7, l8] (zfv (h.2.2 a) 13 :: r) h) ∧
  (∀ (l0 l1 l2 l3 l4 l5 l6 l7 l8 : Option Value) (S : List Value) (h : zH), zD 34 92 [l0, l1, l2, l3, l4, l5, l6, l7, l8] S h = zD 34 94 [l0, l1, l2, l3, l4, l5, l6, l7, l8] (.int (8 : Int32) :: S) h) ∧
  (∀ (l0 l1 l2 l3 l4 l6 l7 l8 : Option Value) (x : Int32) (S : List Value) (h : zH), zD 34 94 [l0, l1, l2, l3, l4, some (.int x), l6, l7, l8] S h = zD 34 96 [l0, l1, l2, l3, l4, some (.int x), l6, l7, l8] (.int x :: S) h) ∧
  (∀ (l0 l1 l2 l3 l4 l5 l6 l7 l8 : Option Value) (x y : Int32) (r : List Value) (h : zH), zD 34 96 [l0, l1, l2, l3, l4, l5, l6, l7, l8] (.int y :: .int x :: r) h = zD 34 97 [l0, l1, l2, l3, l4, l5, l6, l7, l8] (.int (x * y) :: r) h) ∧
  (∀ (l0 l1 l2 l3 l4 l5 l7 l8 : Option Value) (x : Int32) (S : List Value) (h : zH), zD 34 97 [l0, l1, l2, l3, l4, l5, some (.int x), l7, l8] S h = zD 34 99 [l0, l1, l2, l3, l4, l5, some (.int x), l7, l8] (.int x :: S) h) ∧
  (∀ (l0 l1 l2 l3 l4 l5 l6 l7 l8 : Option Value) (x y : Int32) (r : List Value) (h : zH), zD 34 99 [l0, l1, l2, l3, l4, l5, l6, l7, l8] (.int y :: .int x :: r) h = zD 34 100 [l0, l1, l2, l3, l4, l5, l6, l7, l8] (.int (x + y) :: r) h) ∧
  (∀ (l0 l1 l2 l3 l4 l5 l6 l7 l8 : Option Value) (i : Int32) (a : Nat) (r : List Value) (h : zH) (hx : ziok a (h.2.2 a) i = true), zD 34 100 [l0, l1, l2, l3, l4, l5, l6, l7, l8] (.int i :: .ref a :: r) h = zD 34 101 [l0, l1, l2, l3, l4, l5, l6, l7, l8] (.int (ziv (h.2.2 a) i) :: r) h) ∧
  (∀ (l0 l1 l3 l4 l5 l6 l7 l8 : Option Value) (x : Int32) (S : List Value) (h : zH), zD 34 101 [l0, l1, some (.int x), l3, l4, l5, l6, l7, l8] S h = zD 34 102 [l0, l1, some (.int x), l3, l4, l5, l6, l7, l8] (.int x :: S) h) ∧
  (∀ (l0 l1 l2 l3 l4 l5 l6 l7 l8 : Option Value) (x y : Int32) (r : List Value) (h : zH), zD 34 102 [l0, l1, l2, l3, l4, l5, l6, l7, l8] (.int y :: .int x :: r) h = if ¬ x = y then zD 34 125 [l0, l1, l2, l3, l4, l5, l6, l7, l8] r h else zD 34 105 [l0, l1, l2, l3, l4, l5, l6, l7, l8] r h) ∧
  (∀ (l0 l1 l2 l3 l4 l5 l6 l8 : Option Value) (x : Int32) (S : List Value) (h : zH), zD 34 105 [l0, l1, l2, l3, l4, l5, l6, some (.int x), l8] S h = zD 34 107 [l0, l1, l2, l3, l4, l5, l6, some (.int x), l8] (.int x :: S) h) ∧
  (∀ (l0 l1 l2 l3 l4 l5 l7 l8 : Option Value) (x : Int32) (S : List Value) (h : zH), zD 34 107 [l0, l1, l2, l3, l4, l5, some (.int x), l7, l8] S h = zD 34 109 [l0, l1, l2, l3, l4, l5, some (.int x), l7, l8] (.int x :: S) h) ∧
  (∀ (l0 l1 l2 l3 l4 l5 l6 l7 l8 : Option Value) (x y : Int32) (r : List Value) (h : zH), zD 34 109 [l0, l1, l2, l3, l4, l5, l6, l7, l8] (.int y :: .int x :: r) h = if y ≤ x then zD 34 116 [l0, l1, l2, l3, l4, l5, l6, l7, l8] r h else zD 34 112 [l0, l1, l2, l3, l4, l5, l6, l7, l8] r h) ∧
  (∀ (l0 l1 l2 l3 l4 l5 l6 l7 l8 : Option Value) (S : List Value) (h : zH), zD 34 112 [l0, l1, l2, l3, l4, l5, l6, l7, l8] S h = zD 34 113 [l0, l1, l2, l3, l4, l5, l6, l7, l8] (.int (0 : Int32) :: S) h) ∧
  (∀ (l0 l1 l2 l3 l4 l5 l6 l7 l8 : Option Value) (S : List Value) (h : zH), zD 34 113 [l0, l1, l2, l3, l4, l5, l6, l7, l8] S h = zD 34 117 [l0, l1, l2, l3, l4, l5, l6, l7, l8] S h) ∧
  (∀ (l0 l1 l2 l3 l4 l5 l6 l7 l8 : Option Value) (S : List Value) (h : zH), zD 34 116 [l0, l1, l2, l3, l4, l5, l6, l7, l8] S h = zD 34 117 [l0, l1, l2, l3, l4, l5, l6, l7, l8] (.int (1 : Int32) :: S) h) ∧
  (∀ (l0 l1 l2 l4 l5 l6 l7 l8 : Option Value) (x : Int32) (S : List Value) (h : zH), zD 34 117 [l0, l1, l2, some (.int x), l4, l5, l6, l7, l8] S h = zD 34 118 [l0, l1, l2, some (.int x), l4, l5, l6, l7, l8] (.int x :: S) h) ∧
  (∀ (l0 l1 l2 l3 l4 l5 l6 l7 l8 : Option Value) (x y : Int32) (r : List Value) (h : zH), zD 34 118 [l0, l1, l2, l3, l4, l5, l6, l7, l8] (.int y :: .int x :: r) h = if ¬ x = y then zD 34 125 [l0, l1, l2, l3, l4, l5, l6, l7, l8] r h else zD 34 121 [l0, l1, l2, l3, l4, l5, l6, l7, l8] r h) ∧
  (∀ (l0 l1 l2 l3 l4 l5 l6 l7 l8 : Option Value) (S : List Value) (h : zH), zD 34 121 [l0, l1, l2, l3, l4, l5, l6, l7, l8] S h = zD 34 122 [l0, l1, l2, l3, l4, l5, l6, l7, l8] (.int (1 : Int32) :: S) h) ∧
  (∀ (l0 l1 l2 l3 l4 l5 l6 l7 l8 : Option Value) (S : List Value) (h : zH), zD 34 122 [l0, l1, l2, l3, l4, l5, l6, l7, l8] S h = zD 34 126 [l0, l1, l2, l3, l4, l5, l6, l7, l8] S h) ∧
  (∀ (l0 l1 l2 l3 l4 l5 l6 l7 l8 : Option Value) (S : List Value) (h : zH), zD 34 125 [l0, l1, l2, l3, l4, l5, l6, l7, l8] S h = zD 34 126 [l0, l1, l2, l3, l4, l5, l6, l7, l8] (.int (0 : Int32) :: S) h) ∧
  (∀ (l0 l1 l2 l3 l4 l5 l6 l7 l8 : Option Value) (x y : Int32) (r : List Value) (h : zH), zD 34 126 [l0, l1, l2, l3, l4, l5, l6, l7, l8] (.int y :: .int x :: r) h = zD 34 127 [l0, l1, l2, l3, l4, l5, l6, l7, l8] (.int (x + y) :: r) h) ∧
  (∀ (l0 l1 l2 l3 l4 l5 l6 l7 l8 : Option Value) (x : Int32) (r : List Value) (h : zH), zD 34 127 [l0, l1, l2, l3, l4, l5, l6, l7, l8] (.int x :: r) h = zD 34 129 [l0, l1, l2, zclr l3, some (.int x), l5, l6, l7, l8] r h) ∧
  (∀ (l0 l1 l2 l3 l4 l5 l7 l8 : Option Value) (x : Int32) (S : List Value) (h : zH), zD 34 129 [l0, l1, l2, l3, l4, l5, some (.int x), l7, l8] S h = zD 34 132 [l0, l1, l2, l3, l4, zclr l5, some (.int (x + (1 : Int32))), l7, l8] S h) ∧
  (∀ (l0 l1 l2 l3 l4 l5 l6 l7 l8 : Option Value) (S : List Value) (h : zH), zD 34 132 [l0, l1, l2, l3, l4, l5, l6, l7, l8] S h = zD 34 18 [l0, l1, l2, l3, l4, l5, l6, l7, l8] S h) ∧
  (∀ (l0 l1 l2 l3 l4 l6 l7 l8 : Option Value) (x : Int32) (S : List Value) (h : zH), zD 34 135 [l0, l1, l2, l3, l4, some (.int x), l6, l7, l8] S h = zD 34 138 [l0, l1, l2, l3, zclr l4, some (.int (x + (1 : Int32))), l6, l7, l8] S h) ∧
  (∀ (l0 l1 l2 l3 l4 l5 l6 l7 l8 : Option Value) (S : List Value) (h : zH), zD 34 138 [l0, l1, l2, l3, l4, l5, l6, l7, l8] S h = zD 34 6 [l0, l1, l2, l3, l4, l5, l6, l7, l8] S h) ∧
  (∀ (l0 l1 l2 l3 l5 l6 l7 l8 : Option Value) (x : Int32) (S : List Value) (h : zH), zD 34 141 [l0, l1, l2, l3, some (.int x), l5, l6, l7, l8] S h = zD 34 143 [l0, l1, l2, l3, some (.int x), l5, l6, l7, l8] (.int x :: S) h) ∧
  (∀ (l0 l1 l2 l3 l4 l5 l6 l7 l8 : Option Value) (v : Int32) (h : zH), zD 34 143 [l0, l1, l2, l3, l4, l5, l6, l7, l8] [.int v] h = some (some (.int v), h)) :=
  ⟨fun l0 l1 l2 l3 l4 l5 l6 l7 l8 S h => zD_icst (n := 0) (by decide +kernel) (by decide +kernel),
  fun l0 l1 l2 l3 l4 l5 l6 l7 l8 x r h => zD_st1 (k := 4) (ins := .istore 4) (len := 2) (by decide +kernel) rfl rfl rfl (by decide +kernel) rfl rfl,
  fun l0 l1 l2 l3 l4 l5 l6 l7 l8 S h => zD_icst (n := 0) (by decide +kernel) (by decide +kernel),
  fun l0 l1 l2 l3 l4 l5 l6 l7 l8 x r h => zD_st1 (k := 5) (ins := .istore 5) (len := 2) (by decide +kernel) rfl rfl rfl (by decide +kernel) rfl rfl,
  fun l1 l2 l3 l4 l5 l6 l7 l8 x S h => zD_op (ins := .aload_n 0) (len := 1) (c := (9, [some (.ref x), l1, l2, l3, l4, l5, l6, l7, l8], (.ref x :: S), h)) (by decide +kernel) rfl rfl rfl rfl,
  fun l0 l1 l2 l3 l4 l5 l6 l7 l8 a r h hx => zD_getf (i := 126) (ci := 9) (k := 10) (q := (721, 0)) (by decide +kernel) (by decide +kernel) hx,
  fun l0 l1 l2 l3 l4 l5 l6 l7 l8 x y r h => zD_if (cnd := .ge) (off := 129) (by decide +kernel) (by decide) rfl,
  fun l0 l1 l2 l3 l4 l5 l6 l7 l8 S h => zD_icst (n := 1) (by decide +kernel) (by decide +kernel),
  fun l0 l1 l2 l3 l4 l5 l6 l7 l8 x r h => zD_st1 (k := 6) (ins := .istore 6) (len := 2) (by decide +kernel) rfl rfl rfl (by decide +kernel) rfl rfl,
  fun l1 l2 l3 l4 l5 l6 l7 l8 x S h => zD_op (ins := .aload_n 0) (len := 1) (c := (21, [some (.ref x), l1, l2, l3, l4, l5, l6, l7, l8], (.ref x :: S), h)) (by decide +kernel) rfl rfl rfl rfl,
  fun l0 l1 l2 l3 l4 l5 l6 l7 l8 a r h hx => zD_getf (i := 43) (ci := 9) (k := 12) (q := (723, 0)) (by decide +kernel) (by decide +kernel) hx,
  fun l0 l1 l2 l3 l4 l6 l7 l8 x S h => zD_op (ins := .iload 5) (len := 2) (c := (26, [l0, l1, l2, l3, l4, some (.int x), l6, l7, l8], (.int x :: S), h)) (by decide +kernel) rfl rfl rfl rfl,
  fun l0 l1 l2 l3 l4 l5 l6 l7 l8 i a r h hx => zD_iald (by decide +kernel) hx,
  fun l0 l1 l2 l3 l4 l5 l6 l7 l8 x y r h => zD_if (cnd := .gt) (off := 108) (by decide +kernel) (by decide) rfl,
  fun l1 l2 l3 l4 l5 l6 l7 l8 x S h => zD_op (ins := .aload_n 0) (len := 1) (c := (31, [some (.ref x), l1, l2, l3, l4, l5, l6, l7, l8], (.ref x :: S), h)) (by decide +kernel) rfl rfl rfl rfl,
  fun l0 l1 l2 l3 l4 l5 l6 l7 l8 a r h hx => zD_getf (i := 40) (ci := 9) (k := 11) (q := (722, 0)) (by decide +kernel) (by decide +kernel) hx,
  fun l0 l1 l2 l3 l4 l6 l7 l8 x S h => zD_op (ins := .iload 5) (len := 2) (c := (36, [l0, l1, l2, l3, l4, some (.int x), l6, l7, l8], (.int x :: S), h)) (by decide +kernel) rfl rfl rfl rfl,
  fun l0 l1 l2 l3 l4 l5 l6 l7 l8 i a r h hx => zD_bald (by decide +kernel) hx,
  fun l0 l1 l2 l3 l4 l5 l6 l7 l8 x r h => zD_if0 (cnd := .ne) (off := 98) (by decide +kernel) (by decide) rfl,
  fun l1 l2 l3 l4 l5 l6 l7 l8 x S h => zD_op (ins := .aload_n 0) (len := 1) (c := (41, [some (.ref x), l1, l2, l3, l4, l5, l6, l7, l8], (.ref x :: S), h)) (by decide +kernel) rfl rfl rfl rfl,
  fun l0 l1 l2 l3 l4 l5 l6 l7 l8 a r h hx => zD_getf (i := 49) (ci := 9) (k := 14) (q := (725, 0)) (by decide +kernel) (by decide +kernel) hx,
  fun l0 l1 l2 l3 l4 l5 l6 l7 l8 S h => zD_bip (n := 8) (by decide +kernel) (by decide +kernel),
  fun l0 l1 l2 l3 l4 l6 l7 l8 x S h => zD_op (ins := .iload 5) (len := 2) (c := (48, [l0, l1, l2, l3, l4, some (.int x), l6, l7, l8], (.int x :: S), h)) (by decide +kernel) rfl rfl rfl rfl,
  fun l0 l1 l2 l3 l4 l5 l6 l7 l8 x y r h => zD_op (ins := .imul) (len := 1) (c := (49, [l0, l1, l2, l3, l4, l5, l6, l7, l8], (.int (x * y) :: r), h)) (by decide +kernel) rfl rfl rfl rfl,
  fun l0 l1 l2 l3 l4 l5 l7 l8 x S h => zD_op (ins := .iload 6) (len := 2) (c := (51, [l0, l1, l2, l3, l4, l5, some (.int x), l7, l8], (.int x :: S), h)) (by decide +kernel) rfl rfl rfl rfl,
  fun l0 l1 l2 l3 l4 l5 l6 l7 l8 x y r h => zD_op (ins := .iadd) (len := 1) (c := (52, [l0, l1, l2, l3, l4, l5, l6, l7, l8], (.int (x + y) :: r), h)) (by decide +kernel) rfl rfl rfl rfl,
  fun l0 l1 l2 l3 l4 l5 l6 l7 l8 i a r h hx => zD_iald (by decide +kernel) hx,
  fun l0 l1 l2 l3 l4 l5 l6 l7 l8 x r h => zD_st1 (k := 7) (ins := .istore 7) (len := 2) (by decide +kernel) rfl rfl rfl (by decide +kernel) rfl rfl,
  fun l0 l1 l2 l3 l4 l5 l6 l8 x S h => zD_op (ins := .iload 7) (len := 2) (c := (57, [l0, l1, l2, l3, l4, l5, l6, some (.int x), l8], (.int x :: S), h)) (by decide +kernel) rfl rfl rfl rfl,
  fun l0 l1 l2 l3 l4 l5 l6 l7 l8 x r h => zD_if0 (cnd := .ne) (off := 8) (by decide +kernel) (by decide) rfl,
  fun l0 l1 l2 l3 l4 l5 l6 l7 l8 S h => zD_bip (n := 10) (by decide +kernel) (by decide +kernel),
  fun l0 l1 l2 l3 l4 l5 l6 l7 l8 S h => zD_goto (off := 16) (by decide +kernel) (by decide),
  fun l1 l2 l3 l4 l5 l6 l7 l8 x S h => zD_op (ins := .aload_n 0) (len := 1) (c := (66, [some (.ref x), l1, l2, l3, l4, l5, l6, l7, l8], (.ref x :: S), h)) (by decide +kernel) rfl rfl rfl rfl,
  fun l0 l1 l2 l3 l4 l5 l6 l7 l8 a r h hx => zD_getf (i := 46) (ci := 9) (k := 13) (q := (724, 0)) (by decide +kernel) (by decide +kernel) hx,
  fun l0 l1 l2 l3 l4 l5 l6 l7 l8 S h => zD_bip (n := 8) (by decide +kernel) (by decide +kernel),
  fun l0 l1 l2 l3 l4 l6 l7 l8 x S h => zD_op (ins := .iload 5) (len := 2) (c := (73, [l0, l1, l2, l3, l4, some (.int x), l6, l7, l8], (.int x :: S), h)) (by decide +kernel) rfl rfl rfl rfl,
  fun l0 l1 l2 l3 l4 l5 l6 l7 l8 x y r h => zD_op (ins := .imul) (len := 1) (c := (74, [l0, l1, l2, l3, l4, l5, l6, l7, l8], (.int (x * y) :: r), h)) (by decide +kernel) rfl rfl rfl rfl,
  fun l0 l1 l2 l3 l4 l5 l6 l8 x S h => zD_op (ins := .iload 7) (len := 2) (c := (76, [l0, l1, l2, l3, l4, l5, l6, some (.int x), l8], (.int x :: S), h)) (by decide +kernel) rfl rfl rfl rfl,
  fun l0 l1 l2 l3 l4 l5 l6 l7 l8 x y r h => zD_op (ins := .iadd) (len := 1) (c := (77, [l0, l1, l2, l3, l4, l5, l6, l7, l8], (.int (x + y) :: r), h)) (by decide +kernel) rfl rfl rfl rfl,
  fun l0 l1 l2 l3 l4 l5 l6 l7 l8 i a r h hx => zD_iald (by decide +kernel) hx,
  fun l0 l1 l2 l3 l4 l5 l6 l7 l8 x r h => zD_st1 (k := 8) (ins := .istore 8) (len := 2) (by decide +kernel) rfl rfl rfl (by decide +kernel) rfl rfl,
  fun l0 l1 l2 l3 l5 l6 l7 l8 x S h => zD_op (ins := .iload 4) (len := 2) (c := (82, [l0, l1, l2, l3, some (.int x), l5, l6, l7, l8], (.int x :: S), h)) (by decide +kernel) rfl rfl rfl rfl,
  fun l0 l1 l2 l3 l4 l5 l6 l7 x S h => zD_op (ins := .iload 8) (len := 2) (c := (84, [l0, l1, l2, l3, l4, l5, l6, l7, some (.int x)], (.int x :: S), h)) (by decide +kernel) rfl rfl rfl rfl,
  fun l0 l2 l3 l4 l5 l6 l7 l8 x S h => zD_op (ins := .iload_n 1) (len := 1) (c := (85, [l0, some (.int x), l2, l3, l4, l5, l6, l7, l8], (.int x :: S), h)) (by decide +kernel) rfl rfl rfl rfl,
  fun l0 l1 l2 l3 l4 l5 l6 l7 l8 x y r h => zD_if (cnd := .ne) (off := 40) (by decide +kernel) (by decide) rfl,
  fun l1 l2 l3 l4 l5 l6 l7 l8 x S h => zD_op (ins := .aload_n 0) (len := 1) (c := (89, [some (.ref x), l1, l2, l3, l4, l5, l6, l7, l8], (.ref x :: S), h)) (by decide +kernel) rfl rfl rfl rfl,
  fun l0 l1 l2 l3 l4 l5 l6 l7 l8 a r h hx => zD_getf (i := 46) (ci := 9) (k := 13) (q := (724, 0)) (by decide +kernel) (by decide +kernel) hx,
  fun l0 l1 l2 l3 l4 l5 l6 l7 l8 S h => zD_bip (n := 8) (by decide +kernel) (by decide +kernel),
  fun l0 l1 l2 l3 l4 l6 l7 l8 x S h => zD_op (ins := .iload 5) (len := 2) (c := (96, [l0, l1, l2, l3, l4, some (.int x), l6, l7, l8], (.int x :: S), h)) (by decide +kernel) rfl rfl rfl rfl,
  fun l0 l1 l2 l3 l4 l5 l6 l7 l8 x y r h => zD_op (ins := .imul) (len := 1) (c := (97, [l0, l1, l2, l3, l4, l5, l6, l7, l8], (.int (x * y) :: r), h)) (by decide +kernel) rfl rfl rfl rfl,
  fun l0 l1 l2 l3 l4 l5 l7 l8 x S h => zD_op (ins := .iload 6) (len := 2) (c := (99, [l0, l1, l2, l3, l4, l5, some (.int x), l7, l8], (.int x :: S), h)) (by decide +kernel) rfl rfl rfl rfl,
  fun l0 l1 l2 l3 l4 l5 l6 l7 l8 x y r h => zD_op (ins := .iadd) (len := 1) (c := (100, [l0, l1, l2, l3, l4, l5, l6, l7, l8], (.int (x + y) :: r), h)) (by decide +kernel) rfl rfl rfl rfl,
  fun l0 l1 l2 l3 l4 l5 l6 l7 l8 i a r h hx => zD_iald (by decide +kernel) hx,
  fun l0 l1 l3 l4 l5 l6 l7 l8 x S h => zD_op (ins := .iload_n 2) (len := 1) (c := (102, [l0, l1, some (.int x), l3, l4, l5, l6, l7, l8], (.int x :: S), h)) (by decide +kernel) rfl rfl rfl rfl,
  fun l0 l1 l2 l3 l4 l5 l6 l7 l8 x y r h => zD_if (cnd := .ne) (off := 23) (by decide +kernel) (by decide) rfl,
  fun l0 l1 l2 l3 l4 l5 l6 l8 x S h => zD_op (ins := .iload 7) (len := 2) (c := (107, [l0, l1, l2, l3, l4, l5, l6, some (.int x), l8], (.int x :: S), h)) (by decide +kernel) rfl rfl rfl rfl,
  fun l0 l1 l2 l3 l4 l5 l7 l8 x S h => zD_op (ins := .iload 6) (len := 2) (c := (109, [l0, l1, l2, l3, l4, l5, some (.int x), l7, l8], (.int x :: S), h)) (by decide +kernel) rfl rfl rfl rfl,
  fun l0 l1 l2 l3 l4 l5 l6 l7 l8 x y r h => zD_if (cnd := .ge) (off := 7) (by decide +kernel) (by decide) rfl,
  fun l0 l1 l2 l3 l4 l5 l6 l7 l8 S h => zD_icst (n := 0) (by decide +kernel) (by decide +kernel),
  fun l0 l1 l2 l3 l4 l5 l6 l7 l8 S h => zD_goto (off := 4) (by decide +kernel) (by decide),
  fun l0 l1 l2 l3 l4 l5 l6 l7 l8 S h => zD_icst (n := 1) (by decide +kernel) (by decide +kernel),
  fun l0 l1 l2 l4 l5 l6 l7 l8 x S h => zD_op (ins := .iload_n 3) (len := 1) (c := (118, [l0, l1, l2, some (.int x), l4, l5, l6, l7, l8], (.int x :: S), h)) (by decide +kernel) rfl rfl rfl rfl,
  fun l0 l1 l2 l3 l4 l5 l6 l7 l8 x y r h => zD_if (cnd := .ne) (off := 7) (by decide +kernel) (by decide) rfl,
  fun l0 l1 l2 l3 l4 l5 l6 l7 l8 S h => zD_icst (n := 1) (by decide +kernel) (by decide +kernel),
  fun l0 l1 l2 l3 l4 l5 l6 l7 l8 S h => zD_goto (off := 4) (by decide +kernel) (by decide),
  fun l0 l1 l2 l3 l4 l5 l6 l7 l8 S h => zD_icst (n := 0) (by decide +kernel) (by decide +kernel),
  fun l0 l1 l2 l3 l4 l5 l6 l7 l8 x y r h => zD_op (ins := .iadd) (len := 1) (c := (127, [l0, l1, l2, l3, l4, l5, l6, l7, l8], (.int (x + y) :: r), h)) (by decide +kernel) rfl rfl rfl rfl,
  fun l0 l1 l2 l3 l4 l5 l6 l7 l8 x r h => zD_st1 (k := 4) (ins := .istore 4) (len := 2) (by decide +kernel) rfl rfl rfl (by decide +kernel) rfl rfl,
  fun l0 l1 l2 l3 l4 l5 l7 l8 x S h => zD_iinc (k := 6) (x := x) (c := (1 : Int32)) (n := 1) (by decide +kernel) (by decide +kernel) rfl (by decide +kernel) rfl,
  fun l0 l1 l2 l3 l4 l5 l6 l7 l8 S h => zD_goto (off := (-114)) (by decide +kernel) (by decide),
  fun l0 l1 l2 l3 l4 l6 l7 l8 x S h => zD_iinc (k := 5) (x := x) (c := (1 : Int32)) (n := 1) (by decide +kernel) (by decide +kernel) rfl (by decide +kernel) rfl,
  fun l0 l1 l2 l3 l4 l5 l6 l7 l8 S h => zD_goto (off := (-132)) (by decide +kernel) (by decide),
  fun l0 l1 l2 l3 l5 l6 l7 l8 x S h => zD_op (ins := .iload 4) (len := 2) (c := (143, [l0, l1, l2, l3, some (.int x), l5, l6, l7, l8], (.int x :: S), h)) (by decide +kernel) rfl rfl rfl rfl,
  fun l0 l1 l2 l3 l4 l5 l6 l7 l8 v h => zD_ireti (by decide +kernel) rfl⟩
set_option maxRecDepth 100000 in
theorem E_X10_counted_h6 : (∀ (l0 l1 l2 l3 l4 l6 l7 l8 : Option Value) (x : Int32) (S : List Value) (h : zH), zD 34 6 [l0, l1, l2, l3, l4, some (.int x), l6, l7, l8] S h = zD 34 8 [l0, l1, l2, l3, l4, some (.int x), l6, l7, l8] (.int x :: S) h) :=
  fun l0 l1 l2 l3 l4 l6 l7 l8 x S h => zD_op (ins := .iload 5) (len := 2) (c := (8, [l0, l1, l2, l3, l4, some (.int x), l6, l7, l8], (.int x :: S), h)) (by decide +kernel) rfl rfl rfl rfl
set_option maxRecDepth 100000 in
theorem E_X10_counted_h18 : (∀ (l0 l1 l2 l3 l4 l5 l7 l8 : Option Value) (x : Int32) (S : List Value) (h : zH), zD 34 18 [l0, l1, l2, l3, l4, l5, some (.int x), l7, l8] S h = zD 34 20 [l0, l1, l2, l3, l4, l5, some (.int x), l7, l8] (.int x :: S) h) :=
  fun l0 l1 l2 l3 l4 l5 l7 l8 x S h => zD_op (ins := .iload 6) (len := 2) (c := (20, [l0, l1, l2, l3, l4, l5, some (.int x), l7, l8], (.int x :: S), h)) (by decide +kernel) rfl rfl rfl rfl
set_option maxRecDepth 100000 in
theorem I_X10_counted : (∀ (a : Nat) (p0 : Int32) (p1 : Int32) (p2 : Int32) (h : zH), zC 34 [.ref a, .int p0, .int p1, .int p2] h = zD 34 0 [some (.ref a), some (.int p0), some (.int p1), some (.int p2), none, none, none, none, none] [] h) :=
  fun a p0 p1 p2 h => zC_def rfl
set_option maxRecDepth 100000 in
theorem E_X10_clear : (∀ (l1 : Option Value) (x : Nat) (S : List Value) (h : zH), zD 35 0 [some (.ref x), l1] S h = zD 35 1 [some (.ref x), l1] (.ref x :: S) h) ∧
  (∀ (l0 l1 : Option Value) (a : Nat) (r : List Value) (h : zH) (hx : zfok (h.2.2 a) 9 15 = true), zD 35 1 [l0, l1] (.ref a :: r) h = zD 35 4 [l0, l1] (zfv (h.2.2 a) 15 :: r) h) ∧
  (∀ (l0 l1 : Option Value) (x : Int32) (r : List Value) (h : zH), zD 35 4 [l0, l1] (.int x :: r) h = zD 35 5 [zclr l0, some (.int x)] r h) ∧
  (∀ (l1 : Option Value) (x : Nat) (S : List Value) (h : zH), zD 35 5 [some (.ref x), l1] S h = zD 35 6 [some (.ref x), l1] (.ref x :: S) h) ∧
  (∀ (l0 l1 : Option Value) (S : List Value) (h : zH), zD 35 6 [l0, l1] S h = zD 35 7 [l0, l1] (.int (0 : Int32) :: S) h) ∧
  (∀ (l0 l1 : Option Value) (v : Int32) (a : Nat) (r : List Value) (h : zH) (hx : zfok (h.2.2 a) 9 15 = true), zD 35 7 [l0, l1] (.int v :: .ref a :: r) h = zD 35 10 [l0, l1] r (zw h a (zfs' (h.2.2 a) 15 (.int v)))) ∧
  (∀ (l0 : Option Value) (x : Int32) (S : List Value) (h : zH), zD 35 10 [l0, some (.int x)] S h = zD 35 11 [l0, some (.int x)] (.int x :: S) h) ∧
  (∀ (l0 l1 : Option Value) (v : Int32) (h : zH), zD 35 11 [l0, l1] [.int v] h = some (some (.int v), h)) :=
  ⟨fun l1 x S h => zD_op (ins := .aload_n 0) (len := 1) (c := (1, [some (.ref x), l1], (.ref x :: S), h)) (by decide +kernel) rfl rfl rfl rfl,
  fun l0 l1 a r h hx => zD_getf (i := 136) (ci := 9) (k := 15) (q := (726, 0)) (by decide +kernel) (by decide +kernel) hx,
  fun l0 l1 x r h => zD_st1 (k := 1) (ins := .istore_n 1) (len := 1) (by decide +kernel) rfl rfl rfl (by decide +kernel) rfl rfl,
  fun l1 x S h => zD_op (ins := .aload_n 0) (len := 1) (c := (6, [some (.ref x), l1], (.ref x :: S), h)) (by decide +kernel) rfl rfl rfl rfl,
  fun l0 l1 S h => zD_icst (n := 0) (by decide +kernel) (by decide +kernel),
  fun l0 l1 v a r h hx => zD_putf (i := 136) (ci := 9) (k := 15) (q := (726, 0)) (by decide +kernel) (by decide +kernel) (by decide +kernel) hx rfl rfl,
  fun l0 x S h => zD_op (ins := .iload_n 1) (len := 1) (c := (11, [l0, some (.int x)], (.int x :: S), h)) (by decide +kernel) rfl rfl rfl rfl,
  fun l0 l1 v h => zD_ireti (by decide +kernel) rfl⟩
set_option maxRecDepth 100000 in
theorem I_X10_clear : (∀ (a : Nat) (h : zH), zC 35 [.ref a] h = zD 35 0 [some (.ref a), none] [] h) :=
  fun a h => zC_def rfl
set_option maxRecDepth 100000 in
theorem E_X10_sizeOf : (∀ (l0 : Option Value) (x : Int32) (S : List Value) (h : zH), zD 36 0 [l0, some (.int x)] S h = zD 36 1 [l0, some (.int x)] (.int x :: S) h) ∧
  (∀ (l0 l1 : Option Value) (S : List Value) (h : zH), zD 36 1 [l0, l1] S h = zD 36 2 [l0, l1] (.int (-1 : Int32) :: S) h) ∧
  (∀ (l0 l1 : Option Value) (x y : Int32) (r : List Value) (h : zH), zD 36 2 [l0, l1] (.int y :: .int x :: r) h = if ¬ x = y then zD 36 12 [l0, l1] r h else zD 36 5 [l0, l1] r h) ∧
  (∀ (l1 : Option Value) (x : Nat) (S : List Value) (h : zH), zD 36 5 [some (.ref x), l1] S h = zD 36 6 [some (.ref x), l1] (.ref x :: S) h) ∧
  (∀ (l0 l1 : Option Value) (a : Nat) (r : List Value) (h : zH) (hx : zfok (h.2.2 a) 9 0 = true), zD 36 6 [l0, l1] (.ref a :: r) h = zD 36 9 [l0, l1] (zfv (h.2.2 a) 0 :: r) h) ∧
  (∀ (l0 l1 : Option Value) (S : List Value) (h : zH), zD 36 9 [l0, l1] S h = zD 36 18 [l0, l1] S h) ∧
  (∀ (l1 : Option Value) (x : Nat) (S : List Value) (h : zH), zD 36 12 [some (.ref x), l1] S h = zD 36 13 [some (.ref x), l1] (.ref x :: S) h) ∧
  (∀ (l0 l1 : Option Value) (a : Nat) (r : List Value) (h : zH) (hx : zfok (h.2.2 a) 9 12 = true), zD 36 13 [l0, l1] (.ref a :: r) h = zD 36 16 [l0, l1] (zfv (h.2.2 a) 12 :: r) h) ∧
  (∀ (l0 : Option Value) (x : Int32) (S : List Value) (h : zH), zD 36 16 [l0, some (.int x)] S h = zD 36 17 [l0, some (.int x)] (.int x :: S) h) ∧
  (∀ (l0 l1 : Option Value) (i : Int32) (a : Nat) (r : List Value) (h : zH) (hx : ziok a (h.2.2 a) i = true), zD 36 17 [l0, l1] (.int i :: .ref a :: r) h = zD 36 18 [l0, l1] (.int (ziv (h.2.2 a) i) :: r) h) ∧
  (∀ (l0 l1 : Option Value) (v : Int32) (h : zH), zD 36 18 [l0, l1] [.int v] h = some (some (.int v), h)) :=
  ⟨fun l0 x S h => zD_op (ins := .iload_n 1) (len := 1) (c := (1, [l0, some (.int x)], (.int x :: S), h)) (by decide +kernel) rfl rfl rfl rfl,
  fun l0 l1 S h => zD_icst (n := (-1)) (by decide +kernel) (by decide +kernel),
  fun l0 l1 x y r h => zD_if (cnd := .ne) (off := 10) (by decide +kernel) (by decide) rfl,
  fun l1 x S h => zD_op (ins := .aload_n 0) (len := 1) (c := (6, [some (.ref x), l1], (.ref x :: S), h)) (by decide +kernel) rfl rfl rfl rfl,
  fun l0 l1 a r h hx => zD_getf (i := 7) (ci := 9) (k := 0) (q := (711, 0)) (by decide +kernel) (by decide +kernel) hx,
  fun l0 l1 S h => zD_goto (off := 9) (by decide +kernel) (by decide),
  fun l1 x S h => zD_op (ins := .aload_n 0) (len := 1) (c := (13, [some (.ref x), l1], (.ref x :: S), h)) (by decide +kernel) rfl rfl rfl rfl,
  fun l0 l1 a r h hx => zD_getf (i := 43) (ci := 9) (k := 12) (q := (723, 0)) (by decide +kernel) (by decide +kernel) hx,
  fun l0 x S h => zD_op (ins := .iload_n 1) (len := 1) (c := (17, [l0, some (.int x)], (.int x :: S), h)) (by decide +kernel) rfl rfl rfl rfl,
  fun l0 l1 i a r h hx => zD_iald (by decide +kernel) hx,
  fun l0 l1 v h => zD_ireti (by decide +kernel) rfl⟩
set_option maxRecDepth 100000 in
theorem I_X10_sizeOf : (∀ (a : Nat) (p0 : Int32) (h : zH), zC 36 [.ref a, .int p0] h = zD 36 0 [some (.ref a), some (.int p0)] [] h) :=
  fun a p0 h => zC_def rfl
set_option maxRecDepth 100000 in
theorem E_X10_headAt : (∀ (l0 l2 : Option Value) (x : Int32) (S : List Value) (h : zH), zD 37 0 [l0, some (.int x), l2] S h = zD 37 1 [l0, some (.int x), l2] (.int x :: S) h) ∧
  (∀ (l0 l1 l2 : Option Value) (S : List Value) (h : zH), zD 37 1 [l0, l1, l2] S h = zD 37 2 [l0, l1, l2] (.int (-1 : Int32) :: S) h) ∧
  (∀ (l0 l1 l2 : Option Value) (x y : Int32) (r : List Value) (h : zH), zD 37 2 [l0, l1, l2] (.int y :: .int x :: r) h = if ¬ x = y then zD 37 14 [l0, l1, l2] r h else zD 37 5 [l0, l1, l2] r h) ∧
  (∀ (l1 l2 : Option Value) (x : Nat) (S : List Value) (h : zH), zD 37 5 [some (.ref x), l1, l2] S h = zD 37 6 [some (.ref x), l1, l2] (.ref x :: S) h) ∧
  (∀ (l0 l1 l2 : Option Value) (a : Nat) (r : List Value) (h : zH) (hx : zfok (h.2.2 a) 9 2 = true), zD 37 6 [l0, l1, l2] (.ref a :: r) h = zD 37 9 [l0, l1, l2] (zfv (h.2.2 a) 2 :: r) h) ∧
  (∀ (l0 l1 : Option Value) (x : Int32) (S : List Value) (h : zH), zD 37 9 [l0, l1, some (.int x)] S h = zD 37 10 [l0, l1, some (.int x)] (.int x :: S) h) ∧
  (∀ (l0 l1 l2 : Option Value) (i : Int32) (a : Nat) (r : List Value) (h : zH) (hx : ziok a (h.2.2 a) i = true), zD 37 10 [l0, l1, l2] (.int i :: .ref a :: r) h = zD 37 11 [l0, l1, l2] (.int (ziv (h.2.2 a) i) :: r) h) ∧
  (∀ (l0 l1 l2 : Option Value) (S : List Value) (h : zH), zD 37 11 [l0, l1, l2] S h = zD 37 25 [l0, l1, l2] S h) ∧
  (∀ (l1 l2 : Option Value) (x : Nat) (S : List Value) (h : zH), zD 37 14 [some (.ref x), l1, l2] S h = zD 37 15 [some (.ref x), l1, l2] (.ref x :: S) h) ∧
  (∀ (l0 l1 l2 : Option Value) (a : Nat) (r : List Value) (h : zH) (hx : zfok (h.2.2 a) 9 14 = true), zD 37 15 [l0, l1, l2] (.ref a :: r) h = zD 37 18 [l0, l1, l2] (zfv (h.2.2 a) 14 :: r) h) ∧
  (∀ (l0 l1 l2 : Option Value) (S : List Value) (h : zH), zD 37 18 [l0, l1, l2] S h = zD 37 20 [l0, l1, l2] (.int (8 : Int32) :: S) h) ∧
  (∀ (l0 l2 : Option Value) (x : Int32) (S : List Value) (h : zH), zD 37 20 [l0, some (.int x), l2] S h = zD 37 21 [l0, some (.int x), l2] (.int x :: S) h) ∧
  (∀ (l0 l1 l2 : Option Value) (x y : Int32) (r : List Value) (h : zH), zD 37 21 [l0, l1, l2] (.int y :: .int x :: r) h = zD 37 22 [l0, l1, l2] (.int (x * y) :: r) h) ∧
  (∀ (l0 l1 : Option Value) (x : Int32) (S : List Value) (h : zH), zD 37 22 [l0, l1, some (.int x)] S h = zD 37 23 [l0, l1, some (.int x)] (.int x :: S) h) ∧
  (∀ (l0 l1 l2 : Option Value) (x y : Int32) (r : List Value) (h : zH), zD 37 23 [l0, l1, l2] (.int y :: .int x :: r) h = zD 37 24 [l0, l1, l2] (.int (x + y) :: r) h) ∧
  (∀ (l0 l1 l2 : Option Value) (i : Int32) (a : Nat) (r : List Value) (h : zH) (hx : ziok a (h.2.2 a) i = true), zD 37 24 [l0, l1, l2] (.int i :: .ref a :: r) h = zD 37 25 [l0, l1, l2] (.int (ziv (h.2.2 a) i) :: r) h) ∧
  (∀ (l0 l1 l2 : Option Value) (v : Int32) (h : zH), zD 37 25 [l0, l1, l2] [.int v] h = some (some (.int v), h)) :=
  ⟨fun l0 l2 x S h => zD_op (ins := .iload_n 1) (len := 1) (c := (1, [l0, some (.int x), l2], (.int x :: S), h)) (by decide +kernel) rfl rfl rfl rfl,
  fun l0 l1 l2 S h => zD_icst (n := (-1)) (by decide +kernel) (by decide +kernel),
  fun l0 l1 l2 x y r h => zD_if (cnd := .ne) (off := 12) (by decide +kernel) (by decide) rfl,
  fun l1 l2 x S h => zD_op (ins := .aload_n 0) (len := 1) (c := (6, [some (.ref x), l1, l2], (.ref x :: S), h)) (by decide +kernel) rfl rfl rfl rfl,
  fun l0 l1 l2 a r h hx => zD_getf (i := 17) (ci := 9) (k := 2) (q := (713, 0)) (by decide +kernel) (by decide +kernel) hx,
  fun l0 l1 x S h => zD_op (ins := .iload_n 2) (len := 1) (c := (10, [l0, l1, some (.int x)], (.int x :: S), h)) (by decide +kernel) rfl rfl rfl rfl,
  fun l0 l1 l2 i a r h hx => zD_iald (by decide +kernel) hx,
  fun l0 l1 l2 S h => zD_goto (off := 14) (by decide +kernel) (by decide),
  fun l1 l2 x S h => zD_op (ins := .aload_n 0) (len := 1) (c := (15, [some (.ref x), l1, l2], (.ref x :: S), h)) (by decide +kernel) rfl rfl rfl rfl,
  fun l0 l1 l2 a r h hx => zD_getf (i := 49) (ci := 9) (k := 14) (q := (725, 0)) (by decide +kernel) (by decide +kernel) hx,
  fun l0 l1 l2 S h => zD_bip (n := 8) (by decide +kernel) (by decide +kernel),
  fun l0 l2 x S h => zD_op (ins := .iload_n 1) (len := 1) (c := (21, [l0, some (.int x), l2], (.int x :: S), h)) (by decide +kernel) rfl rfl rfl rfl,
  fun l0 l1 l2 x y r h => zD_op (ins := .imul) (len := 1) (c := (22, [l0, l1, l2], (.int (x * y) :: r), h)) (by decide +kernel) rfl rfl rfl rfl,
  fun l0 l1 x S h => zD_op (ins := .iload_n 2) (len := 1) (c := (23, [l0, l1, some (.int x)], (.int x :: S), h)) (by decide +kernel) rfl rfl rfl rfl,
  fun l0 l1 l2 x y r h => zD_op (ins := .iadd) (len := 1) (c := (24, [l0, l1, l2], (.int (x + y) :: r), h)) (by decide +kernel) rfl rfl rfl rfl,
  fun l0 l1 l2 i a r h hx => zD_iald (by decide +kernel) hx,
  fun l0 l1 l2 v h => zD_ireti (by decide +kernel) rfl⟩
set_option maxRecDepth 100000 in
theorem I_X10_headAt : (∀ (a : Nat) (p0 : Int32) (p1 : Int32) (h : zH), zC 37 [.ref a, .int p0, .int p1] h = zD 37 0 [some (.ref a), some (.int p0), some (.int p1)] [] h) :=
  fun a p0 p1 h => zC_def rfl
set_option maxRecDepth 100000 in
theorem E_X10_count : (∀ (l0 l1 l2 l3 : Option Value) (S : List Value) (h : zH), zD 38 0 [l0, l1, l2, l3] S h = zD 38 1 [l0, l1, l2, l3] (.int (0 : Int32) :: S) h) ∧
  (∀ (l0 l1 l2 l3 : Option Value) (x : Int32) (r : List Value) (h : zH), zD 38 1 [l0, l1, l2, l3] (.int x :: r) h = zD 38 2 [l0, zclr l1, some (.int x), l3] r h) ∧
  (∀ (l0 l2 l3 : Option Value) (x : Int32) (S : List Value) (h : zH), zD 38 2 [l0, some (.int x), l2, l3] S h = zD 38 3 [l0, some (.int x), l2, l3] (.int x :: S) h) ∧
  (∀ (l0 l1 l2 l3 : Option Value) (x : Int32) (t : Nat) (r : List Value) (h : zH) (hx : ztab 3 116 0 4 #[33, 38, 73, 78, 111] x [l0, l1, l2, l3] r h = some (t, [l0, l1, l2, l3], r, h)), zD 38 3 [l0, l1, l2, l3] (.int x :: r) h = zD 38 t [l0, l1, l2, l3] r h) ∧
  (∀ (l1 l2 l3 : Option Value) (x : Nat) (S : List Value) (h : zH), zD 38 36 [some (.ref x), l1, l2, l3] S h = zD 38 37 [some (.ref x), l1, l2, l3] (.ref x :: S) h) ∧
  (∀ (l0 l1 l2 l3 : Option Value) (a : Nat) (r : List Value) (h : zH) (hx : zfok (h.2.2 a) 9 0 = true), zD 38 37 [l0, l1, l2, l3] (.ref a :: r) h = zD 38 40 [l0, l1, l2, l3] (zfv (h.2.2 a) 0 :: r) h) ∧
  (∀ (l0 l1 l2 l3 : Option Value) (v : Int32) (h : zH), zD 38 40 [l0, l1, l2, l3] [.int v] h = some (some (.int v), h)) ∧
  (∀ (l0 l1 l2 l3 : Option Value) (S : List Value) (h : zH), zD 38 41 [l0, l1, l2, l3] S h = zD 38 42 [l0, l1, l2, l3] (.int (0 : Int32) :: S) h) ∧
  (∀ (l0 l1 l2 l3 : Option Value) (x : Int32) (r : List Value) (h : zH), zD 38 42 [l0, l1, l2, l3] (.int x :: r) h = zD 38 43 [l0, l1, zclr l2, some (.int x)] r h) ∧
  (∀ (l1 l2 l3 : Option Value) (x : Nat) (S : List Value) (h : zH), zD 38 44 [some (.ref x), l1, l2, l3] S h = zD 38 45 [some (.ref x), l1, l2, l3] (.ref x :: S) h) ∧
  (∀ (l0 l1 l2 l3 : Option Value) (a : Nat) (r : List Value) (h : zH) (hx : zfok (h.2.2 a) 9 10 = true), zD 38 45 [l0, l1, l2, l3] (.ref a :: r) h = zD 38 48 [l0, l1, l2, l3] (zfv (h.2.2 a) 10 :: r) h) ∧
  (∀ (l0 l1 l2 l3 : Option Value) (x y : Int32) (r : List Value) (h : zH), zD 38 48 [l0, l1, l2, l3] (.int y :: .int x :: r) h = if y ≤ x then zD 38 74 [l0, l1, l2, l3] r h else zD 38 51 [l0, l1, l2, l3] r h) ∧
  (∀ (l0 l1 l3 : Option Value) (x : Int32) (S : List Value) (h : zH), zD 38 51 [l0, l1, some (.int x), l3] S h = zD 38 52 [l0, l1, some (.int x), l3] (.int x :: S) h) ∧
  (∀ (l1 l2 l3 : Option Value) (x : Nat) (S : List Value) (h : zH), zD 38 52 [some (.ref x), l1, l2, l3] S h = zD 38 53 [some (.ref x), l1, l2, l3] (.ref x :: S) h) ∧
  (∀ (l0 l1 l2 l3 : Option Value) (a : Nat) (r : List Value) (h : zH) (hx : zfok (h.2.2 a) 9 11 = true), zD 38 53 [l0, l1, l2, l3] (.ref a :: r) h = zD 38 56 [l0, l1, l2, l3] (zfv (h.2.2 a) 11 :: r) h) ∧
  (∀ (l0 l1 l2 : Option Value) (x : Int32) (S : List Value) (h : zH), zD 38 56 [l0, l1, l2, some (.int x)] S h = zD 38 57 [l0, l1, l2, some (.int x)] (.int x :: S) h) ∧
  (∀ (l0 l1 l2 l3 : Option Value) (i : Int32) (a : Nat) (r : List Value) (h : zH) (hx : zbok (h.2.2 a) i = true), zD 38 57 [l0, l1, l2, l3] (.int i :: .ref a :: r) h = zD 38 58 [l0, l1, l2, l3] (.int (ziv (h.2.2 a) i) :: r) h) ∧
  (∀ (l0 l1 l2 l3 : Option Value) (x : Int32) (r : List Value) (h : zH), zD 38 58 [l0, l1, l2, l3] (.int x :: r) h = if x = 0 then zD 38 65 [l0, l1, l2, l3] r h else zD 38 61 [l0, l1, l2, l3] r h) ∧
  (∀ (l0 l1 l2 l3 : Option Value) (S : List Value) (h : zH), zD 38 61 [l0, l1, l2, l3] S h = zD 38 62 [l0, l1, l2, l3] (.int (0 : Int32) :: S) h) ∧
  (∀ (l0 l1 l2 l3 : Option Value) (S : List Value) (h : zH), zD 38 62 [l0, l1, l2, l3] S h = zD 38 66 [l0, l1, l2, l3] S h) ∧
  (∀ (l0 l1 l2 l3 : Option Value) (S : List Value) (h : zH), zD 38 65 [l0, l1, l2, l3] S h = zD 38 66 [l0, l1, l2, l3] (.int (1 : Int32) :: S) h) ∧
  (∀ (l0 l1 l2 l3 : Option Value) (x y : Int32) (r : List Value) (h : zH), zD 38 66 [l0, l1, l2, l3] (.int y :: .int x :: r) h = zD 38 67 [l0, l1, l2, l3] (.int (x + y) :: r) h) ∧
  (∀ (l0 l1 l2 l3 : Option Value) (x : Int32) (r : List Value) (h : zH), zD 38 67 [l0, l1, l2, l3] (.int x :: r) h = zD 38 68 [l0, zclr l1, some (.int x), l3] r h) ∧
  (∀ (l0 l1 l2 : Option Value) (x : Int32) (S : List Value) (h : zH), zD 38 68 [l0, l1, l2, some (.int x)] S h = zD 38 71 [l0, l1, zclr l2, some (.int (x + (1 : Int32)))] S h) ∧
  (∀ (l0 l1 l2 l3 : Option Value) (S : List Value) (h : zH), zD 38 71 [l0, l1, l2, l3] S h = zD 38 43 [l0, l1, l2, l3] S h) ∧
  (∀ (l0 l1 l3 : Option Value) (x : Int32) (S : List Value) (h : zH), zD 38 74 [l0, l1, some (.int x), l3] S h = zD 38 75 [l0, l1, some (.int x), l3] (.int x :: S) h) ∧
  (∀ (l0 l1 l2 l3 : Option Value) (v : Int32) (h : zH), zD 38 75 [l0, l1, l2, l3] [.int v] h = some (some (.int v), h)) ∧
  (∀ (l1 l2 l3 : Option Value) (x : Nat) (S : List Value) (h : zH), zD 38 76 [some (.ref x), l1, l2, l3] S h = zD 38 77 [some (.ref x), l1, l2, l3] (.ref x :: S) h) ∧
  (∀ (l0 l1 l2 l3 : Option Value) (a : Nat) (r : List Value) (h : zH) (hx : zfok (h.2.2 a) 9 15 = true), zD 38 77 [l0, l1, l2, l3] (.ref a :: r) h = zD 38 80 [l0, l1, l2, l3] (zfv (h.2.2 a) 15 :: r) h) ∧
  (∀ (l0 l1 l2 l3 : Option Value) (v : Int32) (h : zH), zD 38 80 [l0, l1, l2, l3] [.int v] h = some (some (.int v), h)) ∧
  (∀ (l0 l1 l2 l3 : Option Value) (S : List Value) (h : zH), zD 38 81 [l0, l1, l2, l3] S h = zD 38 82 [l0, l1, l2, l3] (.int (0 : Int32) :: S) h) ∧
  (∀ (l0 l1 l2 l3 : Option Value) (x : Int32) (r : List Value) (h : zH), zD 38 82 [l0, l1, l2, l3] (.int x :: r) h = zD 38 83 [l0, l1, zclr l2, some (.int x)] r h) ∧
  (∀ (l0 l1 l2 l3 : Option Value) (S : List Value) (h : zH), zD 38 84 [l0, l1, l2, l3] S h = zD 38 86 [l0, l1, l2, l3] (.int (64 : Int32) :: S) h) ∧
  (∀ (l0 l1 l2 l3 : Option Value) (x y : Int32) (r : List Value) (h : zH), zD 38 86 [l0, l1, l2, l3] (.int y :: .int x :: r) h = if y ≤ x then zD 38 112 [l0, l1, l2, l3] r h else zD 38 89 [l0, l1, l2, l3] r h) ∧
  (∀ (l0 l1 l3 : Option Value) (x : Int32) (S : List Value) (h : zH), zD 38 89 [l0, l1, some (.int x), l3] S h = zD 38 90 [l0, l1, some (.int x), l3] (.int x :: S) h) ∧
  (∀ (l1 l2 l3 : Option Value) (x : Nat) (S : List Value) (h : zH), zD 38 90 [some (.ref x), l1, l2, l3] S h = zD 38 91 [some (.ref x), l1, l2, l3] (.ref x :: S) h) ∧
  (∀ (l0 l1 l2 l3 : Option Value) (a : Nat) (r : List Value) (h : zH) (hx : zfok (h.2.2 a) 9 4 = true), zD 38 91 [l0, l1, l2, l3] (.ref a :: r) h = zD 38 94 [l0, l1, l2, l3] (zfv (h.2.2 a) 4 :: r) h) ∧
  (∀ (l0 l1 l2 : Option Value) (x : Int32) (S : List Value) (h : zH), zD 38 94 [l0, l1, l2, some (.int x)] S h = zD 38 95 [l0, l1, l2, some (.int x)] (.int x :: S) h) ∧
  (∀ (l0 l1 l2 l3 : Option Value) (i : Int32) (a : Nat) (r : List Value) (h : zH) (hx : zbok (h.2.2 a) i = true), zD 38 95 [l0, l1, l2, l3] (.int i :: .ref a :: r) h = zD 38 96 [l0, l1, l2, l3] (.int (ziv (h.2.2 a) i) :: r) h) ∧
  (∀ (l0 l1 l2 l3 : Option Value) (x : Int32) (r : List Value) (h : zH), zD 38 96 [l0, l1, l2, l3] (.int x :: r) h = if x = 0 then zD 38 103 [l0, l1, l2, l3] r h else zD 38 99 [l0, l1, l2, l3] r h) ∧
  (∀ (l0 l1 l2 l3 : Option Value) (S : List Value) (h : zH), zD 38 99 [l0, l1, l2, l3] S h = zD 38 100 [l0, l1, l2, l3] (.int (1 : Int32) :: S) h) ∧
  (∀ (l0 l1 l2 l3 : Option Value) (S : List Value) (h : zH), zD 38 100 [l0, l1, l2, l3] S h = zD 38 104 [l0, l1, l2, l3] S h) ∧
  (∀ (l0 l1 l2 l3 : Option Value) (S : List Value) (h : zH), zD 38 103 [l0, l1, l2, l3] S h = zD 38 104 [l0, l1, l2, l3] (.int (0 : Int32) :: S) h) ∧
  (∀ (l0 l1 l2 l3 : Option Value) (x y : Int32) (r : List Value) (h : zH), zD 38 104 [l0, l1, l2, l3] (.int y :: .int x :: r) h = zD 38 105 [l0, l1, l2, l3] (.int (x + y) :: r) h) ∧
  (∀ (l0 l1 l2 l3 : Option Value) (x : Int32) (r : List Value) (h : zH), zD 38 105 [l0, l1, l2, l3] (.int x :: r) h = zD 38 106 [l0, zclr l1, some (.int x), l3] r h) ∧
  (∀ (l0 l1 l2 : Option Value) (x : Int32) (S : List Value) (h : zH), zD 38 106 [l0, l1, l2, some (.int x)] S h = zD 38 109 [l0, l1, zclr l2, some (.int (x + (1 : Int32)))] S h) ∧
  (∀ (l0 l1 l2 l3 : Option Value) (S : List Value) (h : zH), zD 38 109 [l0, l1, l2, l3] S h = zD 38 83 [l0, l1, l2, l3] S h) ∧
  (∀ (l0 l1 l3 : Option Value) (x : Int32) (S : List Value) (h : zH), zD 38 112 [l0, l1, some (.int x), l3] S h = zD 38 113 [l0, l1, some (.int x), l3] (.int x :: S) h) ∧
  (∀ (l0 l1 l2 l3 : Option Value) (v : Int32) (h : zH), zD 38 113 [l0, l1, l2, l3] [.int v] h = some (some (.int v), h)) ∧
  (∀ (l1 l2 l3 : Option Value) (x : Nat) (S : List Value) (h : zH), zD 38 114 [some (.ref x), l1, l2, l3] S h = zD 38 115 [some (.ref x), l1, l2, l3] (.ref x :: S) h) ∧
  (∀ (l0 l1 l2 l3 : Option Value) (a : Nat) (r : List Value) (h : zH) (hx : zfok (h.2.2 a) 9 10 = true), zD 38 115 [l0, l1, l2, l3] (.ref a :: r) h = zD 38 118 [l0, l1, l2, l3] (zfv (h.2.2 a) 10 :: r) h) ∧
  (∀ (l0 l1 l2 l3 : Option Value) (v : Int32) (h : zH), zD 38 118 [l0, l1, l2, l3] [.int v] h = some (some (.int v), h)) ∧
  (∀ (l0 l1 l2 l3 : Option Value) (S : List Value) (h : zH), zD 38 119 [l0, l1, l2, l3] S h = zD 38 121 [l0, l1, l2, l3] (.int (-102 : Int32) :: S) h) ∧
  (∀ (l0 l1 l2 l3 : Option Value) (v : Int32) (h : zH), zD 38 121 [l0, l1, l2, l3] [.int v] h = some (some (.int v), h)) :=
  ⟨fun l0 l1 l2 l3 S h => zD_icst (n := 0) (by decide +kernel) (by decide +kernel),
  fun l0 l1 l2 l3 x r h => zD_st1 (k := 2) (ins := .istore_n 2) (len := 1) (by decide +kernel) rfl rfl rfl (by decide +kernel) rfl rfl,
  fun l0 l2 l3 x S h => zD_op (ins := .iload_n 1) (len := 1) (c := (3, [l0, some (.int x), l2, l3], (.int x :: S), h)) (by decide +kernel) rfl rfl rfl rfl,
  fun l0 l1 l2 l3 x t r h hx => zD_sw (len := 33) (by decide +kernel) hx,
  fun l1 l2 l3 x S h => zD_op (ins := .aload_n 0) (len := 1) (c := (37, [some (.ref x), l1, l2, l3], (.ref x :: S), h)) (by decide +kernel) rfl rfl rfl rfl,
  fun l0 l1 l2 l3 a r h hx => zD_getf (i := 7) (ci := 9) (k := 0) (q := (711, 0)) (by decide +kernel) (by decide +kernel) hx,
  fun l0 l1 l2 l3 v h => zD_ireti (by decide +kernel) rfl,
  fun l0 l1 l2 l3 S h => zD_icst (n := 0) (by decide +kernel) (by decide +kernel),
  fun l0 l1 l2 l3 x r h => zD_st1 (k := 3) (ins := .istore_n 3) (len := 1) (by decide +kernel) rfl rfl rfl (by decide +kernel) rfl rfl,
  fun l1 l2 l3 x S h => zD_op (ins := .aload_n 0) (len := 1) (c := (45, [some (.ref x), l1, l2, l3], (.ref x :: S), h)) (by decide +kernel) rfl rfl rfl rfl,
  fun l0 l1 l2 l3 a r h hx => zD_getf (i := 126) (ci := 9) (k := 10) (q := (721, 0)) (by decide +kernel) (by decide +kernel) hx,
  fun l0 l1 l2 l3 x y r h => zD_if (cnd := .ge) (off := 26) (by decide +kernel) (by decide) rfl,
  fun l0 l1 l3 x S h => zD_op (ins := .iload_n 2) (len := 1) (c := (52, [l0, l1, some (.int x), l3], (.int x :: S), h)) (by decide +kernel) rfl rfl rfl rfl,
  fun l1 l2 l3 x S h => zD_op (ins := .aload_n 0) (len := 1) (c := (53, [some (.ref x), l1, l2, l3], (.ref x :: S), h)) (by decide +kernel) rfl rfl rfl rfl,
  fun l0 l1 l2 l3 a r h hx => zD_getf (i := 40) (ci := 9) (k := 11) (q := (722, 0)) (by decide +kernel) (by decide +kernel) hx,
  fun l0 l1 l2 x S h => zD_op (ins := .iload_n 3) (len := 1) (c := (57, [l0, l1, l2, some (.int x)], (.int x :: S), h)) (by decide +kernel) rfl rfl rfl rfl,
  fun l0 l1 l2 l3 i a r h hx => zD_bald (by decide +kernel) hx,
  fun l0 l1 l2 l3 x r h => zD_if0 (cnd := .eq) (off := 7) (by decide +kernel) (by decide) rfl,
  fun l0 l1 l2 l3 S h => zD_icst (n := 0) (by decide +kernel) (by decide +kernel),
  fun l0 l1 l2 l3 S h => zD_goto (off := 4) (by decide +kernel) (by decide),
  fun l0 l1 l2 l3 S h => zD_icst (n := 1) (by decide +kernel) (by decide +kernel),
  fun l0 l1 l2 l3 x y r h => zD_op (ins := .iadd) (len := 1) (c := (67, [l0, l1, l2, l3], (.int (x + y) :: r), h)) (by decide +kernel) rfl rfl rfl rfl,
  fun l0 l1 l2 l3 x r h => zD_st1 (k := 2) (ins := .istore_n 2) (len := 1) (by decide +kernel) rfl rfl rfl (by decide +kernel) rfl rfl,
  fun l0 l1 l2 x S h => zD_iinc (k := 3) (x := x) (c := (1 : Int32)) (n := 1) (by decide +kernel) (by decide +kernel) rfl (by decide +kernel) rfl,
  fun l0 l1 l2 l3 S h => zD_goto (off := (-28)) (by decide +kernel) (by decide),
  fun l0 l1 l3 x S h => zD_op (ins := .iload_n 2) (len := 1) (c := (75, [l0, l1, some (.int x), l3], (.int x :: S), h)) (by decide +kernel) rfl rfl rfl rfl,
  fun l0 l1 l2 l3 v h => zD_ireti (by decide +kernel) rfl,
  fun l1 l2 l3 x S h => zD_op (ins := .aload_n 0) (len := 1) (c := (77, [some (.ref x), l1, l2, l3], (.ref x :: S), h)) (by decide +kernel) rfl rfl rfl rfl,
  fun l0 l1 l2 l3 a r h hx => zD_getf (i := 136) (ci := 9) (k := 15) (q := (726, 0)) (by decide +kernel) (by decide +kernel) hx,
  fun l0 l1 l2 l3 v h => zD_ireti (by decide +kernel) rfl,
  fun l0 l1 l2 l3 S h => zD_icst (n := 0) (by decide +kernel) (by decide +kernel),
  fun l0 l1 l2 l3 x r h => zD_st1 (k := 3) (ins := .istore_n 3) (len := 1) (by decide +kernel) rfl rfl rfl (by decide +kernel) rfl rfl,
  fun l0 l1 l2 l3 S h => zD_bip (n := 64) (by decide +kernel) (by decide +kernel),
  fun l0 l1 l2 l3 x y r h => zD_if (cnd := .ge) (off := 26) (by decide +kernel) (by decide) rfl,
  fun l0 l1 l3 x S h => zD_op (ins := .iload_n 2) (len := 1) (c := (90, [l0, l1, some (.int x), l3], (.int x :: S), h)) (by decide +kernel) rfl rfl rfl rfl,
  fun l1 l2 l3 x S h => zD_op (ins := .aload_n 0) (len := 1) (c := (91, [some (.ref x), l1, l2, l3], (.ref x :: S), h)) (by decide +kernel) rfl rfl rfl rfl,
  fun l0 l1 l2 l3 a r h hx => zD_getf (i := 23) (ci := 9) (k := 4) (q := (715, 0)) (by decide +kernel) (by decide +kernel) hx,
  fun l0 l1 l2 x S h => zD_op (ins := .iload_n 3) (len := 1) (c := (95, [l0, l1, l2, some (.int x)], (.int x :: S), h)) (by decide +kernel) rfl rfl rfl rfl,
  fun l0 l1 l2 l3 i a r h hx => zD_bald (by decide +kernel) hx,
  fun l0 l1 l2 l3 x r h => zD_if0 (cnd := .eq) (off := 7) (by decide +kernel) (by decide) rfl,
  fun l0 l1 l2 l3 S h => zD_icst (n := 1) (by decide +kernel) (by decide +kernel),
  fun l0 l1 l2 l3 S h => zD_goto (off := 4) (by decide +kernel) (by decide),
  fun l0 l1 l2 l3 S h => zD_icst (n := 0) (by decide +kernel) (by decide +kernel),
  fun l0 l1 l2 l3 x y r h => zD_op (ins := .iadd) (len := 1) (c := (105, [l0, l1, l2, l3], (.int (x + y) :: r), h)) (by decide +kernel) rfl rfl rfl rfl,
  fun l0 l1 l2 l3 x r h => zD_st1 (k := 2) (ins := .istore_n 2) (len := 1) (by decide +kernel) rfl rfl rfl (by decide +kernel) rfl rfl,
  fun l0 l1 l2 x S h => zD_iinc (k := 3) (x := x) (c := (1 : Int32)) (n := 1) (by decide +kernel) (by decide +kernel) rfl (by decide +kernel) rfl,
  fun l0 l1 l2 l3 S h => zD_goto (off := (-26)) (by decide +kernel) (by decide),
  fun l0 l1 l3 x S h => zD_op (ins := .iload_n 2) (len := 1) (c := (113, [l0, l1, some (.int x), l3], (.int x :: S), h)) (by decide +kernel) rfl rfl rfl rfl,
  fun l0 l1 l2 l3 v h => zD_ireti (by decide +kernel) rfl,
  fun l1 l2 l3 x S h => zD_op (ins := .aload_n 0) (len := 1) (c := (115, [some (.ref x), l1, l2, l3], (.ref x :: S), h)) (by decide +kernel) rfl rfl rfl rfl,
  fun l0 l1 l2 l3 a r h hx => zD_getf (i := 126) (ci := 9) (k := 10) (q := (721, 0)) (by decide +kernel) (by decide +kernel) hx,
  fun l0 l1 l2 l3 v h => zD_ireti (by decide +kernel) rfl,
  fun l0 l1 l2 l3 S h => zD_bip (n := (-102)) (by decide +kernel) (by decide +kernel),
  fun l0 l1 l2 l3 v h => zD_ireti (by decide +kernel) rfl⟩
set_option maxRecDepth 100000 in
theorem E_X10_count_h43 : (∀ (l0 l1 l2 : Option Value) (x : Int32) (S : List Value) (h : zH), zD 38 43 [l0, l1, l2, some (.int x)] S h = zD 38 44 [l0, l1, l2, some (.int x)] (.int x :: S) h) :=
  fun l0 l1 l2 x S h => zD_op (ins := .iload_n 3) (len := 1) (c := (44, [l0, l1, l2, some (.int x)], (.int x :: S), h)) (by decide +kernel) rfl rfl rfl rfl
set_option maxRecDepth 100000 in
theorem E_X10_count_h83 : (∀ (l0 l1 l2 : Option Value) (x : Int32) (S : List Value) (h : zH), zD 38 83 [l0, l1, l2, some (.int x)] S h = zD 38 84 [l0, l1, l2, some (.int x)] (.int x :: S) h) :=
  fun l0 l1 l2 x S h => zD_op (ins := .iload_n 3) (len := 1) (c := (84, [l0, l1, l2, some (.int x)], (.int x :: S), h)) (by decide +kernel) rfl rfl rfl rfl
set_option maxRecDepth 100000 in
theorem I_X10_count : (∀ (a : Nat) (p0 : Int32) (h : zH), zC 38 [.ref a, .int p0] h = zD 38 0 [some (.ref a), some (.int p0), none, none] [] h) :=
  fun a p0 h => zC_def rfl
set_option maxRecDepth 100000 in
theorem E_X10_mix : (∀ (l1 l2 : Option Value) (x : Nat) (S : List Value) (h : zH), zD 39 0 [some (.ref x), l1, l2] S h = zD 39 1 [some (.ref x), l1, l2] (.ref x :: S) h) ∧
  (∀ (l0 l1 l2 : Option Value) (S : List Value) (h : zH), zD 39 1 [l0, l1, l2] S h = zD 39 4 [l0, l1, l2] (.long (31 : Int64) :: S) h) ∧
  (∀ (l1 l2 : Option Value) (x : Nat) (S : List Value) (h : zH), zD 39 4 [some (.ref x), l1, l2] S h = zD 39 5 [some (.ref x), l1, l2] (.ref x :: S) h) ∧
  (∀ (l0 l1 l2 : Option Value) (a : Nat) (r : List Value) (h : zH) (hx : zfok (h.2.2 a) 9 24 = true), zD 39 5 [l0, l1, l2] (.ref a :: r) h = zD 39 8 [l0, l1, l2] (zfv (h.2.2 a) 24 :: r) h) ∧
  (∀ (l0 l1 l2 : Option Value) (x y : Int64) (r : List Value) (h : zH), zD 39 8 [l0, l1, l2] (.long y :: .long x :: r) h = zD 39 9 [l0, l1, l2] (.long (x * y) :: r) h) ∧
  (∀ (l0 l2 : Option Value) (x : Int64) (S : List Value) (h : zH), zD 39 9 [l0, some (.long x), l2] S h = zD 39 10 [l0, some (.long x), l2] (.long x :: S) h) ∧
  (∀ (l0 l1 l2 : Option Value) (x y : Int64) (r : List Value) (h : zH), zD 39 10 [l0, l1, l2] (.long y :: .long x :: r) h = zD 39 11 [l0, l1, l2] (.long (x + y) :: r) h) ∧
  (∀ (l0 l1 l2 : Option Value) (v : Int64) (a : Nat) (r : List Value) (h : zH) (hx : zfok (h.2.2 a) 9 24 = true), zD 39 11 [l0, l1, l2] (.long v :: .ref a :: r) h = zD 39 14 [l0, l1, l2] r (zw h a (zfs' (h.2.2 a) 24 (.long v)))) ∧
  (∀ (l0 l1 l2 : Option Value) (h : zH), zD 39 14 [l0, l1, l2] [] h = some (none, h)) :=
  ⟨fun l1 l2 x S h => zD_op (ins := .aload_n 0) (len := 1) (c := (1, [some (.ref x), l1, l2], (.ref x :: S), h)) (by decide +kernel) rfl rfl rfl rfl,
  fun l0 l1 l2 S h => zD_ldc2 (i := 162) (q := 986) (by decide +kernel) (by decide +kernel),
  fun l1 l2 x S h => zD_op (ins := .aload_n 0) (len := 1) (c := (5, [some (.ref x), l1, l2], (.ref x :: S), h)) (by decide +kernel) rfl rfl rfl rfl,
  fun l0 l1 l2 a r h hx => zD_getf (i := 164) (ci := 9) (k := 24) (q := (735, 0)) (by decide +kernel) (by decide +kernel) hx,
  fun l0 l1 l2 x y r h => zD_op (ins := .lmul) (len := 1) (c := (9, [l0, l1, l2], (.long (x * y) :: r), h)) (by decide +kernel) rfl rfl rfl rfl,
  fun l0 l2 x S h => zD_op (ins := .lload_n 1) (len := 1) (c := (10, [l0, some (.long x), l2], (.long x :: S), h)) (by decide +kernel) rfl rfl rfl rfl,
  fun l0 l1 l2 x y r h => zD_op (ins := .ladd) (len := 1) (c := (11, [l0, l1, l2], (.long (x + y) :: r), h)) (by decide +kernel) rfl rfl rfl rfl,
  fun l0 l1 l2 v a r h hx => zD_putf (i := 164) (ci := 9) (k := 24) (q := (735, 0)) (by decide +kernel) (by decide +kernel) (by decide +kernel) hx rfl rfl,
  fun l0 l1 l2 h => zD_vret (by decide +kernel) rfl⟩
set_option maxRecDepth 100000 in
theorem I_X10_mix : (∀ (a : Nat) (p0 : Int64) (h : zH), zC 39 [.ref a, .long p0] h = zD 39 0 [some (.ref a), some (.long p0), none] [] h) :=
  fun a p0 h => zC_def rfl
set_option maxRecDepth 100000 in
theorem E_J6_bitCount_0f7a4 : (∀ (x : Int32) (S : List Value) (h : zH), zD 40 0 [some (.int x)] S h = zD 40 1 [some (.int x)] (.int x :: S) h) ∧
  (∀ (x : Int32) (S : List Value) (h : zH), zD 40 1 [some (.int x)] S h = zD 40 2 [some (.int x)] (.int x :: S) h) ∧
  (∀ (l0 : Option Value) (S : List Value) (h : zH), zD 40 2 [l0] S h = zD 40 3 [l0] (.int (1 : Int32) :: S) h) ∧
  (∀ (l0 : Option Value) (x y : Int32) (r : List Value) (h : zH), zD 40 3 [l0] (.int y :: .int x :: r) h = zD 40 4 [l0] (.int ((x.toUInt32 >>> (y.toUInt32 &&& Int32.toUInt32 31)).toInt32) :: r) h) ∧
  (∀ (l0 : Option Value) (S : List Value) (h : zH), zD 40 4 [l0] S h = zD 40 7 [l0] (.int (1431655765 : Int32) :: S) h) ∧
  (∀ (l0 : Option Value) (x y : Int32) (r : List Value) (h : zH), zD 40 7 [l0] (.int y :: .int x :: r) h = zD 40 8 [l0] (.int (x &&& y) :: r) h) ∧
  (∀ (l0 : Option Value) (x y : Int32) (r : List Value) (h : zH), zD 40 8 [l0] (.int y :: .int x :: r) h = zD 40 9 [l0] (.int (x - y) :: r) h) ∧
  (∀ (l0 : Option Value) (x : Int32) (r : List Value) (h : zH), zD 40 9 [l0] (.int x :: r) h = zD 40 10 [some (.int x)] r h) ∧
  (∀ (x : Int32) (S : List Value) (h : zH), zD 40 10 [some (.int x)] S h = zD 40 11 [some (.int x)] (.int x :: S) h) ∧
  (∀ (l0 : Option Value) (S : List Value) (h : zH), zD 40 11 [l0] S h = zD 40 14 [l0] (.int (858993459 : Int32) :: S) h) ∧
  (∀ (l0 : Option Value) (x y : Int32) (r : List Value) (h : zH), zD 40 14 [l0] (.int y :: .int x :: r) h = zD 40 15 [l0] (.int (x &&& y) :: r) h) ∧
  (∀ (x : Int32) (S : List Value) (h : zH), zD 40 15 [some (.int x)] S h = zD 40 16 [some (.int x)] (.int x :: S) h) ∧
  (∀ (l0 : Option Value) (S : List Value) (h : zH), zD 40 16 [l0] S h = zD 40 17 [l0] (.int (2 : Int32) :: S) h) ∧
  (∀ (l0 : Option Value) (x y : Int32) (r : List Value) (h : zH), zD 40 17 [l0] (.int y :: .int x :: r) h = zD 40 18 [l0] (.int ((x.toUInt32 >>> (y.toUInt32 &&& Int32.toUInt32 31)).toInt32) :: r) h) ∧
  (∀ (l0 : Option Value) (S : List Value) (h : zH), zD 40 18 [l0] S h = zD 40 21 [l0] (.int (858993459 : Int32) :: S) h) ∧
  (∀ (l0 : Option Value) (x y : Int32) (r : List Value) (h : zH), zD 40 21 [l0] (.int y :: .int x :: r) h = zD 40 22 [l0] (.int (x &&& y) :: r) h) ∧
  (∀ (l0 : Option Value) (x y : Int32) (r : List Value) (h : zH), zD 40 22 [l0] (.int y :: .int x :: r) h = zD 40 23 [l0] (.int (x + y) :: r) h) ∧
  (∀ (l0 : Option Value) (x : Int32) (r : List Value) (h : zH), zD 40 23 [l0] (.int x :: r) h = zD 40 24 [some (.int x)] r h) ∧
  (∀ (x : Int32) (S : List Value) (h : zH), zD 40 24 [some (.int x)] S h = zD 40 25 [some (.int x)] (.int x :: S) h) ∧
  (∀ (x : Int32) (S : List Value) (h : zH), zD 40 25 [some (.int x)] S h = zD 40 26 [some (.int x)] (.int x :: S) h) ∧
  (∀ (l0 : Option Value) (S : List Value) (h : zH), zD 40 26 [l0] S h = zD 40 27 [l0] (.int (4 : Int32) :: S) h) ∧
  (∀ (l0 : Option Value) (x y : Int32) (r : List Value) (h : zH), zD 40 27 [l0] (.int y :: .int x :: r) h = zD 40 28 [l0] (.int ((x.toUInt32 >>> (y.toUInt32 &&& Int32.toUInt32 31)).toInt32) :: r) h) ∧
  (∀ (l0 : Option Value) (x y : Int32) (r : List Value) (h : zH), zD 40 28 [l0] (.int y :: .int x :: r) h = zD 40 29 [l0] (.int (x + y) :: r) h) ∧
  (∀ (l0 : Option Value) (S : List Value) (h : zH), zD 40 29 [l0] S h = zD 40 32 [l0] (.int (252645135 : Int32) :: S) h) ∧
  (∀ (l0 : Option Value) (x y : Int32) (r : List Value) (h : zH), zD 40 32 [l0] (.int y :: .int x :: r) h = zD 40 33 [l0] (.int (x &&& y) :: r) h) ∧
  (∀ (l0 : Option Value) (x : Int32) (r : List Value) (h : zH), zD 40 33 [l0] (.int x :: r) h = zD 40 34 [some (.int x)] r h) ∧
  (∀ (x : Int32) (S : List Value) (h : zH), zD 40 34 [some (.int x)] S h = zD 40 35 [some (.int x)] (.int x :: S) h) ∧
  (∀ (x : Int32) (S : List Value) (h : zH), zD 40 35 [some (.int x)] S h = zD 40 36 [some (.int x)] (.int x :: S) h) ∧
  (∀ (l0 : Option Value) (S : List Value) (h : zH), zD 40 36 [l0] S h = zD 40 38 [l0] (.int (8 : Int32) :: S) h) ∧
  (∀ (l0 : Option Value) (x y : Int32) (r : List Value) (h : zH), zD 40 38 [l0] (.int y :: .int x :: r) h = zD 40 39 [l0] (.int ((x.toUInt32 >>> (y.toUInt32 &&& Int32.toUInt32 31)).toInt32) :: r) h) ∧
  (∀ (l0 : Option Value) (x y : Int32) (r : List Value) (h : zH), zD 40 39 [l0] (.int y :: .int x :: r) h = zD 40 40 [l0] (.int (x + y) :: r) h) ∧
  (∀ (l0 : Option Value) (x : Int32) (r : List Value) (h : zH), zD 40 40 [l0] (.int x :: r) h = zD 40 41 [some (.int x)] r h) ∧
  (∀ (x : Int32) (S : List Value) (h : zH), zD 40 41 [some (.int x)] S h = zD 40 42 [some (.int x)] (.int x :: S) h) ∧
  (∀ (x : Int32) (S : List Value) (h : zH), zD 40 42 [some (.int x)] S h = zD 40 43 [some (.int x)] (.int x :: S) h) ∧
  (∀ (l0 : Option Value) (S : List Value) (h : zH), zD 40 43 [l0] S h = zD 40 45 [l0] (.int (16 : Int32) :: S) h) ∧
  (∀ (l0 : Option Value) (x y : Int32) (r : List Value) (h : zH), zD 40 45 [l0] (.int y :: .int x :: r) h = zD 40 46 [l0] (.int ((x.toUInt32 >>> (y.toUInt32 &&& Int32.toUInt32 31)).toInt32) :: r) h) ∧
  (∀ (l0 : Option Value) (x y : Int32) (r : List Value) (h : zH), zD 40 46 [l0] (.int y :: .int x :: r) h = zD 40 47 [l0] (.int (x + y) :: r) h) ∧
  (∀ (l0 : Option Value) (x : Int32) (r : List Value) (h : zH), zD 40 47 [l0] (.int x :: r) h = zD 40 48 [some (.int x)] r h) ∧
  (∀ (x : Int32) (S : List Value) (h : zH), zD 40 48 [some (.int x)] S h = zD 40 49 [some (.int x)] (.int x :: S) h) ∧
  (∀ (l0 : Option Value) (S : List Value) (h : zH), zD 40 49 [l0] S h = zD 40 51 [l0] (.int (63 : Int32) :: S) h) ∧
  (∀ (l0 : Option Value) (x y : Int32) (r : List Value) (h : zH), zD 40 51 [l0] (.int y :: .int x :: r) h = zD 40 52 [l0] (.int (x &&& y) :: r) h) ∧
  (∀ (l0 : Option Value) (v : Int32) (h : zH), zD 40 52 [l0] [.int v] h = some (some (.int v), h)) :=
  ⟨fun x S h => zD_op (ins := .iload_n 0) (len := 1) (c := (1, [some (.int x)], (.int x :: S), h)) (by decide +kernel) rfl rfl rfl rfl,
  fun x S h => zD_op (ins := .iload_n 0) (len := 1) (c := (2, [some (.int x)], (.int x :: S), h)) (by decide +kernel) rfl rfl rfl rfl,
  fun l0 S h => zD_icst (n := 1) (by decide +kernel) (by decide +kernel),
  fun l0 x y r h => zD_op (ins := .iushr) (len := 1) (c := (4, [l0], (.int ((x.toUInt32 >>> (y.toUInt32 &&& Int32.toUInt32 31)).toInt32) :: r), h)) (by decide +kernel) rfl rfl rfl rfl,
  fun l0 S h => zD_ldcw (i := 265) (q := 395) (by decide +kernel) (by decide +kernel),
  fun l0 x y r h => zD_op (ins := .iand) (len := 1) (c := (8, [l0], (.int (x &&& y) :: r), h)) (by decide +kernel) rfl rfl rfl rfl,
  fun l0 x y r h => zD_op (ins := .isub) (len := 1) (c := (9, [l0], (.int (x - y) :: r), h)) (by decide +kernel) rfl rfl rfl rfl,
  fun l0 x r h => zD_st1 (k := 0) (ins := .istore_n 0) (len := 1) (by decide +kernel) rfl rfl rfl (by decide +kernel) rfl rfl,
  fun x S h => zD_op (ins := .iload_n 0) (len := 1) (c := (11, [some (.int x)], (.int x :: S), h)) (by decide +kernel) rfl rfl rfl rfl,
  fun l0 S h => zD_ldcw (i := 266) (q := 396) (by decide +kernel) (by decide +kernel),
  fun l0 x y r h => zD_op (ins := .iand) (len := 1) (c := (15, [l0], (.int (x &&& y) :: r), h)) (by decide +kernel) rfl rfl rfl rfl,
  fun x S h => zD_op (ins := .iload_n 0) (len := 1) (c := (16, [some (.int x)], (.int x :: S), h)) (by decide +kernel) rfl rfl rfl rfl,
  fun l0 S h => zD_icst (n := 2) (by decide +kernel) (by decide +kernel),
  fun l0 x y r h => zD_op (ins := .iushr) (len := 1) (c := (18, [l0], (.int ((x.toUInt32 >>> (y.toUInt32 &&& Int32.toUInt32 31)).toInt32) :: r), h)) (by decide +kernel) rfl rfl rfl rfl,
  fun l0 S h => zD_ldcw (i := 266) (q := 396) (by decide +kernel) (by decide +kernel),
  fun l0 x y r h => zD_op (ins := .iand) (len := 1) (c := (22, [l0], (.int (x &&& y) :: r), h)) (by decide +kernel) rfl rfl rfl rfl,
  fun l0 x y r h => zD_op (ins := .iadd) (len := 1) (c := (23, [l0], (.int (x + y) :: r), h)) (by decide +kernel) rfl rfl rfl rfl,
  fun l0 x r h => zD_st1 (k := 0) (ins := .istore_n 0) (len := 1) (by decide +kernel) rfl rfl rfl (by decide +kernel) rfl rfl,
  fun x S h => zD_op (ins := .iload_n 0) (len := 1) (c := (25, [some (.int x)], (.int x :: S), h)) (by decide +kernel) rfl rfl rfl rfl,
  fun x S h => zD_op (ins := .iload_n 0) (len := 1) (c := (26, [some (.int x)], (.int x :: S), h)) (by decide +kernel) rfl rfl rfl rfl,
  fun l0 S h => zD_icst (n := 4) (by decide +kernel) (by decide +kernel),
  fun l0 x y r h => zD_op (ins := .iushr) (len := 1) (c := (28, [l0], (.int ((x.toUInt32 >>> (y.toUInt32 &&& Int32.toUInt32 31)).toInt32) :: r), h)) (by decide +kernel) rfl rfl rfl rfl,
  fun l0 x y r h => zD_op (ins := .iadd) (len := 1) (c := (29, [l0], (.int (x + y) :: r), h)) (by decide +kernel) rfl rfl rfl rfl,
  fun l0 S h => zD_ldcw (i := 267) (q := 397) (by decide +kernel) (by decide +kernel),
  fun l0 x y r h => zD_op (ins := .iand) (len := 1) (c := (33, [l0], (.int (x &&& y) :: r), h)) (by decide +kernel) rfl rfl rfl rfl,
  fun l0 x r h => zD_st1 (k := 0) (ins := .istore_n 0) (len := 1) (by decide +kernel) rfl rfl rfl (by decide +kernel) rfl rfl,
  fun x S h => zD_op (ins := .iload_n 0) (len := 1) (c := (35, [some (.int x)], (.int x :: S), h)) (by decide +kernel) rfl rfl rfl rfl,
  fun x S h => zD_op (ins := .iload_n 0) (len := 1) (c := (36, [some (.int x)], (.int x :: S), h)) (by decide +kernel) rfl rfl rfl rfl,
  fun l0 S h => zD_bip (n := 8) (by decide +kernel) (by decide +kernel),
  fun l0 x y r h => zD_op (ins := .iushr) (len := 1) (c := (39, [l0], (.int ((x.toUInt32 >>> (y.toUInt32 &&& Int32.toUInt32 31)).toInt32) :: r), h)) (by decide +kernel) rfl rfl rfl rfl,
  fun l0 x y r h => zD_op (ins := .iadd) (len := 1) (c := (40, [l0], (.int (x + y) :: r), h)) (by decide +kernel) rfl rfl rfl rfl,
  fun l0 x r h => zD_st1 (k := 0) (ins := .istore_n 0) (len := 1) (by decide +kernel) rfl rfl rfl (by decide +kernel) rfl rfl,
  fun x S h => zD_op (ins := .iload_n 0) (len := 1) (c := (42, [some (.int x)], (.int x :: S), h)) (by decide +kernel) rfl rfl rfl rfl,
  fun x S h => zD_op (ins := .iload_n 0) (len := 1) (c := (43, [some (.int x)], (.int x :: S), h)) (by decide +kernel) rfl rfl rfl rfl,
  fun l0 S h => zD_bip (n := 16) (by decide +kernel) (by decide +kernel),
  fun l0 x y r h => zD_op (ins := .iushr) (len := 1) (c := (46, [l0], (.int ((x.toUInt32 >>> (y.toUInt32 &&& Int32.toUInt32 31)).toInt32) :: r), h)) (by decide +kernel) rfl rfl rfl rfl,
  fun l0 x y r h => zD_op (ins := .iadd) (len := 1) (c := (47, [l0], (.int (x + y) :: r), h)) (by decide +kernel) rfl rfl rfl rfl,
  fun l0 x r h => zD_st1 (k := 0) (ins := .istore_n 0) (len := 1) (by decide +kernel) rfl rfl rfl (by decide +kernel) rfl rfl,
  fun x S h => zD_op (ins := .iload_n 0) (len := 1) (c := (49, [some (.int x)], (.int x :: S), h)) (by decide +kernel) rfl rfl rfl rfl,
  fun l0 S h => zD_bip (n := 63) (by decide +kernel) (by decide +kernel),
  fun l0 x y r h => zD_op (ins := .iand) (len := 1) (c := (52, [l0], (.int (x &&& y) :: r), h)) (by decide +kernel) rfl rfl rfl rfl,
  fun l0 v h => zD_ireti (by decide +kernel) rfl⟩
set_option maxRecDepth 100000 in
theorem I_J6_bitCount_0f7a4 : (∀ (p0 : Int32) (h : zH), zC 40 [.int p0] h = zD 40 0 [some (.int p0)] [] h) :=
  fun p0 h => zC_def rfl
set_option maxRecDepth 100000 in
theorem E_J7_fill_53178 : (∀ (l0 l1 l2 l3 : Option Value) (S : List Value) (h : zH), zD 41 0 [l0, l1, l2, l3] S h = zD 41 1 [l0, l1, l2, l3] (.int (0 : Int32) :: S) h) ∧
  (∀ (l0 l1 l2 l3 : Option Value) (x : Int32) (r : List Value) (h : zH), zD 41 1 [l0, l1, l2, l3] (.int x :: r) h = zD 41 2 [l0, zclr l1, some (.int x), l3] r h) ∧
  (∀ (l1 l2 l3 : Option Value) (x : Nat) (S : List Value) (h : zH), zD 41 2 [some (.ref x), l1, l2, l3] S h = zD 41 3 [some (.ref x), l1, l2, l3] (.ref x :: S) h) ∧
  (∀ (l0 l1 l2 l3 : Option Value) (a : Nat) (r : List Value) (h : zH) (hx : zaok a (h.2.2 a) = true), zD 41 3 [l0, l1, l2, l3] (.ref a :: r) h = zD 41 4 [l0, l1, l2, l3] (.int (Int32.ofNat (zan (h.2.2 a))) :: r) h) ∧
  (∀ (l0 l1 l2 l3 : Option Value) (x : Int32) (r : List Value) (h : zH), zD 41 4 [l0, l1, l2, l3] (.int x :: r) h = zD 41 5 [l0, l1, zclr l2, some (.int x)] r h) ∧
  (∀ (l0 l1 l2 : Option Value) (x : Int32) (S : List Value) (h : zH), zD 41 6 [l0, l1, l2, some (.int x)] S h = zD 41 7 [l0, l1, l2, some (.int x)] (.int x :: S) h) ∧
  (∀ (l0 l1 l2 l3 : Option Value) (x y : Int32) (r : List Value) (h : zH), zD 41 7 [l0, l1, l2, l3] (.int y :: .int x :: r) h = if y ≤ x then zD 41 20 [l0, l1, l2, l3] r h else zD 41 10 [l0, l1, l2, l3] r h) ∧
  (∀ (l1 l2 l3 : Option Value) (x : Nat) (S : List Value) (h : zH), zD 41 10 [some (.ref x), l1, l2, l3] S h = zD 41 11 [some (.ref x), l1, l2, l3] (.ref x :: S) h) ∧
  (∀ (l0 l1 l3 : Option Value) (x : Int32) (S : List Value) (h : zH), zD 41 11 [l0, l1, some (.int x), l3] S h = zD 41 12 [l0, l1, some (.int x), l3] (.int x :: S) h) ∧
  (∀ (l0 l2 l3 : Option Value) (x : Int32) (S : List Value) (h : zH), zD 41 12 [l0, some (.int x), l2, l3] S h = zD 41 13 [l0, some (.int x), l2, l3] (.int x :: S) h) ∧
  (∀ (l0 l1 l2 l3 : Option Value) (w i : Int32) (a : Nat) (r : List Value) (h : zH) (hx : zpok (h.2.2 a) i = true), zD 41 13 [l0, l1, l2, l3] (.int w :: .int i :: .ref a :: r) h = zD 41 14 [l0, l1, l2, l3] r (zw h a (zis' (h.2.2 a) i w))) ∧
  (∀ (l0 l1 l3 : Option Value) (x : Int32) (S : List Value) (h : zH), zD 41 14 [l0, l1, some (.int x), l3] S h = zD 41 17 [l0, zclr l1, some (.int (x + (1 : Int32))), l3] S h) ∧
  (∀ (l0 l1 l2 l3 : Option Value) (S : List Value) (h : zH), zD 41 17 [l0, l1, l2, l3] S h = zD 41 5 [l0, l1, l2, l3] S h) ∧
  (∀ (l0 l1 l2 l3 : Option Value) (h : zH), zD 41 20 [l0, l1, l2, l3] [] h = some (none, h)) :=
  ⟨fun l0 l1 l2 l3 S h => zD_icst (n := 0) (by decide +kernel) (by decide +kernel),
  fun l0 l1 l2 l3 x r h => zD_st1 (k := 2) (ins := .istore_n 2) (len := 1) (by decide +kernel) rfl rfl rfl (by decide +kernel) rfl rfl,
  fun l1 l2 l3 x S h => zD_op (ins := .aload_n 0) (len := 1) (c := (3, [some (.ref x), l1, l2, l3], (.ref x :: S), h)) (by decide +kernel) rfl rfl rfl rfl,
  fun l0 l1 l2 l3 a r h hx => zD_alen (by decide +kernel) hx,
  fun l0 l1 l2 l3 x r h => zD_st1 (k := 3) (ins := .istore_n 3) (len := 1) (by decide +kernel) rfl rfl rfl (by decide +kernel) rfl rfl,
  fun l0 l1 l2 x S h => zD_op (ins := .iload_n 3) (len := 1) (c := (7, [l0, l1, l2, some (.int x)], (.int x :: S), h)) (by decide +kernel) rfl rfl rfl rfl,
  fun l0 l1 l2 l3 x y r h => zD_if (cnd := .ge) (off := 13) (by decide +kernel) (by decide) rfl,
  fun l1 l2 l3 x S h => zD_op (ins := .aload_n 0) (len := 1) (c := (11, [some (.ref x), l1, l2, l3], (.ref x :: S), h)) (by decide +kernel) rfl rfl rfl rfl,
  fun l0 l1 l3 x S h => zD_op (ins := .iload_n 2) (len := 1) (c := (12, [l0, l1, some (.int x), l3], (.int x :: S), h)) (by decide +kernel) rfl rfl rfl rfl,
  fun l0 l2 l3 x S h => zD_op (ins := .iload_n 1) (len := 1) (c := (13, [l0, some (.int x), l2, l3], (.int x :: S), h)) (by decide +kernel) rfl rfl rfl rfl,
  fun l0 l1 l2 l3 w i a r h hx => zD_iast (by decide +kernel) hx,
  fun l0 l1 l3 x S h => zD_iinc (k := 2) (x := x) (c := (1 : Int32)) (n := 1) (by decide +kernel) (by decide +kernel) rfl (by decide +kernel) rfl,
  fun l0 l1 l2 l3 S h => zD_goto (off := (-12)) (by decide +kernel) (by decide),
  fun l0 l1 l2 l3 h => zD_vret (by decide +kernel) rfl⟩
set_option maxRecDepth 100000 in
theorem E_J7_fill_53178_h5 : (∀ (l0 l1 l3 : Option Value) (x : Int32) (S : List Value) (h : zH), zD 41 5 [l0, l1, some (.int x), l3] S h = zD 41 6 [l0, l1, some (.int x), l3] (.int x :: S) h) :=
  fun l0 l1 l3 x S h => zD_op (ins := .iload_n 2) (len := 1) (c := (6, [l0, l1, some (.int x), l3], (.int x :: S), h)) (by decide +kernel) rfl rfl rfl rfl
set_option maxRecDepth 100000 in
theorem I_J7_fill_53178 : (∀ (p0 : Nat) (p1 : Int32) (h : zH), zC 41 [.ref p0, .int p1] h = zD 41 0 [some (.ref p0), some (.int p1), none, none] [] h) :=
  fun p0 p1 h => zC_def rfl
set_option maxRecDepth 100000 in
theorem E_X0_init : (∀ (l1 : Option Value) (x : Nat) (S : List Value) (h : zH), zD 42 0 [some (.ref x), l1] S h = zD 42 1 [some (.ref x), l1] (.ref x :: S) h) ∧
  (∀ (l0 l1 : Option Value) (a : Nat) (r : List Value) (h : zH) (hcat : zcat r ≤ 8), zD 42 1 [l0, l1] (.ref a :: r) h = zD 42 4 [l0, l1] r h) ∧
  (∀ (l1 : Option Value) (x : Nat) (S : List Value) (h : zH), zD 42 4 [some (.ref x), l1] S h = zD 42 5 [some (.ref x), l1] (.ref x :: S) h) ∧
  (∀ (l0 : Option Value) (x : Nat) (S : List Value) (h : zH), zD 42 5 [l0, some (.ref x)] S h = zD 42 6 [l0, some (.ref x)] (.ref x :: S) h) ∧
  (∀ (l0 : Option Value) (S : List Value) (h : zH), zD 42 5 [l0, some .null] S h = zD 42 6 [l0, some .null] (.null :: S) h) ∧
  (∀ (l0 l1 : Option Value) (v : Nat) (a : Nat) (r : List Value) (h : zH) (hx : zfok (h.2.2 a) 0 0 = true), zD 42 6 [l0, l1] (.ref v :: .ref a :: r) h = zD 42 9 [l0, l1] r (zw h a (zfs' (h.2.2 a) 0 (.ref v)))) ∧
  (∀ (l1 : Option Value) (x : Nat) (S : List Value) (h : zH), zD 42 9 [some (.ref x), l1] S h = zD 42 10 [some (.ref x), l1] (.ref x :: S) h) ∧
  (∀ (l0 l1 : Option Value) (S : List Value) (h : zH), zD 42 10 [l0, l1] S h = zD 42 12 [l0, l1] (.int (64 : Int32) :: S) h) ∧
  (∀ (l0 l1 : Option Value) (n : Int32) (r : List Value) (h : zH) (hx : znok n = true), zD 42 12 [l0, l1] (.int n :: r) h = zD 42 14 [l0, l1] (.ref h.1 :: r) (znew h n.toNatClampNeg (.inl (1, n.toNatClampNeg, .inr (.inl (fun _ => 0)))))) ∧
  (∀ (l0 l1 : Option Value) (v : Nat) (a : Nat) (r : List Value) (h : zH) (hx : zfok (h.2.2 a) 0 1 = true), zD 42 14 [l0, l1] (.ref v :: .ref a :: r) h = zD 42 17 [l0, l1] r (zw h a (zfs' (h.2.2 a) 1 (.ref v)))) ∧
  (∀ (l0 l1 : Option Value) (h : zH), zD 42 17 [l0, l1] [] h = some (none, h)) :=
  ⟨fun l1 x S h => zD_op (ins := .aload_n 0) (len := 1) (c := (1, [some (.ref x), l1], (.ref x :: S), h)) (by decide +kernel) rfl rfl rfl rfl,
  fun l0 l1 a r h hcat => zD_obj (i := 3) (q := 152) (by decide +kernel) (by decide +kernel) (by decide +kernel) (by decide +kernel) hcat,
  fun l1 x S h => zD_op (ins := .aload_n 0) (len := 1) (c := (5, [some (.ref x), l1], (.ref x :: S), h)) (by decide +kernel) rfl rfl rfl rfl,
  fun l0 x S h => zD_op (ins := .aload_n 1) (len := 1) (c := (6, [l0, some (.ref x)], (.ref x :: S), h)) (by decide +kernel) rfl rfl rfl rfl,
  fun l0 S h => zD_op (ins := .aload_n 1) (len := 1) (c := (6, [l0, some .null], (.null :: S), h)) (by decide +kernel) rfl rfl rfl rfl,
  fun l0 l1 v a r h hx => zD_putf (i := 9) (ci := 0) (k := 0) (q := (153, 0)) (by decide +kernel) (by decide +kernel) (by decide +kernel) hx rfl rfl,
  fun l1 x S h => zD_op (ins := .aload_n 0) (len := 1) (c := (10, [some (.ref x), l1], (.ref x :: S), h)) (by decide +kernel) rfl rfl rfl rfl,
  fun l0 l1 S h => zD_bip (n := 64) (by decide +kernel) (by decide +kernel),
  fun l0 l1 n r h hx => zD_newl (by decide +kernel) hx,
  fun l0 l1 v a r h hx => zD_putf (i := 15) (ci := 0) (k := 1) (q := (154, 0)) (by decide +kernel) (by decide +kernel) (by decide +kernel) hx rfl rfl,
  fun l0 l1 h => zD_vret (by decide +kernel) rfl⟩
set_option maxRecDepth 100000 in
theorem I_X0_init : (∀ (a : Nat) (p0 : Nat) (h : zH), zC 42 [.ref a, .ref p0] h = zD 42 0 [some (.ref a), some (.ref p0)] [] h) :=
  fun a p0 h => zC_def rfl
set_option maxRecDepth 100000 in
theorem E_X0_eliminate : (∀ (l0 l1 l2 l3 l4 l6 l7 l8 l9 l10 : Option Value) (x : Int64) (S : List Value) (h : zH), zD 43 0 [l0, l1, l2, l3, l4, some (.long x), l6, l7, l8, l9, l10] S h = zD 43 2 [l0, l1, l2, l3, l4, some (.long x), l6, l7, l8, l9, l10] (.long x :: S) h) ∧
  (∀ (l0 l1 l2 l3 l4 l5 l6 l7 l8 l9 l10 : Option Value) (S : List Value) (h : zH), zD 43 2 [l0, l1, l2, l3, l4, l5, l6, l7, l8, l9, l10] S h = zD 43 3 [l0, l1, l2, l3, l4, l5, l6, l7, l8, l9, l10] (.long (0 : Int64) :: S) h) ∧
  (∀ (l0 l1 l2 l3 l4 l5 l6 l7 l8 l9 l10 : Option Value) (x y : Int64) (r : List Value) (h : zH), zD 43 3 [l0, l1, l2, l3, l4, l5, l6, l7, l8, l9, l10] (.long y :: .long x :: r) h = zD 43 4 [l0, l1, l2, l3, l4, l5, l6, l7, l8, l9, l10] (.int (lg_cmp x y) :: r) h) ∧
  (∀ (l0 l1 l2 l3 l4 l5 l6 l7 l8 l9 l10 : Option Value) (x : Int32) (r : List Value) (h : zH), zD 43 4 [l0, l1, l2, l3, l4, l5, l6, l7, l8, l9, l10] (.int x :: r) h = if ¬ x = 0 then zD 43 8 [l0, l1, l2, l3, l4, l5, l6, l7, l8, l9, l10] r h else zD 43 7 [l0, l1, l2, l3, l4, l5, l6, l7, l8, l9, l10] r h) ∧
  (∀ (l0 l1 l2 l3 l4 l5 l6 l7 l8 l9 l10 : Option Value) (h : zH), zD 43 7 [l0, l1, l2, l3, l4, l5, l6, l7, l8, l9, l10] [] h = some (none, h)) ∧
  (∀ (l0 l1 l3 l4 l5 l6 l7 l8 l9 l10 : Option Value) (x : Int32) (S : List Value) (h : zH), zD 43 8 [l0, l1, some (.int x), l3, l4, l5, l6, l7, l8, l9, l10] S h = zD 43 9 [l0, l1, some (.int x), l3, l4, l5, l6, l7, l8, l9, l10] (.int x :: S) h) ∧
  (∀ (l0 l1 l2 l3 l4 l5 l6 l7 l8 l9 l10 : Option Value) (S : List Value) (h : zH), zD 43 9 [l0, l1, l2, l3, l4, l5, l6, l7, l8, l9, l10] S h = zD 43 10 [l0, l1, l2, l3, l4, l5, l6, l7, l8, l9, l10] (.int (1 : Int32) :: S) h) ∧
  (∀ (l0 l1 l2 l3 l4 l5 l6 l7 l8 l9 l10 : Option Value) (x y : Int32) (r : List Value) (h : zH), zD 43 10 [l0, l1, l2, l3, l4, l5, l6, l7, l8, l9, l10] (.int y :: .int x :: r) h = zD 43 11 [l0, l1, l2, l3, l4, l5, l6, l7, l8, l9, l10] (.int (x + y) :: r) h) ∧
  (∀ (l0 l1 l2 l3 l4 l5 l6 l7 l8 l9 l10 : Option Value) (x : Int32) (r : List Value) (h : zH), zD 43 11 [l0, l1, l2, l3, l4, l5, l6, l7, l8, l9, l10] (.int x :: r) h = zD 43 13 [l0, l1, l2, l3, l4, l5, zclr l6, some (.int x), l8, l9, l10] r h) ∧
  (∀ (l0 l2 l3 l4 l5 l6 l7 l8 l9 l10 : Option Value) (x : Int32) (S : List Value) (h : zH), zD 43 15 [l0, some (.int x), l2, l3, l4, l5, l6, l7, l8, l9, l10] S h = zD 43 16 [l0, some (.int x), l2, l3, l4, l5, l6, l7, l8, l9, l10] (.int x :: S) h) ∧
  (∀ (l0 l1 l2 l3 l4 l5 l6 l7 l8 l9 l10 : Option Value) (x y : Int32) (r : List Value) (h : zH), zD 43 16 [l0, l1, l2, l3, l4, l5, l6, l7, l8, l9, l10] (.int y :: .int x :: r) h = if y < x then zD 43 99 [l0, l1, l2, l3, l4, l5, l6, l7, l8, l9, l10] r h else zD 43 19 [l0, l1, l2, l3, l4, l5, l6, l7, l8, l9, l10] r h) ∧
  (∀ (l0 l1 l3 l4 l5 l6 l7 l8 l9 l10 : Option Value) (x : Int32) (S : List Value) (h : zH), zD 43 19 [l0, l1, some (.int x), l3, l4, l5, l6, l7, l8, l9, l10] S h = zD 43 20 [l0, l1, some (.int x), l3, l4, l5, l6, l7, l8, l9, l10] (.int x :: S) h) ∧
  (∀ (l0 l1 l2 l3 l4 l5 l6 l7 l8 l9 l10 : Option Value) (S : List Value) (h : zH), zD 43 20 [l0, l1, l2, l3, l4, l5, l6, l7, l8, l9, l10] S h = zD 43 21 [l0, l1, l2, l3, l4, l5, l6, l7, l8, l9, l10] (.int (1 : Int32) :: S) h) ∧
  (∀ (l0 l1 l2 l3 l4 l5 l6 l7 l8 l9 l10 : Option Value) (x y : Int32) (r : List Value) (h : zH), zD 43 21 [l0, l1, l2, l3, l4, l5, l6, l7, l8, l9, l10] (.int y :: .int x :: r) h = zD 43 22 [l0, l1, l2, l3, l4, l5, l6, l7, l8, l9, l10] (.int (x + y) :: r) h) ∧
  (∀ (l0 l1 l2 l3 l4 l5 l6 l7 l8 l9 l10 : Option Value) (x : Int32) (r : List Value) (h : zH), zD 43 22 [l0, l1, l2, l3, l4, l5, l6, l7, l8, l9, l10] (.int x :: r) h = zD 43 24 [l0, l1, l2, l3, l4, l5, l6, zclr l7, some (.int x), l9, l10] r h) ∧
  (∀ (l0 l2 l3 l4 l5 l6 l7 l8 l9 l10 : Option Value) (x : Int32) (S : List Value) (h : zH), zD 43 26 [l0, some (.int x), l2, l3, l4, l5, l6, l7, l8, l9, l10] S h = zD 43 27 [l0, some (.int x), l2, l3, l4, l5, l6, l7, l8, l9, l10] (.int x :: S) h) ∧
  (∀ (l0 l1 l2 l3 l4 l5 l6 l7 l8 l9 l10 : Option Value) (x y : Int32) (r : List Value) (h : zH), zD 43 27 [l0, l1, l2, l3, l4, l5, l6, l7, l8, l9, l10] (.int y :: .int x :: r) h = if y < x then zD 43 93 [l0, l1, l2, l3, l4, l5, l6, l7, l8, l9, l10] r h else zD 43 30 [l0, l1, l2, l3, l4, l5, l6, l7, l8, l9, l10] r h) ∧
  (∀ (l1 l2 l3 l4 l5 l6 l7 l8 l9 l10 : Option Value) (x : Nat) (S : List Value) (h : zH), zD 43 30 [some (.ref x), l1, l2, l3, l4, l5, l6, l7, l8, l9, l10] S h = zD 43 31 [some (.ref x), l1, l2, l3, l4, l5, l6, l7, l8, l9, l10] (.ref x :: S) h) ∧
  (∀ (l0 l1 l2 l3 l4 l5 l6 l7 l8 l9 l10 : Option Value) (a : Nat) (r : List Value) (h : zH) (hx : zfok (h.2.2 a) 0 1 = true), zD 43 31 [l0, l1, l2, l3, l4, l5, l6, l7, l8, l9, l10] (.ref a :: r) h = zD 43 34 [l0, l1, l2, l3, l4, l5, l6, l7, l8, l9, l10] (zfv (h.2.2 a) 1 :: r) h) ∧
  (∀ (l0 l1 l2 l3 l4 l5 l6 l8 l9 l10 : Option Value) (x : Int32) (S : List Value) (h : zH), zD 43 34 [l0, l1, l2, l3, l4, l5, l6, some (.int x), l8, l9, l10] S h = zD 43 36 [l0, l1, l2, l3, l4, l5, l6, some (.int x), l8, l9, l10] (.int x :: S) h) ∧
  (∀ (l0 l1 l3 l4 l5 l6 l7 l8 l9 l10 : Option Value) (x : Int32) (S : List Value) (h : zH), zD 43 36 [l0, l1, some (.int x), l3, l4, l5, l6, l7, l8, l9, l10] S h = zD 43 37 [l0, l1, some (.int x), l3, l4, l5, l6, l7, l8, l9, l10] (.int x :: S) h) ∧
  (∀ (l0 l1 l2 l3 l4 l5 l6 l7 l8 l9 l10 : Option Value) (p0 : Int32) (p1 : Int32) (r : List Value) (h : zH) (hcat : zcat r ≤ 8) (hC : (zC 0 [.int p0, .int p1] h).isSome = true), zD 43 37 [l0, l1, l2, l3, l4, l5, l6, l7, l8, l9, l10] (.int p1 :: .int p0 :: r) h = zD 43 40 [l0, l1, l2, l3, l4, l5, l6, l7, l8, l9, l10] (zgv (zC 0 [.int p0, .int p1] h) ++ r) (zgh h (zC 0 [.int p0, .int p1] h))) ∧
  (∀ (l0 l1 l2 l3 l4 l5 l6 l7 l8 l9 l10 : Option Value) (i : Int32) (a : Nat) (r : List Value) (h : zH) (hx : zlok (h.2.2 a) i = true), zD 43 40 [l0, l1, l2, l3, l4, l5, l6, l7, l8, l9, l10] (.int i :: .ref a :: r) h = zD 43 41 [l0, l1, l2, l3, l4, l5, l6, l7, l8, l9, l10] (.long (zlv' (h.2.2 a) i) :: r) h) ∧
  (∀ (l1 l2 l3 l4 l5 l6 l7 l8 l9 l10 : Option Value) (x : Nat) (S : List Value) (h : zH), zD 43 41 [some (.ref x), l1, l2, l3, l4, l5, l6, l7, l8, l9, l10] S h = zD 43 42 [some (.ref x), l1, l2, l3, l4, l5, l6, l7, l8, l9, l10] (.ref x :: S) h) ∧
  (∀ (l0 l1 l2 l3 l4 l5 l6 l7 l8 l9 l10 : Option Value) (a : Nat) (r : List Value) (h : zH) (hx : zfok (h.2.2 a) 0 1 = true), zD 43 42 [l0, l1, l2, l3, l4, l5, l6, l7, l8, l9, l10] (.ref a :: r) h = zD 43 45 [l0, l1, l2, l3, l4, l5, l6, l7, l8, l9, l10] (zfv (h.2.2 a) 1 :: r) h) ∧
  (∀ (l0 l1 l3 l4 l5 l6 l7 l8 l9 l10 : Option Value) (x : Int32) (S : List Value) (h : zH), zD 43 45 [l0, l1, some (.int x), l3, l4, l5, l6, l7, l8, l9, l10] S h = zD 43 46 [l0, l1, some (.int x), l3, l4, l5, l6, l7, l8, l9, l10] (.int x :: S) h) ∧
  (∀ (l0 l1 l2 l3 l4 l5 l6 l7 l9 l10 : Option Value) (x : Int32) (S : List Value) (h : zH), zD 43 46 [l0, l1, l2, l3, l4, l5, l6, l7, some (.int x), l9, l10] S h = zD 43 48 [l0, l1, l2, l3, l4, l5, l6, l7, some (.int x), l9, l10] (.int x :: S) h) ∧
  (∀ (l0 l1 l2 l3 l4 l5 l6 l7 l8 l9 l10 : Option Value) (p0 : Int32) (p1 : Int32) (r : List Value) (h : zH) (hcat : zcat r ≤ 8) (hC : (zC 0 [.int p0, .int p1] h).isSome = true), zD 43 48 [l0, l1, l2, l3, l4, l5, l6, l7, l8, l9, l10] (.int p1 :: .int p0 :: r) h = zD 43 51 [l0, l1, l2, l3, l4, l5, l6, l7, l8, l9, l10] (zgv (zC 0 [.int p0, .int p1] h) ++ r) (zgh h (zC 0 [.int p0, .int p1] h))) ∧
  (∀ (l0 l1 l2 l3 l4 l5 l6 l7 l8 l9 l10 : Option Value) (i : Int32) (a : Nat) (r : List Value) (h : zH) (hx : zlok (h.2.2 a) i = true), zD 43 51 [l0, l1, l2, l3, l4, l5, l6, l7, l8, l9, l10] (.int i :: .ref a :: r) h = zD 43 52 [l0, l1, l2, l3, l4, l5, l6, l7, l8, l9, l10] (.long (zlv' (h.2.2 a) i) :: r) h) ∧
  (∀ (l0 l1 l2 l3 l4 l5 l6 l7 l8 l9 l10 : Option Value) (x y : Int64) (r : List Value) (h : zH), zD 43 52 [l0, l1, l2, l3, l4, l5, l6, l7, l8, l9, l10] (.long y :: .long x :: r) h = zD 43 53 [l0, l1, l2, l3, l4, l5, l6, l7, l8, l9, l10] (.long (x * y) :: r) h) ∧
  (∀ (l0 l1 l2 l3 l4 l5 l6 l7 l8 l9 l10 : Option Value) (x : Int64) (r : List Value) (h : zH), zD 43 53 [l0, l1, l2, l3, l4, l5, l6, l7, l8, l9, l10] (.long x :: r) h = zD 43 55 [l0, l1, l2, l3, l4, l5, l6, l7, zclr l8, some (.long x), none] r h) ∧
  (∀ (l1 l2 l3 l4 l5 l6 l7 l8 l9 l10 : Option Value) (x : Nat) (S : List Value) (h : zH), zD 43 55 [some (.ref x), l1, l2, l3, l4, l5, l6, l7, l8, l9, l10] S h = zD 43 56 [some (.ref x), l1, l2, l3, l4, l5, l6, l7, l8, l9, l10] (.ref x :: S) h) ∧
  (∀ (l0 l1 l2 l3 l4 l5 l6 l7 l8 l9 l10 : Option Value) (a : Nat) (r : List Value) (h : zH) (hx : zfok (h.2.2 a) 0 1 = true), zD 43 56 [l0, l1, l2, l3, l4, l5, l6, l7, l8, l9, l10] (.ref a :: r) h = zD 43 59 [l0, l1, l2, l3, l4, l5, l6, l7, l8, l9, l10] (zfv (h.2.2 a) 1 :: r) h) ∧
  (∀ (l0 l1 l2 l3 l4 l5 l6 l8 l9 l10 : Option Value) (x : Int32) (S : List Value) (h : zH), zD 43 59 [l0, l1, l2, l3, l4, l5, l6, some (.int x), l8, l9, l10] S h = zD 43 61 [l0, l1, l2, l3, l4, l5, l6, some (.int x), l8, l9, l10] (.int x :: S) h) ∧
  (∀ (l0 l1 l2 l3 l4 l5 l6 l7 l9 l10 : Option Value) (x : Int32) (S : List Value) (h : zH), zD 43 61 [l0, l1, l2, l3, l4, l5, l6, l7, some (.int x), l9, l10] S h = zD 43 63 [l0, l1, l2, l3, l4, l5, l6, l7, some (.int x), l9, l10] (.int x :: S) h) ∧
  (∀ (l0 l1 l2 l3 l4 l5 l6 l7 l8 l9 l10 : Option Value) (p0 : Int32) (p1 : Int32) (r : List Value) (h : zH) (hcat : zcat r ≤ 8) (hC : (zC 0 [.int p0, .int p1] h).isSome = true), zD 43 63 [l0, l1, l2, l3, l4, l5, l6, l7, l8, l9, l10] (.int p1 :: .int p0 :: r) h = zD 43 66 [l0, l1, l2, l3, l4, l5, l6, l7, l8, l9, l10] (zgv (zC 0 [.int p0, .int p1] h) ++ r) (zgh h (zC 0 [.int p0, .int p1] h))) ∧
  (∀ (l1 l2 l3 l4 l5 l6 l7 l8 l9 l10 : Option Value) (x : Nat) (S : List Value) (h : zH), zD 43 66 [some (.ref x), l1, l2, l3, l4, l5, l6, l7, l8, l9, l10] S h = zD 43 67 [some (.ref x), l1, l2, l3, l4, l5, l6, l7, l8, l9, l10] (.ref x :: S) h) ∧
  (∀ (l0 l1 l2 l3 l4 l5 l6 l7 l8 l9 l10 : Option Value) (a : Nat) (r : List Value) (h : zH) (hx : zfok (h.2.2 a) 0 1 = true), zD 43 67 [l0, l1, l2, l3, l4, l5, l6, l7, l8, l9, l10] (.ref a :: r) h = zD 43 70 [l0, l1, l2, l3, l4, l5, l6, l7, l8, l9, l10] (zfv (h.2.2 a) 1 :: r) h) ∧
  (∀ (l0 l1 l2 l3 l4 l5 l6 l8 l9 l10 : Option Value) (x : Int32) (S : List Value) (h : zH), zD 43 70 [l0, l1, l2, l3, l4, l5, l6, some (.int x), l8, l9, l10] S h = zD 43 72 [l0, l1, l2, l3, l4, l5, l6, some (.int x), l8, l9, l10] (.int x :: S) h) ∧
  (∀ (l0 l1 l2 l3 l4 l5 l6 l7 l9 l10 : Option Value) (x : Int32) (S : List Value) (h : zH), zD 43 72 [l0, l1, l2, l3, l4, l5, l6, l7, some (.int x), l9, l10] S h = zD 43 74 [l0, l1, l2, l3, l4, l5, l6, l7, some (.int x), l9, l10] (.int x :: S) h) ∧
  (∀ (l0 l1 l2 l3 l4 l5 l6 l7 l8 l9 l10 : Option Value) (p0 : Int32) (p1 : Int32) (r : List Value) (h : zH) (hcat : zcat r ≤ 8) (hC : (zC 0 [.int p0, .int p1] h).isSome = true), zD 43 74 [l0, l1, l2, l3, l4, l5, l6, l7, l8, l9, l10] (.int p1 :: .int p0 :: r) h = zD 43 77 [l0, l1, l2, l3, l4, l5, l6, l7, l8, l9, l10] (zgv (zC 0 [.int p0, .int p1] h) ++ r) (zgh h (zC 0 [.int p0, .int p1] h))) ∧
  (∀ (l0 l1 l2 l3 l4 l5 l6 l7 l8 l9 l10 : Option Value) (i : Int32) (a : Nat) (r : List Value) (h : zH) (hx : zlok (h.2.2 a) i = true), zD 43 77 [l0, l1, l2, l3, l4, l5, l6, l7, l8, l9, l10] (.int i :: .ref a :: r) h = zD 43 78 [l0, l1, l2, l3, l4, l5, l6, l7, l8, l9, l10] (.long (zlv' (h.2.2 a) i) :: r) h) ∧
  (∀ (l0 l1 l2 l4 l5 l6 l7 l8 l9 l10 : Option Value) (x : Int64) (S : List Value) (h : zH), zD 43 78 [l0, l1, l2, some (.long x), l4, l5, l6, l7, l8, l9, l10] S h = zD 43 79 [l0, l1, l2, some (.long x), l4, l5, l6, l7, l8, l9, l10] (.long x :: S) h) ∧
  (∀ (l0 l1 l2 l3 l4 l5 l6 l7 l8 l9 l10 : Option Value) (x y : Int64) (r : List Value) (h : zH), zD 43 79 [l0, l1, l2, l3, l4, l5, l6, l7, l8, l9, l10] (.long y :: .long x :: r) h = zD 43 80 [l0, l1, l2, l3, l4, l5, l6, l7, l8, l9, l10] (.long (x * y) :: r) h) ∧
  (∀ (l0 l1 l2 l3 l4 l5 l6 l7 l8 l10 : Option Value) (x : Int64) (S : List Value) (h : zH), zD 43 80 [l0, l1, l2, l3, l4, l5, l6, l7, l8, some (.long x), l10] S h = zD 43 82 [l0, l1, l2, l3, l4, l5, l6, l7, l8, some (.long x), l10] (.long x :: S) h) ∧
  (∀ (l0 l1 l2 l3 l4 l5 l6 l7 l8 l9 l10 : Option Value) (x y : Int64) (r : List Value) (h : zH), zD 43 82 [l0, l1, l2, l3, l4, l5, l6, l7, l8, l9, l10] (.long y :: .long x :: r) h = zD 43 83 [l0, l1, l2, l3, l4, l5, l6, l7, l8, l9, l10] (.long (x - y) :: r) h) ∧
  (∀ (l0 l1 l2 l3 l4 l6 l7 l8 l9 l10 : Option Value) (x : Int64) (S : List Value) (h : zH), zD 43 83 [l0, l1, l2, l3, l4, some (.long x), l6, l7, l8, l9, l10] S h = zD 43 85 [l0, l1, l2, l3, l4, some (.long x), l6, l7, l8, l9, l10] (.long x :: S) h) ∧
  (∀ (l0 l1 l2 l3 l4 l5 l6 l7 l8 l9 l10 : Option Value) (x y : Int64) (r : List Value) (h : zH) (hy : ¬ y = 0), zD 43 85 [l0, l1, l2, l3, l4, l5, l6, l7, l8, l9, l10] (.long y :: .long x :: r) h = zD 43 86 [l0, l1, l2, l3, l4, l5, l6, l7, l8, l9, l10] (.long (x / y) :: r) h) ∧
  (∀ (l0 l1 l2 l3 l4 l5 l6 l7 l8 l9 l10 : Option Value) (w : Int64) (i : Int32) (a : Nat) (r : List Value) (h : zH) (hx : zlok (h.2.2 a) i = true), zD 43 86 [l0, l1, l2, l3, l4, l5, l6, l7, l8, l9, l10] (.long w :: .int i :: .ref a :: r) h = zD 43 87 [l0, l1, l2, l3, l4, l5, l6, l7, l8, l9, l10] r (zw h a (zls' (h.2.2 a) i w))) ∧
  (∀ (l0 l1 l2 l3 l4 l5 l6 l7 l9 l10 : Option Value) (x : Int32) (S : List Value) (h : zH), zD 43 87 [l0, l1, l2, l3, l4, l5, l6, l7, some (.int x), l9, l10] S h = zD 43 90 [l0, l1, l2, l3, l4, l5, l6, zclr l7, some (.int (x + (1 : Int32))), l9, l10] S h) ∧
  (∀ (l0 l1 l2 l3 l4 l5 l6 l7 l8 l9 l10 : Option Value) (S : List Value) (h : zH), zD 43 90 [l0, l1, l2, l3, l4, l5, l6, l7, l8, l9, l10] S h = zD 43 24 [l0, l1, l2, l3, l4, l5, l6, l7, l8, l9, l10] S h) ∧
  (∀ (l0 l1 l2 l3 l4 l5 l6 l8 l9 l10 : Option Value) (x : Int32) (S : List Value) (h : zH), zD 43 93 [l0, l1, l2, l3, l4, l5, l6, some (.int x), l8, l9, l10] S h = zD 43 96 [l0, l1, l2, l3, l4, l5, zclr l6, some (.int (x + (1 : Int32))), l8, l9, l10] S h) ∧
  (∀ (l0 l1 l2 l3 l4 l5 l6 l7 l8 l9 l10 : Option Value) (S : List Value) (h : zH), zD 43 96 [l0, l1, l2, l3, l4, l5, l6, l7, l8, l9, l10] S h = zD 43 13 [l0, l1, l2, l3, l4, l5, l6, l7, l8, l9, l10] S h) ∧
  (∀ (l0 l1 l2 l3 l4 l5 l6 l7 l8 l9 l10 : Option Value) (h : zH), zD 43 99 [l0, l1, l2, l3, l4, l5, l6, l7, l8, l9, l10] [] h = some (none, h)) :=
  ⟨fun l0 l1 l2 l3 l4 l6 l7 l8 l9 l10 x S h => zD_op (ins := .lload 5) (len := 2) (c := (2, [l0, l1, l2, l3, l4, some (.long x), l6, l7, l8, l9, l10], (.long x :: S), h)) (by decide +kernel) rfl rfl rfl rfl,
  fun l0 l1 l2 l3 l4 l5 l6 l7 l8 l9 l10 S h => zD_op (ins := .lconst 0) (len := 1) (c := (3, [l0, l1, l2, l3, l4, l5, l6, l7, l8, l9, l10], (.long (0 : Int64) :: S), h)) (by decide +kernel) rfl rfl rfl rfl,
  fun l0 l1 l2 l3 l4 l5 l6 l7 l8 l9 l10 x y r h => zD_op (ins := .lcmp) (len := 1) (c := (4, [l0, l1, l2, l3, l4, l5, l6, l7, l8, l9, l10], (.int (lg_cmp x y) :: r), h)) (by decide +kernel) rfl rfl rfl rfl,
  fun l0 l1 l2 l3 l4 l5 l6 l7 l8 l9 l10 x r h => zD_if0 (cnd := .ne) (off := 4) (by decide +kernel) (by decide) rfl,
  fun l0 l1 l2 l3 l4 l5 l6 l7 l8 l9 l10 h => zD_vret (by decide +kernel) rfl,
  fun l0 l1 l3 l4 l5 l6 l7 l8 l9 l10 x S h => zD_op (ins := .iload_n 2) (len := 1) (c := (9, [l0, l1, some (.int x), l3, l4, l5, l6, l7, l8, l9, l10], (.int x :: S), h)) (by decide +kernel) rfl rfl rfl rfl,
  fun l0 l1 l2 l3 l4 l5 l6 l7 l8 l9 l10 S h => zD_icst (n := 1) (by decide +kernel) (by decide +kernel),
  fun l0 l1 l2 l3 l4 l5 l6 l7 l8 l9 l10 x y r h => zD_op (ins := .iadd) (len := 1) (c := (11, [l0, l1, l2, l3, l4, l5, l6, l7, l8, l9, l10], (.int (x + y) :: r), h)) (by decide +kernel) rfl rfl rfl rfl,
  fun l0 l1 l2 l3 l4 l5 l6 l7 l8 l9 l10 x r h => zD_st1 (k := 7) (ins := .istore 7) (len := 2) (by decide +kernel) rfl rfl rfl (by decide +kernel) rfl rfl,
  fun l0 l2 l3 l4 l5 l6 l7 l8 l9 l10 x S h => zD_op (ins := .iload_n 1) (len := 1) (c := (16, [l0, some (.int x), l2, l3, l4, l5, l6, l7, l8, l9, l10], (.int x :: S), h)) (by decide +kernel) rfl rfl rfl rfl,
  fun l0 l1 l2 l3 l4 l5 l6 l7 l8 l9 l10 x y r h => zD_if (cnd := .gt) (off := 83) (by decide +kernel) (by decide) rfl,
  fun l0 l1 l3 l4 l5 l6 l7 l8 l9 l10 x S h => zD_op (ins := .iload_n 2) (len := 1) (c := (20, [l0, l1, some (.int x), l3, l4, l5, l6, l7, l8, l9, l10], (.int x :: S), h)) (by decide +kernel) rfl rfl rfl rfl,
  fun l0 l1 l2 l3 l4 l5 l6 l7 l8 l9 l10 S h => zD_icst (n := 1) (by decide +kernel) (by decide +kernel),
  fun l0 l1 l2 l3 l4 l5 l6 l7 l8 l9 l10 x y r h => zD_op (ins := .iadd) (len := 1) (c := (22, [l0, l1, l2, l3, l4, l5, l6, l7, l8, l9, l10], (.int (x + y) :: r), h)) (by decide +kernel) rfl rfl rfl rfl,
  fun l0 l1 l2 l3 l4 l5 l6 l7 l8 l9 l10 x r h => zD_st1 (k := 8) (ins := .istore 8) (len := 2) (by decide +kernel) rfl rfl rfl (by decide +kernel) rfl rfl,
  fun l0 l2 l3 l4 l5 l6 l7 l8 l9 l10 x S h => zD_op (ins := .iload_n 1) (len := 1) (c := (27, [l0, some (.int x), l2, l3, l4, l5, l6, l7, l8, l9, l10], (.int x :: S), h)) (by decide +kernel) rfl rfl rfl rfl,
  fun l0 l1 l2 l3 l4 l5 l6 l7 l8 l9 l10 x y r h => zD_if (cnd := .gt) (off := 66) (by decide +kernel) (by decide) rfl,
  fun l1 l2 l3 l4 l5 l6 l7 l8 l9 l10 x S h => zD_op (ins := .aload_n 0) (len := 1) (c := (31, [some (.ref x), l1, l2, l3, l4, l5, l6, l7, l8, l9, l10], (.ref x :: S), h)) (by decide +kernel) rfl rfl rfl rfl,
  fun l0 l1 l2 l3 l4 l5 l6 l7 l8 l9 l10 a r h hx => zD_getf (i := 15) (ci := 0) (k := 1) (q := (154, 0)) (by decide +kernel) (by decide +kernel) hx,
  fun l0 l1 l2 l3 l4 l5 l6 l8 l9 l10 x S h => zD_op (ins := .iload 7) (len := 2) (c := (36, [l0, l1, l2, l3, l4, l5, l6, some (.int x), l8, l9, l10], (.int x :: S), h)) (by decide +kernel) rfl rfl rfl rfl,
  fun l0 l1 l3 l4 l5 l6 l7 l8 l9 l10 x S h => zD_op (ins := .iload_n 2) (len := 1) (c := (37, [l0, l1, some (.int x), l3, l4, l5, l6, l7, l8, l9, l10], (.int x :: S), h)) (by decide +kernel) rfl rfl rfl rfl,
  fun l0 l1 l2 l3 l4 l5 l6 l7 l8 l9 l10 p0 p1 r h hcat hC => zD_calls (i := 49) (y := 0) (n := 2) (as := [.int p0, .int p1]) (by decide +kernel) (by decide +kernel) rfl (by decide +kernel) (Nat.le_of_ble_eq_true rfl) hcat hC,
  fun l0 l1 l2 l3 l4 l5 l6 l7 l8 l9 l10 i a r h hx => zD_lald (by decide +kernel) hx,
  fun l1 l2 l3 l4 l5 l6 l7 l8 l9 l10 x S h => zD_op (ins := .aload_n 0) (len := 1) (c := (42, [some (.ref x), l1, l2, l3, l4, l5, l6, l7, l8, l9, l10], (.ref x :: S), h)) (by decide +kernel) rfl rfl rfl rfl,
  fun l0 l1 l2 l3 l4 l5 l6 l7 l8 l9 l10 a r h hx => zD_getf (i := 15) (ci := 0) (k := 1) (q := (154, 0)) (by decide +kernel) (by decide +kernel) hx,
  fun l0 l1 l3 l4 l5 l6 l7 l8 l9 l10 x S h => zD_op (ins := .iload_n 2) (len := 1) (c := (46, [l0, l1, some (.int x), l3, l4, l5, l6, l7, l8, l9, l10], (.int x :: S), h)) (by decide +kernel) rfl rfl rfl rfl,
  fun l0 l1 l2 l3 l4 l5 l6 l7 l9 l10 x S h => zD_op (ins := .iload 8) (len := 2) (c := (48, [l0, l1, l2, l3, l4, l5, l6, l7, some (.int x), l9, l10], (.int x :: S), h)) (by decide +kernel) rfl rfl rfl rfl,
  fun l0 l1 l2 l3 l4 l5 l6 l7 l8 l9 l10 p0 p1 r h hcat hC => zD_calls (i := 49) (y := 0) (n := 2) (as := [.int p0, .int p1]) (by decide +kernel) (by decide +kernel) rfl (by decide +kernel) (Nat.le_of_ble_eq_true rfl) hcat hC,
  fun l0 l1 l2 l3 l4 l5 l6 l7 l8 l9 l10 i a r h hx => zD_lald (by decide +kernel) hx,
  fun l0 l1 l2 l3 l4 l5 l6 l7 l8 l9 l10 x y r h => zD_op (ins := .lmul) (len := 1) (c := (53, [l0, l1, l2, l3, l4, l5, l6, l7, l8, l9, l10], (.long (x * y) :: r), h)) (by decide +kernel) rfl rfl rfl rfl,
  fun l0 l1 l2 l3 l4 l5 l6 l7 l8 l9 l10 x r h => zD_st2 (k := 9) (ins := .lstore 9) (len := 2) (by decide +kernel) rfl rfl rfl (by decide +kernel) rfl rfl,
  fun l1 l2 l3 l4 l5 l6 l7 l8 l9 l10 x S h => zD_op (ins := .aload_n 0) (len := 1) (c := (56, [some (.ref x), l1, l2, l3, l4, l5, l6, l7, l8, l9, l10], (.ref x :: S), h)) (by decide +kernel) rfl rfl rfl rfl,
  fun l0 l1 l2 l3 l4 l5 l6 l7 l8 l9 l10 a r h hx => zD_getf (i := 15) (ci := 0) (k := 1) (q := (154, 0)) (by decide +kernel) (by decide +kernel) hx,
  fun l0 l1 l2 l3 l4 l5 l6 l8 l9 l10 x S h => zD_op (ins := .iload 7) (len := 2) (c := (61, [l0, l1, l2, l3, l4, l5, l6, some (.int x), l8, l9, l10], (.int x :: S), h)) (by decide +kernel) rfl rfl rfl rfl,
  fun l0 l1 l2 l3 l4 l5 l6 l7 l9 l10 x S h => zD_op (ins := .iload 8) (len := 2) (c := (63, [l0, l1, l2, l3, l4, l5, l6, l7, some (.int x), l9, l10], (.int x :: S), h)) (by decide +kernel) rfl rfl rfl rfl,
  fun l0 l1 l2 l3 l4 l5 l6 l7 l8 l9 l10 p0 p1 r h hcat hC => zD_calls (i := 49) (y := 0) (n := 2) (as := [.int p0, .int p1]) (by decide +kernel) (by decide +kernel) rfl (by decide +kernel) (Nat.le_of_ble_eq_true rfl) hcat hC,
  fun l1 l2 l3 l4 l5 l6 l7 l8 l9 l10 x S h => zD_op (ins := .aload_n 0) (len := 1) (c := (67, [some (.ref x), l1, l2, l3, l4, l5, l6, l7, l8, l9, l10], (.ref x :: S), h)) (by decide +kernel) rfl rfl rfl rfl,
  fun l0 l1 l2 l3 l4 l5 l6 l7 l8 l9 l10 a r h hx => zD_getf (i := 15) (ci := 0) (k := 1) (q := (154, 0)) (by decide +kernel) (by decide +kernel) hx,
  fun l0 l1 l2 l3 l4 l5 l6 l8 l9 l10 x S h => zD_op (ins := .iload 7) (len := 2) (c := (72, [l0, l1, l2, l3, l4, l5, l6, some (.int x), l8, l9, l10], (.int x :: S), h)) (by decide +kernel) rfl rfl rfl rfl,
  fun l0 l1 l2 l3 l4 l5 l6 l7 l9 l10 x S h => zD_op (ins := .iload 8) (len := 2) (c := (74, [l0, l1, l2, l3, l4, l5, l6, l7, some (.int x), l9, l10], (.int x :: S), h)) (by decide +kernel) rfl rfl rfl rfl,
  fun l0 l1 l2 l3 l4 l5 l6 l7 l8 l9 l10 p0 p1 r h hcat hC => zD_calls (i := 49) (y := 0) (n := 2) (as := [.int p0, .int p1]) (by decide +kernel) (by decide +kernel) rfl (by decide +kernel) (Nat.le_of_ble_eq_true rfl) hcat hC,
  fun l0 l1 l2 l3 l4 l5 l6 l7 l8 l9 l10 i a r h hx => zD_lald (by decide +kernel) hx,
  fun l0 l1 l2 l4 l5 l6 l7 l8 l9 l10 x S h => zD_op (ins := .lload_n 3) (len := 1) (c := (79, [l0, l1, l2, some (.long x), l4, l5, l6, l7, l8, l9, l10], (.long x :: S), h)) (by decide +kernel) rfl rfl rfl rfl,
  fun l0 l1 l2 l3 l4 l5 l6 l7 l8 l9 l10 x y r h => zD_op (ins := .lmul) (len := 1) (c := (80, [l0, l1, l2, l3, l4, l5, l6, l7, l8, l9, l10], (.long (x * y) :: r), h)) (by decide +kernel) rfl rfl rfl rfl,
  fun l0 l1 l2 l3 l4 l5 l6 l7 l8 l10 x S h => zD_op (ins := .lload 9) (len := 2) (c := (82, [l0, l1, l2, l3, l4, l5, l6, l7, l8, some (.long x), l10], (.long x :: S), h)) (by decide +kernel) rfl rfl rfl rfl,
  fun l0 l1 l2 l3 l4 l5 l6 l7 l8 l9 l10 x y r h => zD_op (ins := .lsub) (len := 1) (c := (83, [l0, l1, l2, l3, l4, l5, l6, l7, l8, l9, l10], (.long (x - y) :: r), h)) (by decide +kernel) rfl rfl rfl rfl,
  fun l0 l1 l2 l3 l4 l6 l7 l8 l9 l10 x S h => zD_op (ins := .lload 5) (len := 2) (c := (85, [l0, l1, l2, l3, l4, some (.long x), l6, l7, l8, l9, l10], (.long x :: S), h)) (by decide +kernel) rfl rfl rfl rfl,
  fun l0 l1 l2 l3 l4 l5 l6 l7 l8 l9 l10 x y r h hy => zD_ldiv (by decide +kernel) hy,
  fun l0 l1 l2 l3 l4 l5 l6 l7 l8 l9 l10 w i a r h hx => zD_last (by decide +kernel) hx,
  fun l0 l1 l2 l3 l4 l5 l6 l7 l9 l10 x S h => zD_iinc (k := 8) (x := x) (c := (1 : Int32)) (n := 1) (by decide +kernel) (by decide +kernel) rfl (by decide +kernel) rfl,
  fun l0 l1 l2 l3 l4 l5 l6 l7 l8 l9 l10 S h => zD_goto (off := (-66)) (by decide +kernel) (by decide),
  fun l0 l1 l2 l3 l4 l5 l6 l8 l9 l10 x S h => zD_iinc (k := 7) (x := x) (c := (1 : Int32)) (n := 1) (by decide +kernel) (by decide +kernel) rfl (by decide +kernel) rfl,
  fun l0 l1 l2 l3 l4 l5 l6 l7 l8 l9 l10 S h => zD_goto (off := (-83)) (by decide +kernel) (by decide),
  fun l0 l1 l2 l3 l4 l5 l6 l7 l8 l9 l10 h => zD_vret (by decide +kernel) rfl⟩
set_option maxRecDepth 100000 in
theorem E_X0_eliminate_h13 : (∀ (l0 l1 l2 l3 l4 l5 l6 l8 l9 l10 : Option Value) (x : Int32) (S : List Value) (h : zH), zD 43 13 [l0, l1, l2, l3, l4, l5, l6, some (.int x), l8, l9, l10] S h = zD 43 15 [l0, l1, l2, l3, l4, l5, l6, some (.int x), l8, l9, l10] (.int x :: S) h) :=
  fun l0 l1 l2 l3 l4 l5 l6 l8 l9 l10 x S h => zD_op (ins := .iload 7) (len := 2) (c := (15, [l0, l1, l2, l3, l4, l5, l6, some (.int x), l8, l9, l10], (.int x :: S), h)) (by decide +kernel) rfl rfl rfl rfl
set_option maxRecDepth 100000 in
theorem E_X0_eliminate_h24 : (∀ (l0 l1 l2 l3 l4 l5 l6 l7 l9 l10 : Option Value) (x : Int32) (S : List Value) (h : zH), zD 43 24 [l0, l1, l2, l3, l4, l5, l6, l7, some (.int x), l9, l10] S h = zD 43 26 [l0, l1, l2, l3, l4, l5, l6, l7, some (.int x), l9, l10] (.int x :: S) h) :=
  fun l0 l1 l2 l3 l4 l5 l6 l7 l9 l10 x S h => zD_op (ins := .iload 8) (len := 2) (c := (26, [l0, l1, l2, l3, l4, l5, l6, l7, some (.int x), l9, l10], (.int x :: S), h)) (by decide +kernel) rfl rfl rfl rfl
set_option maxRecDepth 100000 in
theorem I_X0_eliminate : (∀ (a : Nat) (p0 : Int32) (p1 : Int32) (p2 : Int64) (p3 : Int64) (h : zH), zC 43 [.ref a, .int p0, .int p1, .long p2, .long p3] h = zD 43 0 [some (.ref a), some (.int p0), some (.int p1), some (.long p2), none, some (.long p3), none, none, none, none, none] [] h) :=
  fun a p0 p1 p2 p3 h => zC_def rfl
set_option maxRecDepth 100000 in
theorem E_X1_init : (∀ (x : Nat) (S : List Value) (h : zH), zD 44 0 [some (.ref x)] S h = zD 44 1 [some (.ref x)] (.ref x :: S) h) ∧
  (∀ (l0 : Option Value) (a : Nat) (r : List Value) (h : zH) (hcat : zcat r ≤ 8), zD 44 1 [l0] (.ref a :: r) h = zD 44 4 [l0] r h) ∧
  (∀ (x : Nat) (S : List Value) (h : zH), zD 44 4 [some (.ref x)] S h = zD 44 5 [some (.ref x)] (.ref x :: S) h) ∧
  (∀ (l0 : Option Value) (S : List Value) (h : zH), zD 44 5 [l0] S h = zD 44 7 [l0] (.int (20 : Int32) :: S) h) ∧
  (∀ (l0 : Option Value) (n : Int32) (r : List Value) (h : zH) (hx : znok n = true), zD 44 7 [l0] (.int n :: r) h = zD 44 10 [l0] (.ref h.1 :: r) (znew h n.toNatClampNeg (.inl (4, n.toNatClampNeg, .inr (.inr (.inr (.inr (fun _ => none)))))))) ∧
  (∀ (l0 : Option Value) (v : Nat) (a : Nat) (r : List Value) (h : zH) (hx : zfok (h.2.2 a) 1 0 = true), zD 44 10 [l0] (.ref v :: .ref a :: r) h = zD 44 13 [l0] r (zw h a (zfs' (h.2.2 a) 0 (.ref v)))) ∧
  (∀ (l0 : Option Value) (h : zH), zD 44 13 [l0] [] h = some (none, h)) :=
  ⟨fun x S h => zD_op (ins := .aload_n 0) (len := 1) (c := (1, [some (.ref x)], (.ref x :: S), h)) (by decide +kernel) rfl rfl rfl rfl,
  fun l0 a r h hcat => zD_obj (i := 3) (q := 181) (by decide +kernel) (by decide +kernel) (by decide +kernel) (by decide +kernel) hcat,
  fun x S h => zD_op (ins := .aload_n 0) (len := 1) (c := (5, [some (.ref x)], (.ref x :: S), h)) (by decide +kernel) rfl rfl rfl rfl,
  fun l0 S h => zD_bip (n := 20) (by decide +kernel) (by decide +kernel),
  fun l0 n r h hx => zD_anew (i := 9) (ci := 3) (q := (182, 65, 42)) (by decide +kernel) (by decide +kernel) rfl hx,
  fun l0 v a r h hx => zD_putf (i := 11) (ci := 1) (k := 0) (q := (184, 0)) (by decide +kernel) (by decide +kernel) (by decide +kernel) hx rfl rfl,
  fun l0 h => zD_vret (by decide +kernel) rfl⟩
set_option maxRecDepth 100000 in
theorem I_X1_init : (∀ (a : Nat) (h : zH), zC 44 [.ref a] h = zD 44 0 [some (.ref a)] [] h) :=
  fun a h => zC_def rfl
set_option maxRecDepth 100000 in
theorem E_X1_remove : (∀ (l1 l2 : Option Value) (x : Nat) (S : List Value) (h : zH), zD 45 0 [some (.ref x), l1, l2] S h = zD 45 1 [some (.ref x), l1, l2] (.ref x :: S) h) ∧
  (∀ (l0 l2 : Option Value) (x : Int32) (S : List Value) (h : zH), zD 45 1 [l0, some (.int x), l2] S h = zD 45 2 [l0, some (.int x), l2] (.int x :: S) h) ∧
  (∀ (l0 l1 l2 : Option Value) (p0 : Int32) (a : Nat) (r : List Value) (h : zH) (hcat : zcat r ≤ 8) (hr : zis (h.2.2 a) 1 = true) (hC : (zC 1 (.ref a :: [.int p0]) h).isSome = true), zD 45 2 [l0, l1, l2] (.int p0 :: .ref a :: r) h = zD 45 5 [l0, l1, l2] (zgv (zC 1 (.ref a :: [.int p0]) h) ++ r) (zgh h (zC 1 (.ref a :: [.int p0]) h))) ∧
  (∀ (l0 l1 l2 : Option Value) (x : Nat) (r : List Value) (h : zH), zD 45 5 [l0, l1, l2] (.ref x :: r) h = zD 45 6 [l0, zclr l1, some (.ref x)] r h) ∧
  (∀ (l0 l1 l2 : Option Value) (r : List Value) (h : zH), zD 45 5 [l0, l1, l2] (.null :: r) h = zD 45 6 [l0, zclr l1, some .null] r h) ∧
  (∀ (l0 l1 : Option Value) (x : Nat) (S : List Value) (h : zH), zD 45 6 [l0, l1, some (.ref x)] S h = zD 45 7 [l0, l1, some (.ref x)] (.ref x :: S) h) ∧
  (∀ (l0 l1 : Option Value) (S : List Value) (h : zH), zD 45 6 [l0, l1, some .null] S h = zD 45 7 [l0, l1, some .null] (.null :: S) h) ∧
  (∀ (l0 l1 l2 : Option Value) (r : List Value) (h : zH), zD 45 7 [l0, l1, l2] (.null :: r) h = zD 45 17 [l0, l1, l2] r h) ∧
  (∀ (l0 l1 l2 : Option Value) (x : Nat) (r : List Value) (h : zH), zD 45 7 [l0, l1, l2] (.ref x :: r) h = zD 45 10 [l0, l1, l2] r h) ∧
  (∀ (l1 l2 : Option Value) (x : Nat) (S : List Value) (h : zH), zD 45 10 [some (.ref x), l1, l2] S h = zD 45 11 [some (.ref x), l1, l2] (.ref x :: S) h) ∧
  (∀ (l0 l1 l2 : Option Value) (a : Nat) (r : List Value) (h : zH) (hx : zfok (h.2.2 a) 1 0 = true), zD 45 11 [l0, l1, l2] (.ref a :: r) h = zD 45 14 [l0, l1, l2] (zfv (h.2.2 a) 0 :: r) h) ∧
  (∀ (l0 l2 : Option Value) (x : Int32) (S : List Value) (h : zH), zD 45 14 [l0, some (.int x), l2] S h = zD 45 15 [l0, some (.int x), l2] (.int x :: S) h) ∧
  (∀ (l0 l1 l2 : Option Value) (S : List Value) (h : zH), zD 45 15 [l0, l1, l2] S h = zD 45 16 [l0, l1, l2] (.null :: S) h) ∧
  (∀ (l0 l1 l2 : Option Value) (w : Nat) (i : Int32) (a : Nat) (r : List Value) (h : zH) (hx : zrok (h.2.2 a) i = true) (hw : zrel h (h.2.2 a) w = true), zD 45 16 [l0, l1, l2] (.ref w :: .int i :: .ref a :: r) h = zD 45 17 [l0, l1, l2] r (zw h a (zrs' (h.2.2 a) i (some w)))) ∧
  (∀ (l0 l1 l2 : Option Value) (i : Int32) (a : Nat) (r : List Value) (h : zH) (hx : zrok (h.2.2 a) i = true), zD 45 16 [l0, l1, l2] (.null :: .int i :: .ref a :: r) h = zD 45 17 [l0, l1, l2] r (zw h a (zrs' (h.2.2 a) i none))) ∧
  (∀ (l0 l1 : Option Value) (x : Nat) (S : List Value) (h : zH), zD 45 17 [l0, l1, some (.ref x)] S h = zD 45 18 [l0, l1, some (.ref x)] (.ref x :: S) h) ∧
  (∀ (l0 l1 : Option Value) (S : List Value) (h : zH), zD 45 17 [l0, l1, some .null] S h = zD 45 18 [l0, l1, some .null] (.null :: S) h) ∧
  (∀ (l0 l1 l2 : Option Value) (v : Nat) (h : zH), zD 45 18 [l0, l1, l2] [.ref v] h = some (some (.ref v), h)) ∧
  (∀ (l0 l1 l2 : Option Value) (h : zH), zD 45 18 [l0, l1, l2] [.null] h = some (some .null, h)) :=
  ⟨fun l1 l2 x S h => zD_op (ins := .aload_n 0) (len := 1) (c := (1, [some (.ref x), l1, l2], (.ref x :: S), h)) (by decide +kernel) rfl rfl rfl rfl,
  fun l0 l2 x S h => zD_op (ins := .iload_n 1) (len := 1) (c := (2, [l0, some (.int x), l2], (.int x :: S), h)) (by decide +kernel) rfl rfl rfl rfl,
  fun l0 l1 l2 p0 a r h hcat hr hC => zD_callv (i := 26) (y := 1) (n := 1) (as := [.int p0]) (ci := 1) (by decide +kernel) (by decide +kernel) rfl (by decide +kernel) (Nat.le_of_ble_eq_true rfl) (by decide +kernel) hcat hr hC,
  fun l0 l1 l2 x r h => zD_st1 (k := 2) (ins := .astore_n 2) (len := 1) (by decide +kernel) rfl rfl rfl (by decide +kernel) rfl rfl,
  fun l0 l1 l2 r h => zD_st1 (k := 2) (ins := .astore_n 2) (len := 1) (by decide +kernel) rfl rfl rfl (by decide +kernel) rfl rfl,
  fun l0 l1 x S h => zD_op (ins := .aload_n 2) (len := 1) (c := (7, [l0, l1, some (.ref x)], (.ref x :: S), h)) (by decide +kernel) rfl rfl rfl rfl,
  fun l0 l1 S h => zD_op (ins := .aload_n 2) (len := 1) (c := (7, [l0, l1, some .null], (.null :: S), h)) (by decide +kernel) rfl rfl rfl rfl,
  fun l0 l1 l2 r h => zD_nl (off := 10) (t := 17) (by decide +kernel) (by decide),
  fun l0 l1 l2 x r h => zD_nlr (off := 10) (t := 17) (by decide +kernel) (by decide),
  fun l1 l2 x S h => zD_op (ins := .aload_n 0) (len := 1) (c := (11, [some (.ref x), l1, l2], (.ref x :: S), h)) (by decide +kernel) rfl rfl rfl rfl,
  fun l0 l1 l2 a r h hx => zD_getf (i := 11) (ci := 1) (k := 0) (q := (184, 0)) (by decide +kernel) (by decide +kernel) hx,
  fun l0 l2 x S h => zD_op (ins := .iload_n 1) (len := 1) (c := (15, [l0, some (.int x), l2], (.int x :: S), h)) (by decide +kernel) rfl rfl rfl rfl,
  fun l0 l1 l2 S h => zD_op (ins := .aconst_null) (len := 1) (c := (16, [l0, l1, l2], (.null :: S), h)) (by decide +kernel) rfl rfl rfl rfl,
  fun l0 l1 l2 w i a r h hx hw => zD_aast (by decide +kernel) hx hw,
  fun l0 l1 l2 i a r h hx => zD_aastn (by decide +kernel) hx,
  fun l0 l1 x S h => zD_op (ins := .aload_n 2) (len := 1) (c := (18, [l0, l1, some (.ref x)], (.ref x :: S), h)) (by decide +kernel) rfl rfl rfl rfl,
  fun l0 l1 S h => zD_op (ins := .aload_n 2) (len := 1) (c := (18, [l0, l1, some .null], (.null :: S), h)) (by decide +kernel) rfl rfl rfl rfl,
  fun l0 l1 l2 v h => zD_aret (by decide +kernel) rfl,
  fun l0 l1 l2 h => zD_aretn (by decide +kernel) rfl⟩
set_option maxRecDepth 100000 in
theorem I_X1_remove : (∀ (a : Nat) (p0 : Int32) (h : zH), zC 45 [.ref a, .int p0] h = zD 45 0 [some (.ref a), some (.int p0), none] [] h) :=
  fun a p0 h => zC_def rfl
set_option maxRecDepth 100000 in
theorem E_X2_init : (∀ (x : Nat) (S : List Value) (h : zH), zD 46 0 [some (.ref x)] S h = zD 46 1 [some (.ref x)] (.ref x :: S) h) ∧
  (∀ (l0 : Option Value) (a : Nat) (r : List Value) (h : zH) (hcat : zcat r ≤ 8), zD 46 1 [l0] (.ref a :: r) h = zD 46 4 [l0] r h) ∧
  (∀ (x : Nat) (S : List Value) (h : zH), zD 46 4 [some (.ref x)] S h = zD 46 5 [some (.ref x)] (.ref x :: S) h) ∧
  (∀ (l0 : Option Value) (S : List Value) (h : zH), zD 46 5 [l0] S h = zD 46 7 [l0] (.int (64 : Int32) :: S) h) ∧
  (∀ (l0 : Option Value) (n : Int32) (r : List Value) (h : zH) (hx : znok n = true), zD 46 7 [l0] (.int n :: r) h = zD 46 9 [l0] (.ref h.1 :: r) (znew h n.toNatClampNeg (.inl (0, n.toNatClampNeg, .inl (fun _ => 0))))) ∧
  (∀ (l0 : Option Value) (v : Nat) (a : Nat) (r : List Value) (h : zH) (hx : zfok (h.2.2 a) 2 0 = true), zD 46 9 [l0] (.ref v :: .ref a :: r) h = zD 46 12 [l0] r (zw h a (zfs' (h.2.2 a) 0 (.ref v)))) ∧
  (∀ (x : Nat) (S : List Value) (h : zH), zD 46 12 [some (.ref x)] S h = zD 46 13 [some (.ref x)] (.ref x :: S) h) ∧
  (∀ (l0 : Option Value) (S : List Value) (h : zH), zD 46 13 [l0] S h = zD 46 15 [l0] (.int (64 : Int32) :: S) h) ∧
  (∀ (l0 : Option Value) (n : Int32) (r : List Value) (h : zH) (hx : znok n = true), zD 46 15 [l0] (.int n :: r) h = zD 46 17 [l0] (.ref h.1 :: r) (znew h n.toNatClampNeg (.inl (0, n.toNatClampNeg, .inl (fun _ => 0))))) ∧
  (∀ (l0 : Option Value) (v : Nat) (a : Nat) (r : List Value) (h : zH) (hx : zfok (h.2.2 a) 2 1 = true), zD 46 17 [l0] (.ref v :: .ref a :: r) h = zD 46 20 [l0] r (zw h a (zfs' (h.2.2 a) 1 (.ref v)))) ∧
  (∀ (l0 : Option Value) (h : zH), zD 46 20 [l0] [] h = some (none, h)) :=
  ⟨fun x S h => zD_op (ins := .aload_n 0) (len := 1) (c := (1, [some (.ref x)], (.ref x :: S), h)) (by decide +kernel) rfl rfl rfl rfl,
  fun l0 a r h hcat => zD_obj (i := 3) (q := 104) (by decide +kernel) (by decide +kernel) (by decide +kernel) (by decide +kernel) hcat,
  fun x S h => zD_op (ins := .aload_n 0) (len := 1) (c := (5, [some (.ref x)], (.ref x :: S), h)) (by decide +kernel) rfl rfl rfl rfl,
  fun l0 S h => zD_bip (n := 64) (by decide +kernel) (by decide +kernel),
  fun l0 n r h hx => zD_newi (by decide +kernel) hx,
  fun l0 v a r h hx => zD_putf (i := 9) (ci := 2) (k := 0) (q := (105, 0)) (by decide +kernel) (by decide +kernel) (by decide +kernel) hx rfl rfl,
  fun x S h => zD_op (ins := .aload_n 0) (len := 1) (c := (13, [some (.ref x)], (.ref x :: S), h)) (by decide +kernel) rfl rfl rfl rfl,
  fun l0 S h => zD_bip (n := 64) (by decide +kernel) (by decide +kernel),
  fun l0 n r h hx => zD_newi (by decide +kernel) hx,
  fun l0 v a r h hx => zD_putf (i := 15) (ci := 2) (k := 1) (q := (107, 0)) (by decide +kernel) (by decide +kernel) (by decide +kernel) hx rfl rfl,
  fun l0 h => zD_vret (by decide +kernel) rfl⟩
set_option maxRecDepth 100000 in
theorem I_X2_init : (∀ (a : Nat) (h : zH), zC 46 [.ref a] h = zD 46 0 [some (.ref a)] [] h) :=
  fun a h => zC_def rfl
set_option maxRecDepth 100000 in
theorem E_X2_restart : (∀ (x : Nat) (S : List Value) (h : zH), zD 47 0 [some (.ref x)] S h = zD 47 1 [some (.ref x)] (.ref x :: S) h) ∧
  (∀ (l0 : Option Value) (a : Nat) (r : List Value) (h : zH) (hx : zfok (h.2.2 a) 2 0 = true), zD 47 1 [l0] (.ref a :: r) h = zD 47 4 [l0] (zfv (h.2.2 a) 0 :: r) h) ∧
  (∀ (l0 : Option Value) (S : List Value) (h : zH), zD 47 4 [l0] S h = zD 47 5 [l0] (.int (0 : Int32) :: S) h) ∧
  (∀ (l0 : Option Value) (p0 : Nat) (p1 : Int32) (r : List Value) (h : zH) (hcat : zcat r ≤ 8) (hC : (zC 41 [.ref p0, .int p1] h).isSome = true), zD 47 5 [l0] (.int p1 :: .ref p0 :: r) h = zD 47 8 [l0] (zgv (zC 41 [.ref p0, .int p1] h) ++ r) (zgh h (zC 41 [.ref p0, .int p1] h))) ∧
  (∀ (x : Nat) (S : List Value) (h : zH), zD 47 8 [some (.ref x)] S h = zD 47 9 [some (.ref x)] (.ref x :: S) h) ∧
  (∀ (l0 : Option Value) (a : Nat) (r : List Value) (h : zH) (hx : zfok (h.2.2 a) 2 1 = true), zD 47 9 [l0] (.ref a :: r) h = zD 47 12 [l0] (zfv (h.2.2 a) 1 :: r) h) ∧
  (∀ (l0 : Option Value) (S : List Value) (h : zH), zD 47 12 [l0] S h = zD 47 13 [l0] (.int (0 : Int32) :: S) h) ∧
  (∀ (l0 : Option Value) (p0 : Nat) (p1 : Int32) (r : List Value) (h : zH) (hcat : zcat r ≤ 8) (hC : (zC 41 [.ref p0, .int p1] h).isSome = true), zD 47 13 [l0] (.int p1 :: .ref p0 :: r) h = zD 47 16 [l0] (zgv (zC 41 [.ref p0, .int p1] h) ++ r) (zgh h (zC 41 [.ref p0, .int p1] h))) ∧
  (∀ (l0 : Option Value) (h : zH), zD 47 16 [l0] [] h = some (none, h)) :=
  ⟨fun x S h => zD_op (ins := .aload_n 0) (len := 1) (c := (1, [some (.ref x)], (.ref x :: S), h)) (by decide +kernel) rfl rfl rfl rfl,
  fun l0 a r h hx => zD_getf (i := 9) (ci := 2) (k := 0) (q := (105, 0)) (by decide +kernel) (by decide +kernel) hx,
  fun l0 S h => zD_icst (n := 0) (by decide +kernel) (by decide +kernel),
  fun l0 p0 p1 r h hcat hC => zD_calls (i := 18) (y := 41) (n := 2) (as := [.ref p0, .int p1]) (by decide +kernel) (by decide +kernel) rfl (by decide +kernel) (Nat.le_of_ble_eq_true rfl) hcat hC,
  fun x S h => zD_op (ins := .aload_n 0) (len := 1) (c := (9, [some (.ref x)], (.ref x :: S), h)) (by decide +kernel) rfl rfl rfl rfl,
  fun l0 a r h hx => zD_getf (i := 15) (ci := 2) (k := 1) (q := (107, 0)) (by decide +kernel) (by decide +kernel) hx,
  fun l0 S h => zD_icst (n := 0) (by decide +kernel) (by decide +kernel),
  fun l0 p0 p1 r h hcat hC => zD_calls (i := 18) (y := 41) (n := 2) (as := [.ref p0, .int p1]) (by decide +kernel) (by decide +kernel) rfl (by decide +kernel) (Nat.le_of_ble_eq_true rfl) hcat hC,
  fun l0 h => zD_vret (by decide +kernel) rfl⟩
set_option maxRecDepth 100000 in
theorem I_X2_restart : (∀ (a : Nat) (h : zH), zC 47 [.ref a] h = zD 47 0 [some (.ref a)] [] h) :=
  fun a h => zC_def rfl
set_option maxRecDepth 100000 in
theorem E_X2_allow : (∀ (l1 l2 : Option Value) (x : Nat) (S : List Value) (h : zH), zD 48 0 [some (.ref x), l1, l2] S h = zD 48 1 [some (.ref x), l1, l2] (.ref x :: S) h) ∧
  (∀ (l0 l1 l2 : Option Value) (a : Nat) (r : List Value) (h : zH) (hx : zfok (h.2.2 a) 2 1 = true), zD 48 1 [l0, l1, l2] (.ref a :: r) h = zD 48 4 [l0, l1, l2] (zfv (h.2.2 a) 1 :: r) h) ∧
  (∀ (l0 l2 : Option Value) (x : Int32) (S : List Value) (h : zH), zD 48 4 [l0, some (.int x), l2] S h = zD 48 5 [l0, some (.int x), l2] (.int x :: S) h) ∧
  (∀ (l0 l1 : Option Value) (x : Int32) (S : List Value) (h : zH), zD 48 5 [l0, l1, some (.int x)] S h = zD 48 6 [l0, l1, some (.int x)] (.int x :: S) h) ∧
  (∀ (l0 l1 l2 : Option Value) (p0 : Int32) (p1 : Int32) (r : List Value) (h : zH) (hcat : zcat r ≤ 8) (hC : (zC 3 [.int p0, .int p1] h).isSome = true), zD 48 6 [l0, l1, l2] (.int p1 :: .int p0 :: r) h = zD 48 9 [l0, l1, l2] (zgv (zC 3 [.int p0, .int p1] h) ++ r) (zgh h (zC 3 [.int p0, .int p1] h))) ∧
  (∀ (l0 l1 l2 : Option Value) (i : Int32) (a : Nat) (r : List Value) (h : zH) (hx : ziok a (h.2.2 a) i = true), zD 48 9 [l0, l1, l2] (.int i :: .ref a :: r) h = zD 48 10 [l0, l1, l2] (.int (ziv (h.2.2 a) i) :: r) h) ∧
  (∀ (l0 l1 l2 : Option Value) (x : Int32) (r : List Value) (h : zH), zD 48 10 [l0, l1, l2] (.int x :: r) h = if ¬ x = 0 then zD 48 17 [l0, l1, l2] r h else zD 48 13 [l0, l1, l2] r h) ∧
  (∀ (l0 l1 l2 : Option Value) (S : List Value) (h : zH), zD 48 13 [l0, l1, l2] S h = zD 48 14 [l0, l1, l2] (.int (1 : Int32) :: S) h) ∧
  (∀ (l0 l1 l2 : Option Value) (S : List Value) (h : zH), zD 48 14 [l0, l1, l2] S h = zD 48 18 [l0, l1, l2] S h) ∧
  (∀ (l0 l1 l2 : Option Value) (S : List Value) (h : zH), zD 48 17 [l0, l1, l2] S h = zD 48 18 [l0, l1, l2] (.int (0 : Int32) :: S) h) ∧
  (∀ (l0 l1 l2 : Option Value) (v : Int32) (h : zH) (hv : zbv v), zD 48 18 [l0, l1, l2] [.int v] h = some (some (.int v), h)) :=
  ⟨fun l1 l2 x S h => zD_op (ins := .aload_n 0) (len := 1) (c := (1, [some (.ref x), l1, l2], (.ref x :: S), h)) (by decide +kernel) rfl rfl rfl rfl,
  fun l0 l1 l2 a r h hx => zD_getf (i := 15) (ci := 2) (k := 1) (q := (107, 0)) (by decide +kernel) (by decide +kernel) hx,
  fun l0 l2 x S h => zD_op (ins := .iload_n 1) (len := 1) (c := (5, [l0, some (.int x), l2], (.int x :: S), h)) (by decide +kernel) rfl rfl rfl rfl,
  fun l0 l1 x S h => zD_op (ins := .iload_n 2) (len := 1) (c := (6, [l0, l1, some (.int x)], (.int x :: S), h)) (by decide +kernel) rfl rfl rfl rfl,
  fun l0 l1 l2 p0 p1 r h hcat hC => zD_calls (i := 24) (y := 3) (n := 2) (as := [.int p0, .int p1]) (by decide +kernel) (by decide +kernel) rfl (by decide +kernel) (Nat.le_of_ble_eq_true rfl) hcat hC,
  fun l0 l1 l2 i a r h hx => zD_iald (by decide +kernel) hx,
  fun l0 l1 l2 x r h => zD_if0 (cnd := .ne) (off := 7) (by decide +kernel) (by decide) rfl,
  fun l0 l1 l2 S h => zD_icst (n := 1) (by decide +kernel) (by decide +kernel),
  fun l0 l1 l2 S h => zD_goto (off := 4) (by decide +kernel) (by decide),
  fun l0 l1 l2 S h => zD_icst (n := 0) (by decide +kernel) (by decide +kernel),
  fun l0 l1 l2 v h hv => zD_iretz (by decide +kernel) rfl hv⟩
set_option maxRecDepth 100000 in
theorem I_X2_allow : (∀ (a : Nat) (p0 : Int32) (p1 : Int32) (h : zH), zC 48 [.ref a, .int p0, .int p1] h = zD 48 0 [some (.ref a), some (.int p0), some (.int p1)] [] h) :=
  fun a p0 p1 h => zC_def rfl
