set_option maxRecDepth 100000 in
theorem E_X0_cell : (∀ (l1 : Option Value) (x : Int32) (S : List Value) (h : zH), zD 0 0 [some (.int x), l1] S h = zD 0 1 [some (.int x), l1] (.int x :: S) h) ∧
  (∀ (l0 l1 : Option Value) (S : List Value) (h : zH), zD 0 1 [l0, l1] S h = zD 0 3 [l0, l1] (.int (8 : Int32) :: S) h) ∧
  (∀ (l0 l1 : Option Value) (x y : Int32) (r : List Value) (h : zH), zD 0 3 [l0, l1] (.int y :: .int x :: r) h = zD 0 4 [l0, l1] (.int (x * y) :: r) h) ∧
  (∀ (l0 : Option Value) (x : Int32) (S : List Value) (h : zH), zD 0 4 [l0, some (.int x)] S h = zD 0 5 [l0, some (.int x)] (.int x :: S) h) ∧
  (∀ (l0 l1 : Option Value) (x y : Int32) (r : List Value) (h : zH), zD 0 5 [l0, l1] (.int y :: .int x :: r) h = zD 0 6 [l0, l1] (.int (x + y) :: r) h) ∧
  (∀ (l0 l1 : Option Value) (v : Int32) (h : zH), zD 0 6 [l0, l1] [.int v] h = some (some (.int v), h)) :=
  ⟨fun l1 x S h => zD_op (ins := .iload_n 0) (len := 1) (c := (1, [some (.int x), l1], (.int x :: S), h)) (by decide +kernel) rfl rfl rfl rfl,
  fun l0 l1 S h => zD_bip (n := 8) (by decide +kernel) (by decide +kernel),
  fun l0 l1 x y r h => zD_op (ins := .imul) (len := 1) (c := (4, [l0, l1], (.int (x * y) :: r), h)) (by decide +kernel) rfl rfl rfl rfl,
  fun l0 x S h => zD_op (ins := .iload_n 1) (len := 1) (c := (5, [l0, some (.int x)], (.int x :: S), h)) (by decide +kernel) rfl rfl rfl rfl,
  fun l0 l1 x y r h => zD_op (ins := .iadd) (len := 1) (c := (6, [l0, l1], (.int (x + y) :: r), h)) (by decide +kernel) rfl rfl rfl rfl,
  fun l0 l1 v h => zD_ireti (by decide +kernel) rfl⟩
set_option maxRecDepth 100000 in
theorem I_X0_cell : (∀ (p0 : Int32) (p1 : Int32) (h : zH), zC 0 [.int p0, .int p1] h = zD 0 0 [some (.int p0), some (.int p1)] [] h) :=
  fun p0 p1 h => zC_def rfl
set_option maxRecDepth 100000 in
theorem E_X1_find : (∀ (l0 : Option Value) (x : Int32) (S : List Value) (h : zH), zD 1 0 [l0, some (.int x)] S h = zD 1 1 [l0, some (.int x)] (.int x :: S) h) ∧
  (∀ (l0 l1 : Option Value) (x : Int32) (r : List Value) (h : zH), zD 1 1 [l0, l1] (.int x :: r) h = if x < 0 then zD 1 21 [l0, l1] r h else zD 1 4 [l0, l1] r h) ∧
  (∀ (l0 : Option Value) (x : Int32) (S : List Value) (h : zH), zD 1 4 [l0, some (.int x)] S h = zD 1 5 [l0, some (.int x)] (.int x :: S) h) ∧
  (∀ (l1 : Option Value) (x : Nat) (S : List Value) (h : zH), zD 1 5 [some (.ref x), l1] S h = zD 1 6 [some (.ref x), l1] (.ref x :: S) h) ∧
  (∀ (l0 l1 : Option Value) (a : Nat) (r : List Value) (h : zH) (hx : zfok (h.2.2 a) 1 1 = true), zD 1 6 [l0, l1] (.ref a :: r) h = zD 1 9 [l0, l1] (zfv (h.2.2 a) 1 :: r) h) ∧
  (∀ (l0 l1 : Option Value) (x y : Int32) (r : List Value) (h : zH), zD 1 9 [l0, l1] (.int y :: .int x :: r) h = if y ≤ x then zD 1 21 [l0, l1] r h else zD 1 12 [l0, l1] r h) ∧
  (∀ (l1 : Option Value) (x : Nat) (S : List Value) (h : zH), zD 1 12 [some (.ref x), l1] S h = zD 1 13 [some (.ref x), l1] (.ref x :: S) h) ∧
  (∀ (l0 l1 : Option Value) (a : Nat) (r : List Value) (h : zH) (hx : zfok (h.2.2 a) 1 0 = true), zD 1 13 [l0, l1] (.ref a :: r) h = zD 1 16 [l0, l1] (zfv (h.2.2 a) 0 :: r) h) ∧
  (∀ (l0 : Option Value) (x : Int32) (S : List Value) (h : zH), zD 1 16 [l0, some (.int x)] S h = zD 1 17 [l0, some (.int x)] (.int x :: S) h) ∧
  (∀ (l0 l1 : Option Value) (i : Int32) (a : Nat) (r : List Value) (h : zH) (hx : zrok (h.2.2 a) i = true), zD 1 17 [l0, l1] (.int i :: .ref a :: r) h = zD 1 18 [l0, l1] (zrv' (h.2.2 a) i :: r) h) ∧
  (∀ (l0 l1 : Option Value) (S : List Value) (h : zH), zD 1 18 [l0, l1] S h = zD 1 22 [l0, l1] S h) ∧
  (∀ (l0 l1 : Option Value) (S : List Value) (h : zH), zD 1 21 [l0, l1] S h = zD 1 22 [l0, l1] (.null :: S) h) ∧
  (∀ (l0 l1 : Option Value) (v : Nat) (h : zH), zD 1 22 [l0, l1] [.ref v] h = some (some (.ref v), h)) ∧
  (∀ (l0 l1 : Option Value) (h : zH), zD 1 22 [l0, l1] [.null] h = some (some .null, h)) :=
  ⟨fun l0 x S h => zD_op (ins := .iload_n 1) (len := 1) (c := (1, [l0, some (.int x)], (.int x :: S), h)) (by decide +kernel) rfl rfl rfl rfl,
  fun l0 l1 x r h => zD_if0 (cnd := .lt) (off := 20) (by decide +kernel) (by decide) rfl,
  fun l0 x S h => zD_op (ins := .iload_n 1) (len := 1) (c := (5, [l0, some (.int x)], (.int x :: S), h)) (by decide +kernel) rfl rfl rfl rfl,
  fun l1 x S h => zD_op (ins := .aload_n 0) (len := 1) (c := (6, [some (.ref x), l1], (.ref x :: S), h)) (by decide +kernel) rfl rfl rfl rfl,
  fun l0 l1 a r h hx => zD_getf (i := 17) (ci := 1) (k := 1) (q := (185, 0)) (by decide +kernel) (by decide +kernel) hx,
  fun l0 l1 x y r h => zD_if (cnd := .ge) (off := 12) (by decide +kernel) (by decide) rfl,
  fun l1 x S h => zD_op (ins := .aload_n 0) (len := 1) (c := (13, [some (.ref x), l1], (.ref x :: S), h)) (by decide +kernel) rfl rfl rfl rfl,
  fun l0 l1 a r h hx => zD_getf (i := 11) (ci := 1) (k := 0) (q := (184, 0)) (by decide +kernel) (by decide +kernel) hx,
  fun l0 x S h => zD_op (ins := .iload_n 1) (len := 1) (c := (17, [l0, some (.int x)], (.int x :: S), h)) (by decide +kernel) rfl rfl rfl rfl,
  fun l0 l1 i a r h hx => zD_aald (by decide +kernel) hx,
  fun l0 l1 S h => zD_goto (off := 4) (by decide +kernel) (by decide),
  fun l0 l1 S h => zD_op (ins := .aconst_null) (len := 1) (c := (22, [l0, l1], (.null :: S), h)) (by decide +kernel) rfl rfl rfl rfl,
  fun l0 l1 v h => zD_aret (by decide +kernel) rfl,
  fun l0 l1 h => zD_aretn (by decide +kernel) rfl⟩
set_option maxRecDepth 100000 in
theorem I_X1_find : (∀ (a : Nat) (p0 : Int32) (h : zH), zC 1 [.ref a, .int p0] h = zD 1 0 [some (.ref a), some (.int p0)] [] h) :=
  fun a p0 h => zC_def rfl
set_option maxRecDepth 100000 in
theorem E_X1_here : (∀ (l0 l1 l2 : Option Value) (S : List Value) (h : zH), zD 2 0 [l0, l1, l2] S h = zD 2 1 [l0, l1, l2] (.int (0 : Int32) :: S) h) ∧
  (∀ (l0 l1 l2 : Option Value) (x : Int32) (r : List Value) (h : zH), zD 2 1 [l0, l1, l2] (.int x :: r) h = zD 2 2 [zclr l0, some (.int x), l2] r h) ∧
  (∀ (l0 l1 l2 : Option Value) (S : List Value) (h : zH), zD 2 2 [l0, l1, l2] S h = zD 2 3 [l0, l1, l2] (.int (0 : Int32) :: S) h) ∧
  (∀ (l0 l1 l2 : Option Value) (x : Int32) (r : List Value) (h : zH), zD 2 3 [l0, l1, l2] (.int x :: r) h = zD 2 4 [l0, zclr l1, some (.int x)] r h) ∧
  (∀ (l1 l2 : Option Value) (x : Nat) (S : List Value) (h : zH), zD 2 5 [some (.ref x), l1, l2] S h = zD 2 6 [some (.ref x), l1, l2] (.ref x :: S) h) ∧
  (∀ (l0 l1 l2 : Option Value) (a : Nat) (r : List Value) (h : zH) (hx : zfok (h.2.2 a) 1 1 = true), zD 2 6 [l0, l1, l2] (.ref a :: r) h = zD 2 9 [l0, l1, l2] (zfv (h.2.2 a) 1 :: r) h) ∧
  (∀ (l0 l1 l2 : Option Value) (x y : Int32) (r : List Value) (h : zH), zD 2 9 [l0, l1, l2] (.int y :: .int x :: r) h = if y ≤ x then zD 2 30 [l0, l1, l2] r h else zD 2 12 [l0, l1, l2] r h) ∧
  (∀ (l1 l2 : Option Value) (x : Nat) (S : List Value) (h : zH), zD 2 12 [some (.ref x), l1, l2] S h = zD 2 13 [some (.ref x), l1, l2] (.ref x :: S) h) ∧
  (∀ (l0 l1 l2 : Option Value) (a : Nat) (r : List Value) (h : zH) (hx : zfok (h.2.2 a) 1 0 = true), zD 2 13 [l0, l1, l2] (.ref a :: r) h = zD 2 16 [l0, l1, l2] (zfv (h.2.2 a) 0 :: r) h) ∧
  (∀ (l0 l1 : Option Value) (x : Int32) (S : List Value) (h : zH), zD 2 16 [l0, l1, some (.int x)] S h = zD 2 17 [l0, l1, some (.int x)] (.int x :: S) h) ∧
  (∀ (l0 l1 l2 : Option Value) (i : Int32) (a : Nat) (r : List Value) (h : zH) (hx : zrok (h.2.2 a) i = true), zD 2 17 [l0, l1, l2] (.int i :: .ref a :: r) h = zD 2 18 [l0, l1, l2] (zrv' (h.2.2 a) i :: r) h) ∧
  (∀ (l0 l1 l2 : Option Value) (r : List Value) (h : zH), zD 2 18 [l0, l1, l2] (.null :: r) h = zD 2 24 [l0, l1, l2] r h) ∧
  (∀ (l0 l1 l2 : Option Value) (x : Nat) (r : List Value) (h : zH), zD 2 18 [l0, l1, l2] (.ref x :: r) h = zD 2 21 [l0, l1, l2] r h) ∧
  (∀ (l0 l2 : Option Value) (x : Int32) (S : List Value) (h : zH), zD 2 21 [l0, some (.int x), l2] S h = zD 2 24 [zclr l0, some (.int (x + (1 : Int32))), l2] S h) ∧
  (∀ (l0 l1 : Option Value) (x : Int32) (S : List Value) (h : zH), zD 2 24 [l0, l1, some (.int x)] S h = zD 2 27 [l0, zclr l1, some (.int (x + (1 : Int32)))] S h) ∧
  (∀ (l0 l1 l2 : Option Value) (S : List Value) (h : zH), zD 2 27 [l0, l1, l2] S h = zD 2 4 [l0, l1, l2] S h) ∧
  (∀ (l0 l2 : Option Value) (x : Int32) (S : List Value) (h : zH), zD 2 30 [l0, some (.int x), l2] S h = zD 2 31 [l0, some (.int x), l2] (.int x :: S) h) ∧
  (∀ (l0 l1 l2 : Option Value) (v : Int32) (h : zH), zD 2 31 [l0, l1, l2] [.int v] h = some (some (.int v), h)) :=
  ⟨fun l0 l1 l2 S h => zD_icst (n := 0) (by decide +kernel) (by decide +kernel),
  fun l0 l1 l2 x r h => zD_st1 (k := 1) (ins := .istore_n 1) (len := 1) (by decide +kernel) rfl rfl rfl (by decide +kernel) rfl rfl,
  fun l0 l1 l2 S h => zD_icst (n := 0) (by decide +kernel) (by decide +kernel),
  fun l0 l1 l2 x r h => zD_st1 (k := 2) (ins := .istore_n 2) (len := 1) (by decide +kernel) rfl rfl rfl (by decide +kernel) rfl rfl,
  fun l1 l2 x S h => zD_op (ins := .aload_n 0) (len := 1) (c := (6, [some (.ref x), l1, l2], (.ref x :: S), h)) (by decide +kernel) rfl rfl rfl rfl,
  fun l0 l1 l2 a r h hx => zD_getf (i := 17) (ci := 1) (k := 1) (q := (185, 0)) (by decide +kernel) (by decide +kernel) hx,
  fun l0 l1 l2 x y r h => zD_if (cnd := .ge) (off := 21) (by decide +kernel) (by decide) rfl,
  fun l1 l2 x S h => zD_op (ins := .aload_n 0) (len := 1) (c := (13, [some (.ref x), l1, l2], (.ref x :: S), h)) (by decide +kernel) rfl rfl rfl rfl,
  fun l0 l1 l2 a r h hx => zD_getf (i := 11) (ci := 1) (k := 0) (q := (184, 0)) (by decide +kernel) (by decide +kernel) hx,
  fun l0 l1 x S h => zD_op (ins := .iload_n 2) (len := 1) (c := (17, [l0, l1, some (.int x)], (.int x :: S), h)) (by decide +kernel) rfl rfl rfl rfl,
  fun l0 l1 l2 i a r h hx => zD_aald (by decide +kernel) hx,
  fun l0 l1 l2 r h => zD_nl (off := 6) (t := 24) (by decide +kernel) (by decide),
  fun l0 l1 l2 x r h => zD_nlr (off := 6) (t := 24) (by decide +kernel) (by decide),
  fun l0 l2 x S h => zD_iinc (k := 1) (x := x) (c := (1 : Int32)) (n := 1) (by decide +kernel) (by decide +kernel) rfl (by decide +kernel) rfl,
  fun l0 l1 x S h => zD_iinc (k := 2) (x := x) (c := (1 : Int32)) (n := 1) (by decide +kernel) (by decide +kernel) rfl (by decide +kernel) rfl,
  fun l0 l1 l2 S h => zD_goto (off := (-23)) (by decide +kernel) (by decide),
  fun l0 l2 x S h => zD_op (ins := .iload_n 1) (len := 1) (c := (31, [l0, some (.int x), l2], (.int x :: S), h)) (by decide +kernel) rfl rfl rfl rfl,
  fun l0 l1 l2 v h => zD_ireti (by decide +kernel) rfl⟩
set_option maxRecDepth 100000 in
theorem E_X1_here_h4 : (∀ (l0 l1 : Option Value) (x : Int32) (S : List Value) (h : zH), zD 2 4 [l0, l1, some (.int x)] S h = zD 2 5 [l0, l1, some (.int x)] (.int x :: S) h) :=
  fun l0 l1 x S h => zD_op (ins := .iload_n 2) (len := 1) (c := (5, [l0, l1, some (.int x)], (.int x :: S), h)) (by decide +kernel) rfl rfl rfl rfl
set_option maxRecDepth 100000 in
theorem I_X1_here : (∀ (a : Nat) (h : zH), zC 2 [.ref a] h = zD 2 0 [some (.ref a), none, none] [] h) :=
  fun a h => zC_def rfl
set_option maxRecDepth 100000 in
theorem E_X2_slot : (∀ (l0 : Option Value) (x : Int32) (S : List Value) (h : zH), zD 3 0 [l0, some (.int x)] S h = zD 3 1 [l0, some (.int x)] (.int x :: S) h) ∧
  (∀ (l0 l1 : Option Value) (S : List Value) (h : zH), zD 3 1 [l0, l1] S h = zD 3 3 [l0, l1] (.int (8 : Int32) :: S) h) ∧
  (∀ (l0 l1 : Option Value) (x y : Int32) (r : List Value) (h : zH), zD 3 3 [l0, l1] (.int y :: .int x :: r) h = zD 3 4 [l0, l1] (.int (x * y) :: r) h) ∧
  (∀ (l1 : Option Value) (x : Int32) (S : List Value) (h : zH), zD 3 4 [some (.int x), l1] S h = zD 3 5 [some (.int x), l1] (.int x :: S) h) ∧
  (∀ (l0 l1 : Option Value) (x y : Int32) (r : List Value) (h : zH), zD 3 5 [l0, l1] (.int y :: .int x :: r) h = zD 3 6 [l0, l1] (.int (x + y) :: r) h) ∧
  (∀ (l0 l1 : Option Value) (v : Int32) (h : zH), zD 3 6 [l0, l1] [.int v] h = some (some (.int v), h)) :=
  ⟨fun l0 x S h => zD_op (ins := .iload_n 1) (len := 1) (c := (1, [l0, some (.int x)], (.int x :: S), h)) (by decide +kernel) rfl rfl rfl rfl,
  fun l0 l1 S h => zD_bip (n := 8) (by decide +kernel) (by decide +kernel),
  fun l0 l1 x y r h => zD_op (ins := .imul) (len := 1) (c := (4, [l0, l1], (.int (x * y) :: r), h)) (by decide +kernel) rfl rfl rfl rfl,
  fun l1 x S h => zD_op (ins := .iload_n 0) (len := 1) (c := (5, [some (.int x), l1], (.int x :: S), h)) (by decide +kernel) rfl rfl rfl rfl,
  fun l0 l1 x y r h => zD_op (ins := .iadd) (len := 1) (c := (6, [l0, l1], (.int (x + y) :: r), h)) (by decide +kernel) rfl rfl rfl rfl,
  fun l0 l1 v h => zD_ireti (by decide +kernel) rfl⟩
set_option maxRecDepth 100000 in
theorem I_X2_slot : (∀ (p0 : Int32) (p1 : Int32) (h : zH), zC 3 [.int p0, .int p1] h = zD 3 0 [some (.int p0), some (.int p1)] [] h) :=
  fun p0 p1 h => zC_def rfl
set_option maxRecDepth 100000 in
theorem E_X2_howManyForbidden : (∀ (l0 l1 l2 l3 l4 l5 : Option Value) (S : List Value) (h : zH), zD 4 0 [l0, l1, l2, l3, l4, l5] S h = zD 4 1 [l0, l1, l2, l3, l4, l5] (.int (0 : Int32) :: S) h) ∧
  (∀ (l0 l1 l2 l3 l4 l5 : Option Value) (x : Int32) (r : List Value) (h : zH), zD 4 1 [l0, l1, l2, l3, l4, l5] (.int x :: r) h = zD 4 2 [zclr l0, some (.int x), l2, l3, l4, l5] r h) ∧
  (∀ (l1 l2 l3 l4 l5 : Option Value) (x : Nat) (S : List Value) (h : zH), zD 4 2 [some (.ref x), l1, l2, l3, l4, l5] S h = zD 4 3 [some (.ref x), l1, l2, l3, l4, l5] (.ref x :: S) h) ∧
  (∀ (l0 l1 l2 l3 l4 l5 : Option Value) (a : Nat) (r : List Value) (h : zH) (hx : zfok (h.2.2 a) 2 1 = true), zD 4 3 [l0, l1, l2, l3, l4, l5] (.ref a :: r) h = zD 4 6 [l0, l1, l2, l3, l4, l5] (zfv (h.2.2 a) 1 :: r) h) ∧
  (∀ (l0 l1 l2 l3 l4 l5 : Option Value) (x : Nat) (r : List Value) (h : zH), zD 4 6 [l0, l1, l2, l3, l4, l5] (.ref x :: r) h = zD 4 7 [l0, zclr l1, some (.ref x), l3, l4, l5] r h) ∧
  (∀ (l0 l1 l2 l3 l4 l5 : Option Value) (r : List Value) (h : zH), zD 4 6 [l0, l1, l2, l3, l4, l5] (.null :: r) h = zD 4 7 [l0, zclr l1, some .null, l3, l4, l5] r h) ∧
  (∀ (l0 l1 l3 l4 l5 : Option Value) (x : Nat) (S : List Value) (h : zH), zD 4 7 [l0, l1, some (.ref x), l3, l4, l5] S h = zD 4 8 [l0, l1, some (.ref x), l3, l4, l5] (.ref x :: S) h) ∧
  (∀ (l0 l1 l3 l4 l5 : Option Value) (S : List Value) (h : zH), zD 4 7 [l0, l1, some .null, l3, l4, l5] S h = zD 4 8 [l0, l1, some .null, l3, l4, l5] (.null :: S) h) ∧
  (∀ (l0 l1 l2 l3 l4 l5 : Option Value) (a : Nat) (r : List Value) (h : zH) (hx : zaok a (h.2.2 a) = true), zD 4 8 [l0, l1, l2, l3, l4, l5] (.ref a :: r) h = zD 4 9 [l0, l1, l2, l3, l4, l5] (.int (Int32.ofNat (zan (h.2.2 a))) :: r) h) ∧
  (∀ (l0 l1 l2 l3 l4 l5 : Option Value) (x : Int32) (r : List Value) (h : zH), zD 4 9 [l0, l1, l2, l3, l4, l5] (.int x :: r) h = zD 4 10 [l0, l1, zclr l2, some (.int x), l4, l5] r h) ∧
  (∀ (l0 l1 l2 l3 l4 l5 : Option Value) (S : List Value) (h : zH), zD 4 10 [l0, l1, l2, l3, l4, l5] S h = zD 4 11 [l0, l1, l2, l3, l4, l5] (.int (0 : Int32) :: S) h) ∧
  (∀ (l0 l1 l2 l3 l4 l5 : Option Value) (x : Int32) (r : List Value) (h : zH), zD 4 11 [l0, l1, l2, l3, l4, l5] (.int x :: r) h = zD 4 13 [l0, l1, l2, zclr l3, some (.int x), l5] r h) ∧
  (∀ (l0 l1 l2 l4 l5 : Option Value) (x : Int32) (S : List Value) (h : zH), zD 4 15 [l0, l1, l2, some (.int x), l4, l5] S h = zD 4 16 [l0, l1, l2, some (.int x), l4, l5] (.int x :: S) h) ∧
  (∀ (l0 l1 l2 l3 l4 l5 : Option Value) (x y : Int32) (r : List Value) (h : zH), zD 4 16 [l0, l1, l2, l3, l4, l5] (.int y :: .int x :: r) h = if y ≤ x then zD 4 36 [l0, l1, l2, l3, l4, l5] r h else zD 4 19 [l0, l1, l2, l3, l4, l5] r h) ∧
  (∀ (l0 l1 l3 l4 l5 : Option Value) (x : Nat) (S : List Value) (h : zH), zD 4 19 [l0, l1, some (.ref x), l3, l4, l5] S h = zD 4 20 [l0, l1, some (.ref x), l3, l4, l5] (.ref x :: S) h) ∧
  (∀ (l0 l1 l3 l4 l5 : Option Value) (S : List Value) (h : zH), zD 4 19 [l0, l1, some .null, l3, l4, l5] S h = zD 4 20 [l0, l1, some .null, l3, l4, l5] (.null :: S) h) ∧
  (∀ (l0 l1 l2 l3 l5 : Option Value) (x : Int32) (S : List Value) (h : zH), zD 4 20 [l0, l1, l2, l3, some (.int x), l5] S h = zD 4 22 [l0, l1, l2, l3, some (.int x), l5] (.int x :: S) h) ∧
  (∀ (l0 l1 l2 l3 l4 l5 : Option Value) (i : Int32) (a : Nat) (r : List Value) (h : zH) (hx : ziok a (h.2.2 a) i = true), zD 4 22 [l0, l1, l2, l3, l4, l5] (.int i :: .ref a :: r) h = zD 4 23 [l0, l1, l2, l3, l4, l5] (.int (ziv (h.2.2 a) i) :: r) h) ∧
  (∀ (l0 l1 l2 l3 l4 l5 : Option Value) (x : Int32) (r : List Value) (h : zH), zD 4 23 [l0, l1, l2, l3, l4, l5] (.int x :: r) h = zD 4 25 [l0, l1, l2, l3, zclr l4, some (.int x)] r h) ∧
  (∀ (l0 l2 l3 l4 l5 : Option Value) (x : Int32) (S : List Value) (h : zH), zD 4 25 [l0, some (.int x), l2, l3, l4, l5] S h = zD 4 26 [l0, some (.int x), l2, l3, l4, l5] (.int x :: S) h) ∧
  (∀ (l0 l1 l2 l3 l4 : Option Value) (x : Int32) (S : List Value) (h : zH), zD 4 26 [l0, l1, l2, l3, l4, some (.int x)] S h = zD 4 28 [l0, l1, l2, l3, l4, some (.int x)] (.int x :: S) h) ∧
  (∀ (l0 l1 l2 l3 l4 l5 : Option Value) (x y : Int32) (r : List Value) (h : zH), zD 4 28 [l0, l1, l2, l3, l4, l5] (.int y :: .int x :: r) h = zD 4 29 [l0, l1, l2, l3, l4, l5] (.int (x + y) :: r) h) ∧
  (∀ (l0 l1 l2 l3 l4 l5 : Option Value) (x : Int32) (r : List Value) (h : zH), zD 4 29 [l0, l1, l2, l3, l4, l5] (.int x :: r) h = zD 4 30 [zclr l0, some (.int x), l2, l3, l4, l5] r h) ∧
  (∀ (l0 l1 l2 l3 l5 : Option Value) (x : Int32) (S : List Value) (h : zH), zD 4 30 [l0, l1, l2, l3, some (.int x), l5] S h = zD 4 33 [l0, l1, l2, zclr l3, some (.int (x + (1 : Int32))), l5] S h) ∧
  (∀ (l0 l1 l2 l3 l4 l5 : Option Value) (S : List Value) (h : zH), zD 4 33 [l0, l1, l2, l3, l4, l5] S h = zD 4 13 [l0, l1, l2, l3, l4, l5] S h) ∧
  (∀ (l0 l2 l3 l4 l5 : Option Value) (x : Int32) (S : List Value) (h : zH), zD 4 36 [l0, some (.int x), l2, l3, l4, l5] S h = zD 4 37 [l0, some (.int x), l2, l3, l4, l5] (.int x :: S) h) ∧
  (∀ (l0 l1 l2 l3 l4 l5 : Option Value) (v : Int32) (h : zH), zD 4 37 [l0, l1, l2, l3, l4, l5] [.int v] h = some (some (.int v), h)) :=
  ⟨fun l0 l1 l2 l3 l4 l5 S h => zD_icst (n := 0) (by decide +kernel) (by decide +kernel),
  fun l0 l1 l2 l3 l4 l5 x r h => zD_st1 (k := 1) (ins := .istore_n 1) (len := 1) (by decide +kernel) rfl rfl rfl (by decide +kernel) rfl rfl,
  fun l1 l2 l3 l4 l5 x S h => zD_op (ins := .aload_n 0) (len := 1) (c := (3, [some (.ref x), l1, l2, l3, l4, l5], (.ref x :: S), h)) (by decide +kernel) rfl rfl rfl rfl,
  fun l0 l1 l2 l3 l4 l5 a r h hx => zD_getf (i := 15) (ci := 2) (k := 1) (q := (107, 0)) (by decide +kernel) (by decide +kernel) hx,
  fun l0 l1 l2 l3 l4 l5 x r h => zD_st1 (k := 2) (ins := .astore_n 2) (len := 1) (by decide +kernel) rfl rfl rfl (by decide +kernel) rfl rfl,
  fun l0 l1 l2 l3 l4 l5 r h => zD_st1 (k := 2) (ins := .astore_n 2) (len := 1) (by decide +kernel) rfl rfl rfl (by decide +kernel) rfl rfl,
  fun l0 l1 l3 l4 l5 x S h => zD_op (ins := .aload_n 2) (len := 1) (c := (8, [l0, l1, some (.ref x), l3, l4, l5], (.ref x :: S), h)) (by decide +kernel) rfl rfl rfl rfl,
  fun l0 l1 l3 l4 l5 S h => zD_op (ins := .aload_n 2) (len := 1) (c := (8, [l0, l1, some .null, l3, l4, l5], (.null :: S), h)) (by decide +kernel) rfl rfl rfl rfl,
  fun l0 l1 l2 l3 l4 l5 a r h hx => zD_alen (by decide +kernel) hx,
  fun l0 l1 l2 l3 l4 l5 x r h => zD_st1 (k := 3) (ins := .istore_n 3) (len := 1) (by decide +kernel) rfl rfl rfl (by decide +kernel) rfl rfl,
  fun l0 l1 l2 l3 l4 l5 S h => zD_icst (n := 0) (by decide +kernel) (by decide +kernel),
  fun l0 l1 l2 l3 l4 l5 x r h => zD_st1 (k := 4) (ins := .istore 4) (len := 2) (by decide +kernel) rfl rfl rfl (by decide +kernel) rfl rfl,
  fun l0 l1 l2 l4 l5 x S h => zD_op (ins := .iload_n 3) (len := 1) (c := (16, [l0, l1, l2, some (.int x), l4, l5], (.int x :: S), h)) (by decide +kernel) rfl rfl rfl rfl,
  fun l0 l1 l2 l3 l4 l5 x y r h => zD_if (cnd := .ge) (off := 20) (by decide +kernel) (by decide) rfl,
  fun l0 l1 l3 l4 l5 x S h => zD_op (ins := .aload_n 2) (len := 1) (c := (20, [l0, l1, some (.ref x), l3, l4, l5], (.ref x :: S), h)) (by decide +kernel) rfl rfl rfl rfl,
  fun l0 l1 l3 l4 l5 S h => zD_op (ins := .aload_n 2) (len := 1) (c := (20, [l0, l1, some .null, l3, l4, l5], (.null :: S), h)) (by decide +kernel) rfl rfl rfl rfl,
  fun l0 l1 l2 l3 l5 x S h => zD_op (ins := .iload 4) (len := 2) (c := (22, [l0, l1, l2, l3, some (.int x), l5], (.int x :: S), h)) (by decide +kernel) rfl rfl rfl rfl,
  fun l0 l1 l2 l3 l4 l5 i a r h hx => zD_iald (by decide +kernel) hx,
  fun l0 l1 l2 l3 l4 l5 x r h => zD_st1 (k := 5) (ins := .istore 5) (len := 2) (by decide +kernel) rfl rfl rfl (by decide +kernel) rfl rfl,
  fun l0 l2 l3 l4 l5 x S h => zD_op (ins := .iload_n 1) (len := 1) (c := (26, [l0, some (.int x), l2, l3, l4, l5], (.int x :: S), h)) (by decide +kernel) rfl rfl rfl rfl,
  fun l0 l1 l2 l3 l4 x S h => zD_op (ins := .iload 5) (len := 2) (c := (28, [l0, l1, l2, l3, l4, some (.int x)], (.int x :: S), h)) (by decide +kernel) rfl rfl rfl rfl,
  fun l0 l1 l2 l3 l4 l5 x y r h => zD_op (ins := .iadd) (len := 1) (c := (29, [l0, l1, l2, l3, l4, l5], (.int (x + y) :: r), h)) (by decide +kernel) rfl rfl rfl rfl,
  fun l0 l1 l2 l3 l4 l5 x r h => zD_st1 (k := 1) (ins := .istore_n 1) (len := 1) (by decide +kernel) rfl rfl rfl (by decide +kernel) rfl rfl,
  fun l0 l1 l2 l3 l5 x S h => zD_iinc (k := 4) (x := x) (c := (1 : Int32)) (n := 1) (by decide +kernel) (by decide +kernel) rfl (by decide +kernel) rfl,
  fun l0 l1 l2 l3 l4 l5 S h => zD_goto (off := (-20)) (by decide +kernel) (by decide),
  fun l0 l2 l3 l4 l5 x S h => zD_op (ins := .iload_n 1) (len := 1) (c := (37, [l0, some (.int x), l2, l3, l4, l5], (.int x :: S), h)) (by decide +kernel) rfl rfl rfl rfl,
  fun l0 l1 l2 l3 l4 l5 v h => zD_ireti (by decide +kernel) rfl⟩
set_option maxRecDepth 100000 in
theorem E_X2_howManyForbidden_h13 : (∀ (l0 l1 l2 l3 l5 : Option Value) (x : Int32) (S : List Value) (h : zH), zD 4 13 [l0, l1, l2, l3, some (.int x), l5] S h = zD 4 15 [l0, l1, l2, l3, some (.int x), l5] (.int x :: S) h) :=
  fun l0 l1 l2 l3 l5 x S h => zD_op (ins := .iload 4) (len := 2) (c := (15, [l0, l1, l2, l3, some (.int x), l5], (.int x :: S), h)) (by decide +kernel) rfl rfl rfl rfl
set_option maxRecDepth 100000 in
theorem I_X2_howManyForbidden : (∀ (a : Nat) (h : zH), zC 4 [.ref a] h = zD 4 0 [some (.ref a), none, none, none, none, none] [] h) :=
  fun a h => zC_def rfl
set_option maxRecDepth 100000 in
theorem E_X3_hasWord : (∀ (l0 : Option Value) (x : Int32) (S : List Value) (h : zH), zD 5 0 [l0, some (.int x)] S h = zD 5 1 [l0, some (.int x)] (.int x :: S) h) ∧
  (∀ (l0 l1 : Option Value) (S : List Value) (h : zH), zD 5 1 [l0, l1] S h = zD 5 2 [l0, l1] (.int (1 : Int32) :: S) h) ∧
  (∀ (l0 l1 : Option Value) (x y : Int32) (r : List Value) (h : zH), zD 5 2 [l0, l1] (.int y :: .int x :: r) h = if x < y then zD 5 17 [l0, l1] r h else zD 5 5 [l0, l1] r h) ∧
  (∀ (l0 : Option Value) (x : Int32) (S : List Value) (h : zH), zD 5 5 [l0, some (.int x)] S h = zD 5 6 [l0, some (.int x)] (.int x :: S) h) ∧
  (∀ (l1 : Option Value) (x : Nat) (S : List Value) (h : zH), zD 5 6 [some (.ref x), l1] S h = zD 5 7 [some (.ref x), l1] (.ref x :: S) h) ∧
  (∀ (l0 l1 : Option Value) (a : Nat) (r : List Value) (h : zH) (hx : zfok (h.2.2 a) 3 2 = true), zD 5 7 [l0, l1] (.ref a :: r) h = zD 5 10 [l0, l1] (zfv (h.2.2 a) 2 :: r) h) ∧
  (∀ (l0 l1 : Option Value) (x y : Int32) (r : List Value) (h : zH), zD 5 10 [l0, l1] (.int y :: .int x :: r) h = if y < x then zD 5 17 [l0, l1] r h else zD 5 13 [l0, l1] r h) ∧
  (∀ (l0 l1 : Option Value) (S : List Value) (h : zH), zD 5 13 [l0, l1] S h = zD 5 14 [l0, l1] (.int (1 : Int32) :: S) h) ∧
  (∀ (l0 l1 : Option Value) (S : List Value) (h : zH), zD 5 14 [l0, l1] S h = zD 5 18 [l0, l1] S h) ∧
  (∀ (l0 l1 : Option Value) (S : List Value) (h : zH), zD 5 17 [l0, l1] S h = zD 5 18 [l0, l1] (.int (0 : Int32) :: S) h) ∧
  (∀ (l0 l1 : Option Value) (v : Int32) (h : zH) (hv : zbv v), zD 5 18 [l0, l1] [.int v] h = some (some (.int v), h)) :=
  ⟨fun l0 x S h => zD_op (ins := .iload_n 1) (len := 1) (c := (1, [l0, some (.int x)], (.int x :: S), h)) (by decide +kernel) rfl rfl rfl rfl,
  fun l0 l1 S h => zD_icst (n := 1) (by decide +kernel) (by decide +kernel),
  fun l0 l1 x y r h => zD_if (cnd := .lt) (off := 15) (by decide +kernel) (by decide) rfl,
  fun l0 x S h => zD_op (ins := .iload_n 1) (len := 1) (c := (6, [l0, some (.int x)], (.int x :: S), h)) (by decide +kernel) rfl rfl rfl rfl,
  fun l1 x S h => zD_op (ins := .aload_n 0) (len := 1) (c := (7, [some (.ref x), l1], (.ref x :: S), h)) (by decide +kernel) rfl rfl rfl rfl,
  fun l0 l1 a r h hx => zD_getf (i := 28) (ci := 3) (k := 2) (q := (86, 0)) (by decide +kernel) (by decide +kernel) hx,
  fun l0 l1 x y r h => zD_if (cnd := .gt) (off := 7) (by decide +kernel) (by decide) rfl,
  fun l0 l1 S h => zD_icst (n := 1) (by decide +kernel) (by decide +kernel),
  fun l0 l1 S h => zD_goto (off := 4) (by decide +kernel) (by decide),
  fun l0 l1 S h => zD_icst (n := 0) (by decide +kernel) (by decide +kernel),
  fun l0 l1 v h hv => zD_iretz (by decide +kernel) rfl hv⟩
set_option maxRecDepth 100000 in
theorem I_X3_hasWord : (∀ (a : Nat) (p0 : Int32) (h : zH), zC 5 [.ref a, .int p0] h = zD 5 0 [some (.ref a), some (.int p0)] [] h) :=
  fun a p0 h => zC_def rfl
set_option maxRecDepth 100000 in
theorem E_X3_hasPlace : (∀ (l0 : Option Value) (x : Int32) (S : List Value) (h : zH), zD 6 0 [l0, some (.int x)] S h = zD 6 1 [l0, some (.int x)] (.int x :: S) h) ∧
  (∀ (l0 l1 : Option Value) (x : Int32) (r : List Value) (h : zH), zD 6 1 [l0, l1] (.int x :: r) h = if x < 0 then zD 6 16 [l0, l1] r h else zD 6 4 [l0, l1] r h) ∧
  (∀ (l0 : Option Value) (x : Int32) (S : List Value) (h : zH), zD 6 4 [l0, some (.int x)] S h = zD 6 5 [l0, some (.int x)] (.int x :: S) h) ∧
  (∀ (l1 : Option Value) (x : Nat) (S : List Value) (h : zH), zD 6 5 [some (.ref x), l1] S h = zD 6 6 [some (.ref x), l1] (.ref x :: S) h) ∧
  (∀ (l0 l1 : Option Value) (a : Nat) (r : List Value) (h : zH) (hx : zfok (h.2.2 a) 3 2 = true), zD 6 6 [l0, l1] (.ref a :: r) h = zD 6 9 [l0, l1] (zfv (h.2.2 a) 2 :: r) h) ∧
  (∀ (l0 l1 : Option Value) (x y : Int32) (r : List Value) (h : zH), zD 6 9 [l0, l1] (.int y :: .int x :: r) h = if y < x then zD 6 16 [l0, l1] r h else zD 6 12 [l0, l1] r h) ∧
  (∀ (l0 l1 : Option Value) (S : List Value) (h : zH), zD 6 12 [l0, l1] S h = zD 6 13 [l0, l1] (.int (1 : Int32) :: S) h) ∧
  (∀ (l0 l1 : Option Value) (S : List Value) (h : zH), zD 6 13 [l0, l1] S h = zD 6 17 [l0, l1] S h) ∧
  (∀ (l0 l1 : Option Value) (S : List Value) (h : zH), zD 6 16 [l0, l1] S h = zD 6 17 [l0, l1] (.int (0 : Int32) :: S) h) ∧
  (∀ (l0 l1 : Option Value) (v : Int32) (h : zH) (hv : zbv v), zD 6 17 [l0, l1] [.int v] h = some (some (.int v), h)) :=
  ⟨fun l0 x S h => zD_op (ins := .iload_n 1) (len := 1) (c := (1, [l0, some (.int x)], (.int x :: S), h)) (by decide +kernel) rfl rfl rfl rfl,
  fun l0 l1 x r h => zD_if0 (cnd := .lt) (off := 15) (by decide +kernel) (by decide) rfl,
  fun l0 x S h => zD_op (ins := .iload_n 1) (len := 1) (c := (5, [l0, some (.int x)], (.int x :: S), h)) (by decide +kernel) rfl rfl rfl rfl,
  fun l1 x S h => zD_op (ins := .aload_n 0) (len := 1) (c := (6, [some (.ref x), l1], (.ref x :: S), h)) (by decide +kernel) rfl rfl rfl rfl,
  fun l0 l1 a r h hx => zD_getf (i := 28) (ci := 3) (k := 2) (q := (86, 0)) (by decide +kernel) (by decide +kernel) hx,
  fun l0 l1 x y r h => zD_if (cnd := .gt) (off := 7) (by decide +kernel) (by decide) rfl,
  fun l0 l1 S h => zD_icst (n := 1) (by decide +kernel) (by decide +kernel),
  fun l0 l1 S h => zD_goto (off := 4) (by decide +kernel) (by decide),
  fun l0 l1 S h => zD_icst (n := 0) (by decide +kernel) (by decide +kernel),
  fun l0 l1 v h hv => zD_iretz (by decide +kernel) rfl hv⟩
set_option maxRecDepth 100000 in
theorem I_X3_hasPlace : (∀ (a : Nat) (p0 : Int32) (h : zH), zC 6 [.ref a, .int p0] h = zD 6 0 [some (.ref a), some (.int p0)] [] h) :=
  fun a p0 h => zC_def rfl
set_option maxRecDepth 100000 in
theorem E_X3_sideOf : (∀ (l1 : Option Value) (x : Int32) (S : List Value) (h : zH), zD 7 0 [some (.int x), l1] S h = zD 7 1 [some (.int x), l1] (.int x :: S) h) ∧
  (∀ (l0 : Option Value) (x : Int32) (S : List Value) (h : zH), zD 7 1 [l0, some (.int x)] S h = zD 7 2 [l0, some (.int x)] (.int x :: S) h) ∧
  (∀ (l0 l1 : Option Value) (x y : Int32) (r : List Value) (h : zH), zD 7 2 [l0, l1] (.int y :: .int x :: r) h = if y ≤ x then zD 7 9 [l0, l1] r h else zD 7 5 [l0, l1] r h) ∧
  (∀ (l0 l1 : Option Value) (S : List Value) (h : zH), zD 7 5 [l0, l1] S h = zD 7 6 [l0, l1] (.int (0 : Int32) :: S) h) ∧
  (∀ (l0 l1 : Option Value) (S : List Value) (h : zH), zD 7 6 [l0, l1] S h = zD 7 10 [l0, l1] S h) ∧
  (∀ (l0 l1 : Option Value) (S : List Value) (h : zH), zD 7 9 [l0, l1] S h = zD 7 10 [l0, l1] (.int (1 : Int32) :: S) h) ∧
  (∀ (l0 l1 : Option Value) (v : Int32) (h : zH), zD 7 10 [l0, l1] [.int v] h = some (some (.int v), h)) :=
  ⟨fun l1 x S h => zD_op (ins := .iload_n 0) (len := 1) (c := (1, [some (.int x), l1], (.int x :: S), h)) (by decide +kernel) rfl rfl rfl rfl,
  fun l0 x S h => zD_op (ins := .iload_n 1) (len := 1) (c := (2, [l0, some (.int x)], (.int x :: S), h)) (by decide +kernel) rfl rfl rfl rfl,
  fun l0 l1 x y r h => zD_if (cnd := .ge) (off := 7) (by decide +kernel) (by decide) rfl,
  fun l0 l1 S h => zD_icst (n := 0) (by decide +kernel) (by decide +kernel),
  fun l0 l1 S h => zD_goto (off := 4) (by decide +kernel) (by decide),
  fun l0 l1 S h => zD_icst (n := 1) (by decide +kernel) (by decide +kernel),
  fun l0 l1 v h => zD_ireti (by decide +kernel) rfl⟩
set_option maxRecDepth 100000 in
theorem I_X3_sideOf : (∀ (p0 : Int32) (p1 : Int32) (h : zH), zC 7 [.int p0, .int p1] h = zD 7 0 [some (.int p0), some (.int p1)] [] h) :=
  fun p0 p1 h => zC_def rfl
set_option maxRecDepth 100000 in
theorem E_X3_placesAbove : (∀ (l0 l1 l2 l3 l4 : Option Value) (S : List Value) (h : zH), zD 8 0 [l0, l1, l2, l3, l4] S h = zD 8 1 [l0, l1, l2, l3, l4] (.int (0 : Int32) :: S) h) ∧
  (∀ (l0 l1 l2 l3 l4 : Option Value) (x : Int32) (r : List Value) (h : zH), zD 8 1 [l0, l1, l2, l3, l4] (.int x :: r) h = zD 8 2 [l0, zclr l1, some (.int x), l3, l4] r h) ∧
  (∀ (l0 l2 l3 l4 : Option Value) (x : Int32) (S : List Value) (h : zH), zD 8 2 [l0, some (.int x), l2, l3, l4] S h = zD 8 3 [l0, some (.int x), l2, l3, l4] (.int x :: S) h) ∧
  (∀ (l0 l1 l2 l3 l4 : Option Value) (x : Int32) (r : List Value) (h : zH), zD 8 3 [l0, l1, l2, l3, l4] (.int x :: r) h = zD 8 4 [l0, l1, zclr l2, some (.int x), l4] r h) ∧
  (∀ (l0 l1 l2 l3 l4 : Option Value) (S : List Value) (h : zH), zD 8 4 [l0, l1, l2, l3, l4] S h = zD 8 5 [l0, l1, l2, l3, l4] (.int (0 : Int32) :: S) h) ∧
  (∀ (l0 l1 l2 l3 l4 : Option Value) (x : Int32) (r : List Value) (h : zH), zD 8 5 [l0, l1, l2, l3, l4] (.int x :: r) h = zD 8 7 [l0, l1, l2, zclr l3, some (.int x)] r h) ∧
  (∀ (l1 l2 l3 l4 : Option Value) (x : Nat) (S : List Value) (h : zH), zD 8 9 [some (.ref x), l1, l2, l3, l4] S h = zD 8 10 [some (.ref x), l1, l2, l3, l4] (.ref x :: S) h) ∧
  (∀ (l0 l1 l2 l3 l4 : Option Value) (a : Nat) (r : List Value) (h : zH) (hx : zfok (h.2.2 a) 3 2 = true), zD 8 10 [l0, l1, l2, l3, l4] (.ref a :: r) h = zD 8 13 [l0, l1, l2, l3, l4] (zfv (h.2.2 a) 2 :: r) h) ∧
  (∀ (l0 l1 l2 l3 l4 : Option Value) (x y : Int32) (r : List Value) (h : zH), zD 8 13 [l0, l1, l2, l3, l4] (.int y :: .int x :: r) h = if y ≤ x then zD 8 42 [l0, l1, l2, l3, l4] r h else zD 8 16 [l0, l1, l2, l3, l4] r h) ∧
  (∀ (l1 l2 l3 l4 : Option Value) (x : Nat) (S : List Value) (h : zH), zD 8 16 [some (.ref x), l1, l2, l3, l4] S h = zD 8 17 [some (.ref x), l1, l2, l3, l4] (.ref x :: S) h) ∧
  (∀ (l0 l1 l2 l3 l4 : Option Value) (a : Nat) (r : List Value) (h : zH) (hx : zfok (h.2.2 a) 3 1 = true), zD 8 17 [l0, l1, l2, l3, l4] (.ref a :: r) h = zD 8 20 [l0, l1, l2, l3, l4] (zfv (h.2.2 a) 1 :: r) h) ∧
  (∀ (l0 l1 l2 l4 : Option Value) (x : Int32) (S : List Value) (h : zH), zD 8 20 [l0, l1, l2, some (.int x), l4] S h = zD 8 21 [l0, l1, l2, some (.int x), l4] (.int x :: S) h) ∧
  (∀ (l0 l1 l2 l3 l4 : Option Value) (i : Int32) (a : Nat) (r : List Value) (h : zH) (hx : ziok a (h.2.2 a) i = true), zD 8 21 [l0, l1, l2, l3, l4] (.int i :: .ref a :: r) h = zD 8 22 [l0, l1, l2, l3, l4] (.int (ziv (h.2.2 a) i) :: r) h) ∧
  (∀ (l0 l1 l2 l3 l4 : Option Value) (x : Int32) (r : List Value) (h : zH), zD 8 22 [l0, l1, l2, l3, l4] (.int x :: r) h = zD 8 23 [l0, l1, zclr l2, some (.int x), l4] r h) ∧
  (∀ (l0 l1 l3 l4 : Option Value) (x : Int32) (S : List Value) (h : zH), zD 8 23 [l0, l1, some (.int x), l3, l4] S h = zD 8 24 [l0, l1, some (.int x), l3, l4] (.int x :: S) h) ∧
  (∀ (l0 l1 l2 l3 l4 : Option Value) (S : List Value) (h : zH), zD 8 24 [l0, l1, l2, l3, l4] S h = zD 8 25 [l0, l1, l2, l3, l4] (.int (1 : Int32) :: S) h) ∧
  (∀ (l0 l1 l2 l4 : Option Value) (x : Int32) (S : List Value) (h : zH), zD 8 25 [l0, l1, l2, some (.int x), l4] S h = zD 8 26 [l0, l1, l2, some (.int x), l4] (.int x :: S) h) ∧
  (∀ (l0 l1 l2 l3 l4 : Option Value) (x y : Int32) (r : List Value) (h : zH), zD 8 26 [l0, l1, l2, l3, l4] (.int y :: .int x :: r) h = zD 8 27 [l0, l1, l2, l3, l4] (.int (x <<< (y &&& 31)) :: r) h) ∧
  (∀ (l0 l1 l2 l3 l4 : Option Value) (x y : Int32) (r : List Value) (h : zH), zD 8 27 [l0, l1, l2, l3, l4] (.int y :: .int x :: r) h = zD 8 28 [l0, l1, l2, l3, l4] (.int (x ||| y) :: r) h) ∧
  (∀ (l0 l1 l2 l3 l4 : Option Value) (x : Int32) (r : List Value) (h : zH), zD 8 28 [l0, l1, l2, l3, l4] (.int x :: r) h = zD 8 29 [l0, zclr l1, some (.int x), l3, l4] r h) ∧
  (∀ (l0 l1 l2 l4 : Option Value) (x : Int32) (S : List Value) (h : zH), zD 8 29 [l0, l1, l2, some (.int x), l4] S h = zD 8 30 [l0, l1, l2, some (.int x), l4] (.int x :: S) h) ∧
  (∀ (l0 l1 l2 l3 l4 : Option Value) (x : Int32) (r : List Value) (h : zH), zD 8 30 [l0, l1, l2, l3, l4] (.int x :: r) h = if ¬ x = 0 then zD 8 36 [l0, l1, l2, l3, l4] r h else zD 8 33 [l0, l1, l2, l3, l4] r h) ∧
  (∀ (l0 l1 l2 l3 l4 : Option Value) (S : List Value) (h : zH), zD 8 33 [l0, l1, l2, l3, l4] S h = zD 8 42 [l0, l1, l2, l3, l4] S h) ∧
  (∀ (l0 l1 l2 l3 : Option Value) (x : Int32) (S : List Value) (h : zH), zD 8 36 [l0, l1, l2, l3, some (.int x)] S h = zD 8 39 [l0, l1, l2, zclr l3, some (.int (x + (1 : Int32)))] S h) ∧
  (∀ (l0 l1 l2 l3 l4 : Option Value) (S : List Value) (h : zH), zD 8 39 [l0, l1, l2, l3, l4] S h = zD 8 7 [l0, l1, l2, l3, l4] S h) ∧
  (∀ (l0 l1 l3 l4 : Option Value) (x : Int32) (S : List Value) (h : zH), zD 8 42 [l0, l1, some (.int x), l3, l4] S h = zD 8 43 [l0, l1, some (.int x), l3, l4] (.int x :: S) h) ∧
  (∀ (l0 l1 l2 l3 l4 : Option Value) (v : Int32) (h : zH), zD 8 43 [l0, l1, l2, l3, l4] [.int v] h = some (some (.int v), h)) :=
  ⟨fun l0 l1 l2 l3 l4 S h => zD_icst (n := 0) (by decide +kernel) (by decide +kernel),
  fun l0 l1 l2 l3 l4 x r h => zD_st1 (k := 2) (ins := .istore_n 2) (len := 1) (by decide +kernel) rfl rfl rfl (by decide +kernel) rfl rfl,
  fun l0 l2 l3 l4 x S h => zD_op (ins := .iload_n 1) (len := 1) (c := (3, [l0, some (.int x), l2, l3, l4], (.int x :: S), h)) (by decide +kernel) rfl rfl rfl rfl,
  fun l0 l1 l2 l3 l4 x r h => zD_st1 (k := 3) (ins := .istore_n 3) (len := 1) (by decide +kernel) rfl rfl rfl (by decide +kernel) rfl rfl,
  fun l0 l1 l2 l3 l4 S h => zD_icst (n := 0) (by decide +kernel) (by decide +kernel),
  fun l0 l1 l2 l3 l4 x r h => zD_st1 (k := 4) (ins := .istore 4) (len := 2) (by decide +kernel) rfl rfl rfl (by decide +kernel) rfl rfl,
  fun l1 l2 l3 l4 x S h => zD_op (ins := .aload_n 0) (len := 1) (c := (10, [some (.ref x), l1, l2, l3, l4], (.ref x :: S), h)) (by decide +kernel) rfl rfl rfl rfl,
  fun l0 l1 l2 l3 l4 a r h hx => zD_getf (i := 28) (ci := 3) (k := 2) (q := (86, 0)) (by decide +kernel) (by decide +kernel) hx,
  fun l0 l1 l2 l3 l4 x y r h => zD_if (cnd := .ge) (off := 29) (by decide +kernel) (by decide) rfl,
  fun l1 l2 l3 l4 x S h => zD_op (ins := .aload_n 0) (len := 1) (c := (17, [some (.ref x), l1, l2, l3, l4], (.ref x :: S), h)) (by decide +kernel) rfl rfl rfl rfl,
  fun l0 l1 l2 l3 l4 a r h hx => zD_getf (i := 15) (ci := 3) (k := 1) (q := (81, 0)) (by decide +kernel) (by decide +kernel) hx,
  fun l0 l1 l2 l4 x S h => zD_op (ins := .iload_n 3) (len := 1) (c := (21, [l0, l1, l2, some (.int x), l4], (.int x :: S), h)) (by decide +kernel) rfl rfl rfl rfl,
  fun l0 l1 l2 l3 l4 i a r h hx => zD_iald (by decide +kernel) hx,
  fun l0 l1 l2 l3 l4 x r h => zD_st1 (k := 3) (ins := .istore_n 3) (len := 1) (by decide +kernel) rfl rfl rfl (by decide +kernel) rfl rfl,
  fun l0 l1 l3 l4 x S h => zD_op (ins := .iload_n 2) (len := 1) (c := (24, [l0, l1, some (.int x), l3, l4], (.int x :: S), h)) (by decide +kernel) rfl rfl rfl rfl,
  fun l0 l1 l2 l3 l4 S h => zD_icst (n := 1) (by decide +kernel) (by decide +kernel),
  fun l0 l1 l2 l4 x S h => zD_op (ins := .iload_n 3) (len := 1) (c := (26, [l0, l1, l2, some (.int x), l4], (.int x :: S), h)) (by decide +kernel) rfl rfl rfl rfl,
  fun l0 l1 l2 l3 l4 x y r h => zD_op (ins := .ishl) (len := 1) (c := (27, [l0, l1, l2, l3, l4], (.int (x <<< (y &&& 31)) :: r), h)) (by decide +kernel) rfl rfl rfl rfl,
  fun l0 l1 l2 l3 l4 x y r h => zD_op (ins := .ior) (len := 1) (c := (28, [l0, l1, l2, l3, l4], (.int (x ||| y) :: r), h)) (by decide +kernel) rfl rfl rfl rfl,
  fun l0 l1 l2 l3 l4 x r h => zD_st1 (k := 2) (ins := .istore_n 2) (len := 1) (by decide +kernel) rfl rfl rfl (by decide +kernel) rfl rfl,
  fun l0 l1 l2 l4 x S h => zD_op (ins := .iload_n 3) (len := 1) (c := (30, [l0, l1, l2, some (.int x), l4], (.int x :: S), h)) (by decide +kernel) rfl rfl rfl rfl,
  fun l0 l1 l2 l3 l4 x r h => zD_if0 (cnd := .ne) (off := 6) (by decide +kernel) (by decide) rfl,
  fun l0 l1 l2 l3 l4 S h => zD_goto (off := 9) (by decide +kernel) (by decide),
  fun l0 l1 l2 l3 x S h => zD_iinc (k := 4) (x := x) (c := (1 : Int32)) (n := 1) (by decide +kernel) (by decide +kernel) rfl (by decide +kernel) rfl,
  fun l0 l1 l2 l3 l4 S h => zD_goto (off := (-32)) (by decide +kernel) (by decide),
  fun l0 l1 l3 l4 x S h => zD_op (ins := .iload_n 2) (len := 1) (c := (43, [l0, l1, some (.int x), l3, l4], (.int x :: S), h)) (by decide +kernel) rfl rfl rfl rfl,
  fun l0 l1 l2 l3 l4 v h => zD_ireti (by decide +kernel) rfl⟩
set_option maxRecDepth 100000 in
theorem E_X3_placesAbove_h7 : (∀ (l0 l1 l2 l3 : Option Value) (x : Int32) (S : List Value) (h : zH), zD 8 7 [l0, l1, l2, l3, some (.int x)] S h = zD 8 9 [l0, l1, l2, l3, some (.int x)] (.int x :: S) h) :=
  fun l0 l1 l2 l3 x S h => zD_op (ins := .iload 4) (len := 2) (c := (9, [l0, l1, l2, l3, some (.int x)], (.int x :: S), h)) (by decide +kernel) rfl rfl rfl rfl
set_option maxRecDepth 100000 in
theorem I_X3_placesAbove : (∀ (a : Nat) (p0 : Int32) (h : zH), zC 8 [.ref a, .int p0] h = zD 8 0 [some (.ref a), some (.int p0), none, none, none] [] h) :=
  fun a p0 h => zC_def rfl
set_option maxRecDepth 100000 in
theorem E_X3_likeHeads : (∀ (l0 l1 l2 l3 : Option Value) (S : List Value) (h : zH), zD 9 0 [l0, l1, l2, l3] S h = zD 9 1 [l0, l1, l2, l3] (.int (0 : Int32) :: S) h) ∧
  (∀ (l0 l1 l2 l3 : Option Value) (x : Int32) (r : List Value) (h : zH), zD 9 1 [l0, l1, l2, l3] (.int x :: r) h = zD 9 2 [l0, zclr l1, some (.int x), l3] r h) ∧
  (∀ (l0 l1 l2 l3 : Option Value) (S : List Value) (h : zH), zD 9 2 [l0, l1, l2, l3] S h = zD 9 3 [l0, l1, l2, l3] (.int (1 : Int32) :: S) h) ∧
  (∀ (l0 l1 l2 l3 : Option Value) (x : Int32) (r : List Value) (h : zH), zD 9 3 [l0, l1, l2, l3] (.int x :: r) h = zD 9 4 [l0, l1, zclr l2, some (.int x)] r h) ∧
  (∀ (l1 l2 l3 : Option Value) (x : Nat) (S : List Value) (h : zH), zD 9 5 [some (.ref x), l1, l2, l3] S h = zD 9 6 [some (.ref x), l1, l2, l3] (.ref x :: S) h) ∧
  (∀ (l0 l1 l2 l3 : Option Value) (a : Nat) (r : List Value) (h : zH) (hx : zfok (h.2.2 a) 3 2 = true), zD 9 6 [l0, l1, l2, l3] (.ref a :: r) h = zD 9 9 [l0, l1, l2, l3] (zfv (h.2.2 a) 2 :: r) h) ∧
  (∀ (l0 l1 l2 l3 : Option Value) (x y : Int32) (r : List Value) (h : zH), zD 9 9 [l0, l1, l2, l3] (.int y :: .int x :: r) h = if y < x then zD 9 36 [l0, l1, l2, l3] r h else zD 9 12 [l0, l1, l2, l3] r h) ∧
  (∀ (l1 l2 l3 : Option Value) (x : Nat) (S : List Value) (h : zH), zD 9 12 [some (.ref x), l1, l2, l3] S h = zD 9 13 [some (.ref x), l1, l2, l3] (.ref x :: S) h) ∧
  (∀ (l0 l1 l2 l3 : Option Value) (a : Nat) (r : List Value) (h : zH) (hx : zfok (h.2.2 a) 3 1 = true), zD 9 13 [l0, l1, l2, l3] (.ref a :: r) h = zD 9 16 [l0, l1, l2, l3] (zfv (h.2.2 a) 1 :: r) h) ∧
  (∀ (l0 l1 l2 : Option Value) (x : Int32) (S : List Value) (h : zH), zD 9 16 [l0, l1, l2, some (.int x)] S h = zD 9 17 [l0, l1, l2, some (.int x)] (.int x :: S) h) ∧
  (∀ (l0 l1 l2 l3 : Option Value) (i : Int32) (a : Nat) (r : List Value) (h : zH) (hx : ziok a (h.2.2 a) i = true), zD 9 17 [l0, l1, l2, l3] (.int i :: .ref a :: r) h = zD 9 18 [l0, l1, l2, l3] (.int (ziv (h.2.2 a) i) :: r) h) ∧
  (∀ (l0 l2 l3 : Option Value) (x : Nat) (S : List Value) (h : zH), zD 9 18 [l0, some (.ref x), l2, l3] S h = zD 9 19 [l0, some (.ref x), l2, l3] (.ref x :: S) h) ∧
  (∀ (l0 l2 l3 : Option Value) (S : List Value) (h : zH), zD 9 18 [l0, some .null, l2, l3] S h = zD 9 19 [l0, some .null, l2, l3] (.null :: S) h) ∧
  (∀ (l0 l1 l2 l3 : Option Value) (a : Nat) (r : List Value) (h : zH) (hx : zfok (h.2.2 a) 3 1 = true), zD 9 19 [l0, l1, l2, l3] (.ref a :: r) h = zD 9 22 [l0, l1, l2, l3] (zfv (h.2.2 a) 1 :: r) h) ∧
  (∀ (l0 l1 l2 : Option Value) (x : Int32) (S : List Value) (h : zH), zD 9 22 [l0, l1, l2, some (.int x)] S h = zD 9 23 [l0, l1, l2, some (.int x)] (.int x :: S) h) ∧
  (∀ (l0 l1 l2 l3 : Option Value) (i : Int32) (a : Nat) (r : List Value) (h : zH) (hx : ziok a (h.2.2 a) i = true), zD 9 23 [l0, l1, l2, l3] (.int i :: .ref a :: r) h = zD 9 24 [l0, l1, l2, l3] (.int (ziv (h.2.2 a) i) :: r) h) ∧
  (∀ (l0 l1 l2 l3 : Option Value) (x y : Int32) (r : List Value) (h : zH), zD 9 24 [l0, l1, l2, l3] (.int y :: .int x :: r) h = if ¬ x = y then zD 9 30 [l0, l1, l2, l3] r h else zD 9 27 [l0, l1, l2, l3] r h) ∧
  (∀ (l0 l1 l3 : Option Value) (x : Int32) (S : List Value) (h : zH), zD 9 27 [l0, l1, some (.int x), l3] S h = zD 9 30 [l0, zclr l1, some (.int (x + (1 : Int32))), l3] S h) ∧
  (∀ (l0 l1 l2 : Option Value) (x : Int32) (S : List Value) (h : zH), zD 9 30 [l0, l1, l2, some (.int x)] S h = zD 9 33 [l0, l1, zclr l2, some (.int (x + (1 : Int32)))] S h) ∧
  (∀ (l0 l1 l2 l3 : Option Value) (S : List Value) (h : zH), zD 9 33 [l0, l1, l2, l3] S h = zD 9 4 [l0, l1, l2, l3] S h) ∧
  (∀ (l0 l1 l3 : Option Value) (x : Int32) (S : List Value) (h : zH), zD 9 36 [l0, l1, some (.int x), l3] S h = zD 9 37 [l0, l1, some (.int x), l3] (.int x :: S) h) ∧
  (∀ (l0 l1 l2 l3 : Option Value) (v : Int32) (h : zH), zD 9 37 [l0, l1, l2, l3] [.int v] h = some (some (.int v), h)) :=
  ⟨fun l0 l1 l2 l3 S h => zD_icst (n := 0) (by decide +kernel) (by decide +kernel),
  fun l0 l1 l2 l3 x r h => zD_st1 (k := 2) (ins := .istore_n 2) (len := 1) (by decide +kernel) rfl rfl rfl (by decide +kernel) rfl rfl,
  fun l0 l1 l2 l3 S h => zD_icst (n := 1) (by decide +kernel) (by decide +kernel),
  fun l0 l1 l2 l3 x r h => zD_st1 (k := 3) (ins := .istore_n 3) (len := 1) (by decide +kernel) rfl rfl rfl (by decide +kernel) rfl rfl,
  fun l1 l2 l3 x S h => zD_op (ins := .aload_n 0) (len := 1) (c := (6, [some (.ref x), l1, l2, l3], (.ref x :: S), h)) (by decide +kernel) rfl rfl rfl rfl,
  fun l0 l1 l2 l3 a r h hx => zD_getf (i := 28) (ci := 3) (k := 2) (q := (86, 0)) (by decide +kernel) (by decide +kernel) hx,
  fun l0 l1 l2 l3 x y r h => zD_if (cnd := .gt) (off := 27) (by decide +kernel) (by decide) rfl,
  fun l1 l2 l3 x S h => zD_op (ins := .aload_n 0) (len := 1) (c := (13, [some (.ref x), l1, l2, l3], (.ref x :: S), h)) (by decide +kernel) rfl rfl rfl rfl,
  fun l0 l1 l2 l3 a r h hx => zD_getf (i := 15) (ci := 3) (k := 1) (q := (81, 0)) (by decide +kernel) (by decide +kernel) hx,
  fun l0 l1 l2 x S h => zD_op (ins := .iload_n 3) (len := 1) (c := (17, [l0, l1, l2, some (.int x)], (.int x :: S), h)) (by decide +kernel) rfl rfl rfl rfl,
  fun l0 l1 l2 l3 i a r h hx => zD_iald (by decide +kernel) hx,
  fun l0 l2 l3 x S h => zD_op (ins := .aload_n 1) (len := 1) (c := (19, [l0, some (.ref x), l2, l3], (.ref x :: S), h)) (by decide +kernel) rfl rfl rfl rfl,
  fun l0 l2 l3 S h => zD_op (ins := .aload_n 1) (len := 1) (c := (19, [l0, some .null, l2, l3], (.null :: S), h)) (by decide +kernel) rfl rfl rfl rfl,
  fun l0 l1 l2 l3 a r h hx => zD_getf (i := 15) (ci := 3) (k := 1) (q := (81, 0)) (by decide +kernel) (by decide +kernel) hx,
  fun l0 l1 l2 x S h => zD_op (ins := .iload_n 3) (len := 1) (c := (23, [l0, l1, l2, some (.int x)], (.int x :: S), h)) (by decide +kernel) rfl rfl rfl rfl,
  fun l0 l1 l2 l3 i a r h hx => zD_iald (by decide +kernel) hx,
  fun l0 l1 l2 l3 x y r h => zD_if (cnd := .ne) (off := 6) (by decide +kernel) (by decide) rfl,
  fun l0 l1 l3 x S h => zD_iinc (k := 2) (x := x) (c := (1 : Int32)) (n := 1) (by decide +kernel) (by decide +kernel) rfl (by decide +kernel) rfl,
  fun l0 l1 l2 x S h => zD_iinc (k := 3) (x := x) (c := (1 : Int32)) (n := 1) (by decide +kernel) (by decide +kernel) rfl (by decide +kernel) rfl,
  fun l0 l1 l2 l3 S h => zD_goto (off := (-29)) (by decide +kernel) (by decide),
  fun l0 l1 l3 x S h => zD_op (ins := .iload_n 2) (len := 1) (c := (37, [l0, l1, some (.int x), l3], (.int x :: S), h)) (by decide +kernel) rfl rfl rfl rfl,
  fun l0 l1 l2 l3 v h => zD_ireti (by decide +kernel) rfl⟩
set_option maxRecDepth 100000 in
theorem E_X3_likeHeads_h4 : (∀ (l0 l1 l2 : Option Value) (x : Int32) (S : List Value) (h : zH), zD 9 4 [l0, l1, l2, some (.int x)] S h = zD 9 5 [l0, l1, l2, some (.int x)] (.int x :: S) h) :=
  fun l0 l1 l2 x S h => zD_op (ins := .iload_n 3) (len := 1) (c := (5, [l0, l1, l2, some (.int x)], (.int x :: S), h)) (by decide +kernel) rfl rfl rfl rfl
set_option maxRecDepth 100000 in
theorem I_X3_likeHeads : (∀ (p0 : Nat) (p1 : Nat) (h : zH), zC 9 [.ref p0, .ref p1] h = zD 9 0 [some (.ref p0), some (.ref p1), none, none] [] h) :=
  fun p0 p1 h => zC_def rfl
set_option maxRecDepth 100000 in
theorem E_X4_sumIn : (∀ (l1 : Option Value) (x : Int64) (S : List Value) (h : zH), zD 10 0 [some (.long x), l1] S h = zD 10 1 [some (.long x), l1] (.long x :: S) h) ∧
  (∀ (l0 l1 : Option Value) (x : Int64) (r : List Value) (h : zH), zD 10 1 [l0, l1] (.long x :: r) h = zD 10 2 [l0, l1] (.long (-x) :: r) h) ∧
  (∀ (l0 l1 : Option Value) (S : List Value) (h : zH), zD 10 2 [l0, l1] S h = zD 10 4 [l0, l1] (.int (21 : Int32) :: S) h) ∧
  (∀ (l0 l1 : Option Value) (x : Int64) (y : Int32) (r : List Value) (h : zH), zD 10 4 [l0, l1] (.int y :: .long x :: r) h = zD 10 5 [l0, l1] (.long (x >>> (y.toInt64 &&& 63)) :: r) h) ∧
  (∀ (l0 l1 : Option Value) (x : Int64) (r : List Value) (h : zH), zD 10 5 [l0, l1] (.long x :: r) h = zD 10 6 [l0, l1] (.long (-x) :: r) h) ∧
  (∀ (l0 l1 : Option Value) (x : Int64) (r : List Value) (h : zH), zD 10 6 [l0, l1] (.long x :: r) h = zD 10 7 [l0, l1] (.int x.toInt32 :: r) h) ∧
  (∀ (l0 l1 : Option Value) (v : Int32) (h : zH), zD 10 7 [l0, l1] [.int v] h = some (some (.int v), h)) :=
  ⟨fun l1 x S h => zD_op (ins := .lload_n 0) (len := 1) (c := (1, [some (.long x), l1], (.long x :: S), h)) (by decide +kernel) rfl rfl rfl rfl,
  fun l0 l1 x r h => zD_op (ins := .lneg) (len := 1) (c := (2, [l0, l1], (.long (-x) :: r), h)) (by decide +kernel) rfl rfl rfl rfl,
  fun l0 l1 S h => zD_bip (n := 21) (by decide +kernel) (by decide +kernel),
  fun l0 l1 x y r h => zD_op (ins := .lshr) (len := 1) (c := (5, [l0, l1], (.long (x >>> (y.toInt64 &&& 63)) :: r), h)) (by decide +kernel) rfl rfl rfl rfl,
  fun l0 l1 x r h => zD_op (ins := .lneg) (len := 1) (c := (6, [l0, l1], (.long (-x) :: r), h)) (by decide +kernel) rfl rfl rfl rfl,
  fun l0 l1 x r h => zD_op (ins := .l2i) (len := 1) (c := (7, [l0, l1], (.int x.toInt32 :: r), h)) (by decide +kernel) rfl rfl rfl rfl,
  fun l0 l1 v h => zD_ireti (by decide +kernel) rfl⟩
set_option maxRecDepth 100000 in
theorem I_X4_sumIn : (∀ (p0 : Int64) (h : zH), zC 10 [.long p0] h = zD 10 0 [some (.long p0), none] [] h) :=
  fun p0 h => zC_def rfl
set_option maxRecDepth 100000 in
theorem E_X4_shiftOf : (∀ (l0 : Option Value) (S : List Value) (h : zH), zD 11 0 [l0] S h = zD 11 1 [l0] (.int (3 : Int32) :: S) h) ∧
  (∀ (l0 : Option Value) (S : List Value) (h : zH), zD 11 1 [l0] S h = zD 11 3 [l0] (.int (7 : Int32) :: S) h) ∧
  (∀ (x : Int32) (S : List Value) (h : zH), zD 11 3 [some (.int x)] S h = zD 11 4 [some (.int x)] (.int x :: S) h) ∧
  (∀ (l0 : Option Value) (x y : Int32) (r : List Value) (h : zH), zD 11 4 [l0] (.int y :: .int x :: r) h = zD 11 5 [l0] (.int (x - y) :: r) h) ∧
  (∀ (l0 : Option Value) (x y : Int32) (r : List Value) (h : zH), zD 11 5 [l0] (.int y :: .int x :: r) h = zD 11 6 [l0] (.int (x * y) :: r) h) ∧
  (∀ (l0 : Option Value) (v : Int32) (h : zH), zD 11 6 [l0] [.int v] h = some (some (.int v), h)) :=
  ⟨fun l0 S h => zD_icst (n := 3) (by decide +kernel) (by decide +kernel),
  fun l0 S h => zD_bip (n := 7) (by decide +kernel) (by decide +kernel),
  fun x S h => zD_op (ins := .iload_n 0) (len := 1) (c := (4, [some (.int x)], (.int x :: S), h)) (by decide +kernel) rfl rfl rfl rfl,
  fun l0 x y r h => zD_op (ins := .isub) (len := 1) (c := (5, [l0], (.int (x - y) :: r), h)) (by decide +kernel) rfl rfl rfl rfl,
  fun l0 x y r h => zD_op (ins := .imul) (len := 1) (c := (6, [l0], (.int (x * y) :: r), h)) (by decide +kernel) rfl rfl rfl rfl,
  fun l0 v h => zD_ireti (by decide +kernel) rfl⟩
set_option maxRecDepth 100000 in
theorem I_X4_shiftOf : (∀ (p0 : Int32) (h : zH), zC 11 [.int p0] h = zD 11 0 [some (.int p0)] [] h) :=
  fun p0 h => zC_def rfl
set_option maxRecDepth 100000 in
theorem E_X5_add : (∀ (l1 l2 l3 : Option Value) (x : Nat) (S : List Value) (h : zH), zD 12 0 [some (.ref x), l1, l2, l3] S h = zD 12 1 [some (.ref x), l1, l2, l3] (.ref x :: S) h) ∧
  (∀ (l0 l1 l2 l3 : Option Value) (a : Nat) (r : List Value) (h : zH) (hx : zfok (h.2.2 a) 4 3 = true), zD 12 1 [l0, l1, l2, l3] (.ref a :: r) h = zD 12 4 [l0, l1, l2, l3] (zfv (h.2.2 a) 3 :: r) h) ∧
  (∀ (l0 l1 l2 l3 : Option Value) (S : List Value) (h : zH), zD 12 4 [l0, l1, l2, l3] S h = zD 12 6 [l0, l1, l2, l3] (.int (6 : Int32) :: S) h) ∧
  (∀ (l0 l1 l2 l3 : Option Value) (x y : Int32) (r : List Value) (h : zH), zD 12 6 [l0, l1, l2, l3] (.int y :: .int x :: r) h = if x < y then zD 12 12 [l0, l1, l2, l3] r h else zD 12 9 [l0, l1, l2, l3] r h) ∧
  (∀ (l0 l1 l2 l3 : Option Value) (S : List Value) (h : zH), zD 12 9 [l0, l1, l2, l3] S h = zD 12 11 [l0, l1, l2, l3] (.int (-104 : Int32) :: S) h) ∧
  (∀ (l0 l1 l2 l3 : Option Value) (v : Int32) (h : zH), zD 12 11 [l0, l1, l2, l3] [.int v] h = some (some (.int v), h)) ∧
  (∀ (l1 l2 l3 : Option Value) (x : Nat) (S : List Value) (h : zH), zD 12 12 [some (.ref x), l1, l2, l3] S h = zD 12 13 [some (.ref x), l1, l2, l3] (.ref x :: S) h) ∧
  (∀ (l0 l1 l2 l3 : Option Value) (a : Nat) (r : List Value) (h : zH) (hx : zfok (h.2.2 a) 4 0 = true), zD 12 13 [l0, l1, l2, l3] (.ref a :: r) h = zD 12 16 [l0, l1, l2, l3] (zfv (h.2.2 a) 0 :: r) h) ∧
  (∀ (l1 l2 l3 : Option Value) (x : Nat) (S : List Value) (h : zH), zD 12 16 [some (.ref x), l1, l2, l3] S h = zD 12 17 [some (.ref x), l1, l2, l3] (.ref x :: S) h) ∧
  (∀ (l0 l1 l2 l3 : Option Value) (a : Nat) (r : List Value) (h : zH) (hx : zfok (h.2.2 a) 4 3 = true), zD 12 17 [l0, l1, l2, l3] (.ref a :: r) h = zD 12 20 [l0, l1, l2, l3] (zfv (h.2.2 a) 3 :: r) h) ∧
  (∀ (l0 l2 l3 : Option Value) (x : Int32) (S : List Value) (h : zH), zD 12 20 [l0, some (.int x), l2, l3] S h = zD 12 21 [l0, some (.int x), l2, l3] (.int x :: S) h) ∧
  (∀ (l0 l1 l2 l3 : Option Value) (w i : Int32) (a : Nat) (r : List Value) (h : zH) (hx : zpok (h.2.2 a) i = true), zD 12 21 [l0, l1, l2, l3] (.int w :: .int i :: .ref a :: r) h = zD 12 22 [l0, l1, l2, l3] r (zw h a (zis' (h.2.2 a) i w))) ∧
  (∀ (l1 l2 l3 : Option Value) (x : Nat) (S : List Value) (h : zH), zD 12 22 [some (.ref x), l1, l2, l3] S h = zD 12 23 [some (.ref x), l1, l2, l3] (.ref x :: S) h) ∧
  (∀ (l0 l1 l2 l3 : Option Value) (a : Nat) (r : List Value) (h : zH) (hx : zfok (h.2.2 a) 4 1 = true), zD 12 23 [l0, l1, l2, l3] (.ref a :: r) h = zD 12 26 [l0, l1, l2, l3] (zfv (h.2.2 a) 1 :: r) h) ∧
  (∀ (l1 l2 l3 : Option Value) (x : Nat) (S : List Value) (h : zH), zD 12 26 [some (.ref x), l1, l2, l3] S h = zD 12 27 [some (.ref x), l1, l2, l3] (.ref x :: S) h) ∧
  (∀ (l0 l1 l2 l3 : Option Value) (a : Nat) (r : List Value) (h : zH) (hx : zfok (h.2.2 a) 4 3 = true), zD 12 27 [l0, l1, l2, l3] (.ref a :: r) h = zD 12 30 [l0, l1, l2, l3] (zfv (h.2.2 a) 3 :: r) h) ∧
  (∀ (l0 l1 l3 : Option Value) (x : Int32) (S : List Value) (h : zH), zD 12 30 [l0, l1, some (.int x), l3] S h = zD 12 31 [l0, l1, some (.int x), l3] (.int x :: S) h) ∧
  (∀ (l0 l1 l2 l3 : Option Value) (w i : Int32) (a : Nat) (r : List Value) (h : zH) (hx : zpok (h.2.2 a) i = true), zD 12 31 [l0, l1, l2, l3] (.int w :: .int i :: .ref a :: r) h = zD 12 32 [l0, l1, l2, l3] r (zw h a (zis' (h.2.2 a) i w))) ∧
  (∀ (l1 l2 l3 : Option Value) (x : Nat) (S : List Value) (h : zH), zD 12 32 [some (.ref x), l1, l2, l3] S h = zD 12 33 [some (.ref x), l1, l2, l3] (.ref x :: S) h) ∧
  (∀ (l0 l1 l2 l3 : Option Value) (a : Nat) (r : List Value) (h : zH) (hx : zfok (h.2.2 a) 4 2 = true), zD 12 33 [l0, l1, l2, l3] (.ref a :: r) h = zD 12 36 [l0, l1, l2, l3] (zfv (h.2.2 a) 2 :: r) h) ∧
  (∀ (l1 l2 l3 : Option Value) (x : Nat) (S : List Value) (h : zH), zD 12 36 [some (.ref x), l1, l2, l3] S h = zD 12 37 [some (.ref x), l1, l2, l3] (.ref x :: S) h) ∧
  (∀ (l0 l1 l2 l3 : Option Value) (a : Nat) (r : List Value) (h : zH) (hx : zfok (h.2.2 a) 4 3 = true), zD 12 37 [l0, l1, l2, l3] (.ref a :: r) h = zD 12 40 [l0, l1, l2, l3] (zfv (h.2.2 a) 3 :: r) h) ∧
  (∀ (l0 l1 l2 : Option Value) (x : Int32) (S : List Value) (h : zH), zD 12 40 [l0, l1, l2, some (.int x)] S h = zD 12 41 [l0, l1, l2, some (.int x)] (.int x :: S) h) ∧
  (∀ (l0 l1 l2 l3 : Option Value) (w i : Int32) (a : Nat) (r : List Value) (h : zH) (hx : zpok (h.2.2 a) i = true), zD 12 41 [l0, l1, l2, l3] (.int w :: .int i :: .ref a :: r) h = zD 12 42 [l0, l1, l2, l3] r (zw h a (zis' (h.2.2 a) i w))) ∧
  (∀ (l1 l2 l3 : Option Value) (x : Nat) (S : List Value) (h : zH), zD 12 42 [some (.ref x), l1, l2, l3] S h = zD 12 43 [some (.ref x), l1, l2, l3] (.ref x :: S) h) ∧
  (∀ (l0 l1 l2 l3 : Option Value) (x : Int32) (r : List Value) (h : zH), zD 12 43 [l0, l1, l2, l3] (.int x :: r) h = zD 12 44 [l0, l1, l2, l3] (.int x :: .int x :: r) h) ∧
  (∀ (l0 l1 l2 l3 : Option Value) (x : Nat) (r : List Value) (h : zH), zD 12 43 [l0, l1, l2, l3] (.ref x :: r) h = zD 12 44 [l0, l1, l2, l3] (.ref x :: .ref x :: r) h) ∧
  (∀ (l0 l1 l2 l3 : Option Value) (a : Nat) (r : List Value) (h : zH) (hx : zfok (h.2.2 a) 4 3 = true), zD 12 44 [l0, l1, l2, l3] (.ref a :: r) h = zD 12 47 [l0, l1, l2, l3] (zfv (h.2.2 a) 3 :: r) h) ∧
  (∀ (l0 l1 l2 l3 : Option Value) (S : List Value) (h : zH), zD 12 47 [l0, l1, l2, l3] S h = zD 12 48 [l0, l1, l2, l3] (.int (1 : Int32) :: S) h) ∧
  (∀ (l0 l1 l2 l3 : Option Value) (x y : Int32) (r : List Value) (h : zH), zD 12 48 [l0, l1, l2, l3] (.int y :: .int x :: r) h = zD 12 49 [l0, l1, l2, l3] (.int (x + y) :: r) h) ∧
  (∀ (l0 l1 l2 l3 : Option Value) (v : Int32) (a : Nat) (r : List Value) (h : zH) (hx : zfok (h.2.2 a) 4 3 = true), zD 12 49 [l0, l1, l2, l3] (.int v :: .ref a :: r) h = zD 12 52 [l0, l1, l2, l3] r (zw h a (zfs' (h.2.2 a) 3 (.int v)))) ∧
  (∀ (l1 l2 l3 : Option Value) (x : Nat) (S : List Value) (h : zH), zD 12 52 [some (.ref x), l1, l2, l3] S h = zD 12 53 [some (.ref x), l1, l2, l3] (.ref x :: S) h) ∧
  (∀ (l0 l1 l2 l3 : Option Value) (a : Nat) (r : List Value) (h : zH) (hx : zfok (h.2.2 a) 4 3 = true), zD 12 53 [l0, l1, l2, l3] (.ref a :: r) h = zD 12 56 [l0, l1, l2, l3] (zfv (h.2.2 a) 3 :: r) h) ∧
  (∀ (l0 l1 l2 l3 : Option Value) (v : Int32) (h : zH), zD 12 56 [l0, l1, l2, l3] [.int v] h = some (some (.int v), h)) :=
  ⟨fun l1 l2 l3 x S h => zD_op (ins := .aload_n 0) (len := 1) (c := (1, [some (.ref x), l1, l2, l3], (.ref x :: S), h)) (by decide +kernel) rfl rfl rfl rfl,
  fun l0 l1 l2 l3 a r h hx => zD_getf (i := 33) (ci := 4) (k := 3) (q := (218, 0)) (by decide +kernel) (by decide +kernel) hx,
  fun l0 l1 l2 l3 S h => zD_bip (n := 6) (by decide +kernel) (by decide +kernel),
  fun l0 l1 l2 l3 x y r h => zD_if (cnd := .lt) (off := 6) (by decide +kernel) (by decide) rfl,
  fun l0 l1 l2 l3 S h => zD_bip (n := (-104)) (by decide +kernel) (by decide +kernel),
  fun l0 l1 l2 l3 v h => zD_ireti (by decide +kernel) rfl,
  fun l1 l2 l3 x S h => zD_op (ins := .aload_n 0) (len := 1) (c := (13, [some (.ref x), l1, l2, l3], (.ref x :: S), h)) (by decide +kernel) rfl rfl rfl rfl,
  fun l0 l1 l2 l3 a r h hx => zD_getf (i := 9) (ci := 4) (k := 0) (q := (212, 0)) (by decide +kernel) (by decide +kernel) hx,
  fun l1 l2 l3 x S h => zD_op (ins := .aload_n 0) (len := 1) (c := (17, [some (.ref x), l1, l2, l3], (.ref x :: S), h)) (by decide +kernel) rfl rfl rfl rfl,
  fun l0 l1 l2 l3 a r h hx => zD_getf (i := 33) (ci := 4) (k := 3) (q := (218, 0)) (by decide +kernel) (by decide +kernel) hx,
  fun l0 l2 l3 x S h => zD_op (ins := .iload_n 1) (len := 1) (c := (21, [l0, some (.int x), l2, l3], (.int x :: S), h)) (by decide +kernel) rfl rfl rfl rfl,
  fun l0 l1 l2 l3 w i a r h hx => zD_iast (by decide +kernel) hx,
  fun l1 l2 l3 x S h => zD_op (ins := .aload_n 0) (len := 1) (c := (23, [some (.ref x), l1, l2, l3], (.ref x :: S), h)) (by decide +kernel) rfl rfl rfl rfl,
  fun l0 l1 l2 l3 a r h hx => zD_getf (i := 15) (ci := 4) (k := 1) (q := (214, 0)) (by decide +kernel) (by decide +kernel) hx,
  fun l1 l2 l3 x S h => zD_op (ins := .aload_n 0) (len := 1) (c := (27, [some (.ref x), l1, l2, l3], (.ref x :: S), h)) (by decide +kernel) rfl rfl rfl rfl,
  fun l0 l1 l2 l3 a r h hx => zD_getf (i := 33) (ci := 4) (k := 3) (q := (218, 0)) (by decide +kernel) (by decide +kernel) hx,
  fun l0 l1 l3 x S h => zD_op (ins := .iload_n 2) (len := 1) (c := (31, [l0, l1, some (.int x), l3], (.int x :: S), h)) (by decide +kernel) rfl rfl rfl rfl,
  fun l0 l1 l2 l3 w i a r h hx => zD_iast (by decide +kernel) hx,
  fun l1 l2 l3 x S h => zD_op (ins := .aload_n 0) (len := 1) (c := (33, [some (.ref x), l1, l2, l3], (.ref x :: S), h)) (by decide +kernel) rfl rfl rfl rfl,
  fun l0 l1 l2 l3 a r h hx => zD_getf (i := 18) (ci := 4) (k := 2) (q := (216, 0)) (by decide +kernel) (by decide +kernel) hx,
  fun l1 l2 l3 x S h => zD_op (ins := .aload_n 0) (len := 1) (c := (37, [some (.ref x), l1, l2, l3], (.ref x :: S), h)) (by decide +kernel) rfl rfl rfl rfl,
  fun l0 l1 l2 l3 a r h hx => zD_getf (i := 33) (ci := 4) (k := 3) (q := (218, 0)) (by decide +kernel) (by decide +kernel) hx,
  fun l0 l1 l2 x S h => zD_op (ins := .iload_n 3) (len := 1) (c := (41, [l0, l1, l2, some (.int x)], (.int x :: S), h)) (by decide +kernel) rfl rfl rfl rfl,
  fun l0 l1 l2 l3 w i a r h hx => zD_iast (by decide +kernel) hx,
  fun l1 l2 l3 x S h => zD_op (ins := .aload_n 0) (len := 1) (c := (43, [some (.ref x), l1, l2, l3], (.ref x :: S), h)) (by decide +kernel) rfl rfl rfl rfl,
  fun l0 l1 l2 l3 x r h => zD_op (ins := .dup) (len := 1) (c := (44, [l0, l1, l2, l3], (.int x :: .int x :: r), h)) (by decide +kernel) rfl rfl rfl rfl,
  fun l0 l1 l2 l3 x r h => zD_op (ins := .dup) (len := 1) (c := (44, [l0, l1, l2, l3], (.ref x :: .ref x :: r), h)) (by decide +kernel) rfl rfl rfl rfl,
  fun l0 l1 l2 l3 a r h hx => zD_getf (i := 33) (ci := 4) (k := 3) (q := (218, 0)) (by decide +kernel) (by decide +kernel) hx,
  fun l0 l1 l2 l3 S h => zD_icst (n := 1) (by decide +kernel) (by decide +kernel),
  fun l0 l1 l2 l3 x y r h => zD_op (ins := .iadd) (len := 1) (c := (49, [l0, l1, l2, l3], (.int (x + y) :: r), h)) (by decide +kernel) rfl rfl rfl rfl,
  fun l0 l1 l2 l3 v a r h hx => zD_putf (i := 33) (ci := 4) (k := 3) (q := (218, 0)) (by decide +kernel) (by decide +kernel) (by decide +kernel) hx rfl rfl,
  fun l1 l2 l3 x S h => zD_op (ins := .aload_n 0) (len := 1) (c := (53, [some (.ref x), l1, l2, l3], (.ref x :: S), h)) (by decide +kernel) rfl rfl rfl rfl,
  fun l0 l1 l2 l3 a r h hx => zD_getf (i := 33) (ci := 4) (k := 3) (q := (218, 0)) (by decide +kernel) (by decide +kernel) hx,
  fun l0 l1 l2 l3 v h => zD_ireti (by decide +kernel) rfl⟩
set_option maxRecDepth 100000 in
theorem I_X5_add : (∀ (a : Nat) (p0 : Int32) (p1 : Int32) (p2 : Int32) (h : zH), zC 12 [.ref a, .int p0, .int p1, .int p2] h = zD 12 0 [some (.ref a), some (.int p0), some (.int p1), some (.int p2)] [] h) :=
  fun a p0 p1 p2 h => zC_def rfl
set_option maxRecDepth 100000 in
theorem E_X5_note : (∀ (l1 : Option Value) (x : Nat) (S : List Value) (h : zH), zD 13 0 [some (.ref x), l1] S h = zD 13 1 [some (.ref x), l1] (.ref x :: S) h) ∧
  (∀ (l0 l1 : Option Value) (a : Nat) (r : List Value) (h : zH) (hx : zfok (h.2.2 a) 4 8 = true), zD 13 1 [l0, l1] (.ref a :: r) h = zD 13 4 [l0, l1] (zfv (h.2.2 a) 8 :: r) h) ∧
  (∀ (l0 : Option Value) (x : Int32) (S : List Value) (h : zH), zD 13 4 [l0, some (.int x)] S h = zD 13 5 [l0, some (.int x)] (.int x :: S) h) ∧
  (∀ (l0 l1 : Option Value) (x y : Int32) (r : List Value) (h : zH), zD 13 5 [l0, l1] (.int y :: .int x :: r) h = if ¬ x = y then zD 13 49 [l0, l1] r h else zD 13 8 [l0, l1] r h) ∧
  (∀ (l1 : Option Value) (x : Nat) (S : List Value) (h : zH), zD 13 8 [some (.ref x), l1] S h = zD 13 9 [some (.ref x), l1] (.ref x :: S) h) ∧
  (∀ (l0 l1 : Option Value) (S : List Value) (h : zH), zD 13 9 [l0, l1] S h = zD 13 12 [l0, l1] (.int (1000 : Int32) :: S) h) ∧
  (∀ (l1 : Option Value) (x : Nat) (S : List Value) (h : zH), zD 13 12 [some (.ref x), l1] S h = zD 13 13 [some (.ref x), l1] (.ref x :: S) h) ∧
  (∀ (l0 l1 : Option Value) (a : Nat) (r : List Value) (h : zH) (hx : zfok (h.2.2 a) 4 4 = true), zD 13 13 [l0, l1] (.ref a :: r) h = zD 13 16 [l0, l1] (zfv (h.2.2 a) 4 :: r) h) ∧
  (∀ (l0 l1 : Option Value) (S : List Value) (h : zH), zD 13 16 [l0, l1] S h = zD 13 17 [l0, l1] (.int (0 : Int32) :: S) h) ∧
  (∀ (l0 l1 : Option Value) (i : Int32) (a : Nat) (r : List Value) (h : zH) (hx : ziok a (h.2.2 a) i = true), zD 13 17 [l0, l1] (.int i :: .ref a :: r) h = zD 13 18 [l0, l1] (.int (ziv (h.2.2 a) i) :: r) h) ∧
  (∀ (l0 l1 : Option Value) (x y : Int32) (r : List Value) (h : zH), zD 13 18 [l0, l1] (.int y :: .int x :: r) h = zD 13 19 [l0, l1] (.int (x * y) :: r) h) ∧
  (∀ (l0 l1 : Option Value) (S : List Value) (h : zH), zD 13 19 [l0, l1] S h = zD 13 21 [l0, l1] (.int (100 : Int32) :: S) h) ∧
  (∀ (l1 : Option Value) (x : Nat) (S : List Value) (h : zH), zD 13 21 [some (.ref x), l1] S h = zD 13 22 [some (.ref x), l1] (.ref x :: S) h) ∧
  (∀ (l0 l1 : Option Value) (a : Nat) (r : List Value) (h : zH) (hx : zfok (h.2.2 a) 4 4 = true), zD 13 22 [l0, l1] (.ref a :: r) h = zD 13 25 [l0, l1] (zfv (h.2.2 a) 4 :: r) h) ∧
  (∀ (l0 l1 : Option Value) (S : List Value) (h : zH), zD 13 25 [l0, l1] S h = zD 13 26 [l0, l1] (.int (1 : Int32) :: S) h) ∧
  (∀ (l0 l1 : Option Value) (i : Int32) (a : Nat) (r : List Value) (h : zH) (hx : ziok a (h.2.2 a) i = true), zD 13 26 [l0, l1] (.int i :: .ref a :: r) h = zD 13 27 [l0, l1] (.int (ziv (h.2.2 a) i) :: r) h) ∧
  (∀ (l0 l1 : Option Value) (x y : Int32) (r : List Value) (h : zH), zD 13 27 [l0, l1] (.int y :: .int x :: r) h = zD 13 28 [l0, l1] (.int (x * y) :: r) h) ∧
  (∀ (l0 l1 : Option Value) (x y : Int32) (r : List Value) (h : zH), zD 13 28 [l0, l1] (.int y :: .int x :: r) h = zD 13 29 [l0, l1] (.int (x + y) :: r) h) ∧
  (∀ (l0 l1 : Option Value) (S : List Value) (h : zH), zD 13 29 [l0, l1] S h = zD 13 31 [l0, l1] (.int (10 : Int32) :: S) h) ∧
  (∀ (l1 : Option Value) (x : Nat) (S : List Value) (h : zH), zD 13 31 [some (.ref x), l1] S h = zD 13 32 [some (.ref x), l1] (.ref x :: S) h) ∧
  (∀ (l0 l1 : Option Value) (a : Nat) (r : List Value) (h : zH) (hx : zfok (h.2.2 a) 4 4 = true), zD 13 32 [l0, l1] (.ref a :: r) h = zD 13 35 [l0, l1] (zfv (h.2.2 a) 4 :: r) h) ∧
  (∀ (l0 l1 : Option Value) (S : List Value) (h : zH), zD 13 35 [l0, l1] S h = zD 13 36 [l0, l1] (.int (2 : Int32) :: S) h) ∧
  (∀ (l0 l1 : Option Value) (i : Int32) (a : Nat) (r : List Value) (h : zH) (hx : ziok a (h.2.2 a) i = true), zD 13 36 [l0, l1] (.int i :: .ref a :: r) h = zD 13 37 [l0, l1] (.int (ziv (h.2.2 a) i) :: r) h) ∧
  (∀ (l0 l1 : Option Value) (x y : Int32) (r : List Value) (h : zH), zD 13 37 [l0, l1] (.int y :: .int x :: r) h = zD 13 38 [l0, l1] (.int (x * y) :: r) h) ∧
  (∀ (l0 l1 : Option Value) (x y : Int32) (r : List Value) (h : zH), zD 13 38 [l0, l1] (.int y :: .int x :: r) h = zD 13 39 [l0, l1] (.int (x + y) :: r) h) ∧
  (∀ (l1 : Option Value) (x : Nat) (S : List Value) (h : zH), zD 13 39 [some (.ref x), l1] S h = zD 13 40 [some (.ref x), l1] (.ref x :: S) h) ∧
  (∀ (l0 l1 : Option Value) (a : Nat) (r : List Value) (h : zH) (hx : zfok (h.2.2 a) 4 4 = true), zD 13 40 [l0, l1] (.ref a :: r) h = zD 13 43 [l0, l1] (zfv (h.2.2 a) 4 :: r) h) ∧
  (∀ (l0 l1 : Option Value) (S : List Value) (h : zH), zD 13 43 [l0, l1] S h = zD 13 44 [l0, l1] (.int (3 : Int32) :: S) h) ∧
  (∀ (l0 l1 : Option Value) (i : Int32) (a : Nat) (r : List Value) (h : zH) (hx : ziok a (h.2.2 a) i = true), zD 13 44 [l0, l1] (.int i :: .ref a :: r) h = zD 13 45 [l0, l1] (.int (ziv (h.2.2 a) i) :: r) h) ∧
  (∀ (l0 l1 : Option Value) (x y : Int32) (r : List Value) (h : zH), zD 13 45 [l0, l1] (.int y :: .int x :: r) h = zD 13 46 [l0, l1] (.int (x + y) :: r) h) ∧
  (∀ (l0 l1 : Option Value) (v : Int32) (a : Nat) (r : List Value) (h : zH) (hx : zfok (h.2.2 a) 4 9 = true), zD 13 46 [l0, l1] (.int v :: .ref a :: r) h = zD 13 49 [l0, l1] r (zw h a (zfs' (h.2.2 a) 9 (.int v)))) ∧
  (∀ (l1 : Option Value) (x : Nat) (S : List Value) (h : zH), zD 13 49 [some (.ref x), l1] S h = zD 13 50 [some (.ref x), l1] (.ref x :: S) h) ∧
  (∀ (l0 l1 : Option Value) (x : Int32) (r : List Value) (h : zH), zD 13 50 [l0, l1] (.int x :: r) h = zD 13 51 [l0, l1] (.int x :: .int x :: r) h) ∧
  (∀ (l0 l1 : Option Value) (x : Nat) (r : List Value) (h : zH), zD 13 50 [l0, l1] (.ref x :: r) h = zD 13 51 [l0, l1] (.ref x :: .ref x :: r) h) ∧
  (∀ (l0 l1 : Option Value) (a : Nat) (r : List Value) (h : zH) (hx : zfok (h.2.2 a) 4 8 = true), zD 13 51 [l0, l1] (.ref a :: r) h = zD 13 54 [l0, l1] (zfv (h.2.2 a) 8 :: r) h) ∧
  (∀ (l0 l1 : Option Value) (S : List Value) (h : zH), zD 13 54 [l0, l1] S h = zD 13 55 [l0, l1] (.int (1 : Int32) :: S) h) ∧
  (∀ (l0 l1 : Option Value) (x y : Int32) (r : List Value) (h : zH), zD 13 55 [l0, l1] (.int y :: .int x :: r) h = zD 13 56 [l0, l1] (.int (x + y) :: r) h) ∧
  (∀ (l0 l1 : Option Value) (v : Int32) (a : Nat) (r : List Value) (h : zH) (hx : zfok (h.2.2 a) 4 8 = true), zD 13 56 [l0, l1] (.int v :: .ref a :: r) h = zD 13 59 [l0, l1] r (zw h a (zfs' (h.2.2 a) 8 (.int v)))) ∧
  (∀ (l0 l1 : Option Value) (h : zH), zD 13 59 [l0, l1] [] h = some (none, h)) :=
  ⟨fun l1 x S h => zD_op (ins := .aload_n 0) (len := 1) (c := (1, [some (.ref x), l1], (.ref x :: S), h)) (by decide +kernel) rfl rfl rfl rfl,
  fun l0 l1 a r h hx => zD_getf (i := 49) (ci := 4) (k := 8) (q := (224, 0)) (by decide +kernel) (by decide +kernel) hx,
  fun l0 x S h => zD_op (ins := .iload_n 1) (len := 1) (c := (5, [l0, some (.int x)], (.int x :: S), h)) (by decide +kernel) rfl rfl rfl rfl,
  fun l0 l1 x y r h => zD_if (cnd := .ne) (off := 44) (by decide +kernel) (by decide) rfl,
  fun l1 x S h => zD_op (ins := .aload_n 0) (len := 1) (c := (9, [some (.ref x), l1], (.ref x :: S), h)) (by decide +kernel) rfl rfl rfl rfl,
  fun l0 l1 S h => zD_sip (n := 1000) (by decide +kernel) (by decide +kernel),
  fun l1 x S h => zD_op (ins := .aload_n 0) (len := 1) (c := (13, [some (.ref x), l1], (.ref x :: S), h)) (by decide +kernel) rfl rfl rfl rfl,
  fun l0 l1 a r h hx => zD_getf (i := 21) (ci := 4) (k := 4) (q := (220, 0)) (by decide +kernel) (by decide +kernel) hx,
  fun l0 l1 S h => zD_icst (n := 0) (by decide +kernel) (by decide +kernel),
  fun l0 l1 i a r h hx => zD_iald (by decide +kernel) hx,
  fun l0 l1 x y r h => zD_op (ins := .imul) (len := 1) (c := (19, [l0, l1], (.int (x * y) :: r), h)) (by decide +kernel) rfl rfl rfl rfl,
  fun l0 l1 S h => zD_bip (n := 100) (by decide +kernel) (by decide +kernel),
  fun l1 x S h => zD_op (ins := .aload_n 0) (len := 1) (c := (22, [some (.ref x), l1], (.ref x :: S), h)) (by decide +kernel) rfl rfl rfl rfl,
  fun l0 l1 a r h hx => zD_getf (i := 21) (ci := 4) (k := 4) (q := (220, 0)) (by decide +kernel) (by decide +kernel) hx,
  fun l0 l1 S h => zD_icst (n := 1) (by decide +kernel) (by decide +kernel),
  fun l0 l1 i a r h hx => zD_iald (by decide +kernel) hx,
  fun l0 l1 x y r h => zD_op (ins := .imul) (len := 1) (c := (28, [l0, l1], (.int (x * y) :: r), h)) (by decide +kernel) rfl rfl rfl rfl,
  fun l0 l1 x y r h => zD_op (ins := .iadd) (len := 1) (c := (29, [l0, l1], (.int (x + y) :: r), h)) (by decide +kernel) rfl rfl rfl rfl,
  fun l0 l1 S h => zD_bip (n := 10) (by decide +kernel) (by decide +kernel),
  fun l1 x S h => zD_op (ins := .aload_n 0) (len := 1) (c := (32, [some (.ref x), l1], (.ref x :: S), h)) (by decide +kernel) rfl rfl rfl rfl,
  fun l0 l1 a r h hx => zD_getf (i := 21) (ci := 4) (k := 4) (q := (220, 0)) (by decide +kernel) (by decide +kernel) hx,
  fun l0 l1 S h => zD_icst (n := 2) (by decide +kernel) (by decide +kernel),
  fun l0 l1 i a r h hx => zD_iald (by decide +kernel) hx,
  fun l0 l1 x y r h => zD_op (ins := .imul) (len := 1) (c := (38, [l0, l1], (.int (x * y) :: r), h)) (by decide +kernel) rfl rfl rfl rfl,
  fun l0 l1 x y r h => zD_op (ins := .iadd) (len := 1) (c := (39, [l0, l1], (.int (x + y) :: r), h)) (by decide +kernel) rfl rfl rfl rfl,
  fun l1 x S h => zD_op (ins := .aload_n 0) (len := 1) (c := (40, [some (.ref x), l1], (.ref x :: S), h)) (by decide +kernel) rfl rfl rfl rfl,
  fun l0 l1 a r h hx => zD_getf (i := 21) (ci := 4) (k := 4) (q := (220, 0)) (by decide +kernel) (by decide +kernel) hx,
  fun l0 l1 S h => zD_icst (n := 3) (by decide +kernel) (by decide +kernel),
  fun l0 l1 i a r h hx => zD_iald (by decide +kernel) hx,
  fun l0 l1 x y r h => zD_op (ins := .iadd) (len := 1) (c := (46, [l0, l1], (.int (x + y) :: r), h)) (by decide +kernel) rfl rfl rfl rfl,
  fun l0 l1 v a r h hx => zD_putf (i := 56) (ci := 4) (k := 9) (q := (225, 0)) (by decide +kernel) (by decide +kernel) (by decide +kernel) hx rfl rfl,
  fun l1 x S h => zD_op (ins := .aload_n 0) (len := 1) (c := (50, [some (.ref x), l1], (.ref x :: S), h)) (by decide +kernel) rfl rfl rfl rfl,
  fun l0 l1 x r h => zD_op (ins := .dup) (len := 1) (c := (51, [l0, l1], (.int x :: .int x :: r), h)) (by decide +kernel) rfl rfl rfl rfl,
  fun l0 l1 x r h => zD_op (ins := .dup) (len := 1) (c := (51, [l0, l1], (.ref x :: .ref x :: r), h)) (by decide +kernel) rfl rfl rfl rfl,
  fun l0 l1 a r h hx => zD_getf (i := 49) (ci := 4) (k := 8) (q := (224, 0)) (by decide +kernel) (by decide +kernel) hx,
  fun l0 l1 S h => zD_icst (n := 1) (by decide +kernel) (by decide +kernel),
  fun l0 l1 x y r h => zD_op (ins := .iadd) (len := 1) (c := (56, [l0, l1], (.int (x + y) :: r), h)) (by decide +kernel) rfl rfl rfl rfl,
  fun l0 l1 v a r h hx => zD_putf (i := 49) (ci := 4) (k := 8) (q := (224, 0)) (by decide +kernel) (by decide +kernel) (by decide +kernel) hx rfl rfl,
  fun l0 l1 h => zD_vret (by decide +kernel) rfl⟩
set_option maxRecDepth 100000 in
theorem I_X5_note : (∀ (a : Nat) (p0 : Int32) (h : zH), zC 13 [.ref a, .int p0] h = zD 13 0 [some (.ref a), some (.int p0)] [] h) :=
  fun a p0 h => zC_def rfl
set_option maxRecDepth 100000 in
theorem E_X5_isAskedOf : (∀ (l0 l1 l2 : Option Value) (S : List Value) (h : zH), zD 14 0 [l0, l1, l2] S h = zD 14 1 [l0, l1, l2] (.int (0 : Int32) :: S) h) ∧
  (∀ (l0 l1 l2 : Option Value) (x : Int32) (r : List Value) (h : zH), zD 14 1 [l0, l1, l2] (.int x :: r) h = zD 14 2 [l0, zclr l1, some (.int x)] r h) ∧
  (∀ (l1 l2 : Option Value) (x : Nat) (S : List Value) (h : zH), zD 14 3 [some (.ref x), l1, l2] S h = zD 14 4 [some (.ref x), l1, l2] (.ref x :: S) h) ∧
  (∀ (l0 l1 l2 : Option Value) (a : Nat) (r : List Value) (h : zH) (hx : zfok (h.2.2 a) 4 3 = true), zD 14 4 [l0, l1, l2] (.ref a :: r) h = zD 14 7 [l0, l1, l2] (zfv (h.2.2 a) 3 :: r) h) ∧
  (∀ (l0 l1 l2 : Option Value) (x y : Int32) (r : List Value) (h : zH), zD 14 7 [l0, l1, l2] (.int y :: .int x :: r) h = if y ≤ x then zD 14 48 [l0, l1, l2] r h else zD 14 10 [l0, l1, l2] r h) ∧
  (∀ (l1 l2 : Option Value) (x : Nat) (S : List Value) (h : zH), zD 14 10 [some (.ref x), l1, l2] S h = zD 14 11 [some (.ref x), l1, l2] (.ref x :: S) h) ∧
  (∀ (l0 l1 l2 : Option Value) (a : Nat) (r : List Value) (h : zH) (hx : zfok (h.2.2 a) 4 1 = true), zD 14 11 [l0, l1, l2] (.ref a :: r) h = zD 14 14 [l0, l1, l2] (zfv (h.2.2 a) 1 :: r) h) ∧
  (∀ (l0 l1 : Option Value) (x : Int32) (S : List Value) (h : zH), zD 14 14 [l0, l1, some (.int x)] S h = zD 14 15 [l0, l1, some (.int x)] (.int x :: S) h) ∧
  (∀ (l0 l1 l2 : Option Value) (i : Int32) (a : Nat) (r : List Value) (h : zH) (hx : ziok a (h.2.2 a) i = true), zD 14 15 [l0, l1, l2] (.int i :: .ref a :: r) h = zD 14 16 [l0, l1, l2] (.int (ziv (h.2.2 a) i) :: r) h) ∧
  (∀ (l0 l2 : Option Value) (x : Int32) (S : List Value) (h : zH), zD 14 16 [l0, some (.int x), l2] S h = zD 14 17 [l0, some (.int x), l2] (.int x :: S) h) ∧
  (∀ (l0 l1 l2 : Option Value) (x y : Int32) (r : List Value) (h : zH), zD 14 17 [l0, l1, l2] (.int y :: .int x :: r) h = if x = y then zD 14 40 [l0, l1, l2] r h else zD 14 20 [l0, l1, l2] r h) ∧
  (∀ (l1 l2 : Option Value) (x : Nat) (S : List Value) (h : zH), zD 14 20 [some (.ref x), l1, l2] S h = zD 14 21 [some (.ref x), l1, l2] (.ref x :: S) h) ∧
  (∀ (l0 l1 l2 : Option Value) (a : Nat) (r : List Value) (h : zH) (hx : zfok (h.2.2 a) 4 0 = true), zD 14 21 [l0, l1, l2] (.ref a :: r) h = zD 14 24 [l0, l1, l2] (zfv (h.2.2 a) 0 :: r) h) ∧
  (∀ (l0 l1 : Option Value) (x : Int32) (S : List Value) (h : zH), zD 14 24 [l0, l1, some (.int x)] S h = zD 14 25 [l0, l1, some (.int x)] (.int x :: S) h) ∧
  (∀ (l0 l1 l2 : Option Value) (i : Int32) (a : Nat) (r : List Value) (h : zH) (hx : ziok a (h.2.2 a) i = true), zD 14 25 [l0, l1, l2] (.int i :: .ref a :: r) h = zD 14 26 [l0, l1, l2] (.int (ziv (h.2.2 a) i) :: r) h) ∧
  (∀ (l0 l1 l2 : Option Value) (S : List Value) (h : zH), zD 14 26 [l0, l1, l2] S h = zD 14 27 [l0, l1, l2] (.int (3 : Int32) :: S) h) ∧
  (∀ (l0 l1 l2 : Option Value) (x y : Int32) (r : List Value) (h : zH), zD 14 27 [l0, l1, l2] (.int y :: .int x :: r) h = if x = y then zD 14 42 [l0, l1, l2] r h else zD 14 30 [l0, l1, l2] r h) ∧
  (∀ (l1 l2 : Option Value) (x : Nat) (S : List Value) (h : zH), zD 14 30 [some (.ref x), l1, l2] S h = zD 14 31 [some (.ref x), l1, l2] (.ref x :: S) h) ∧
  (∀ (l0 l1 l2 : Option Value) (a : Nat) (r : List Value) (h : zH) (hx : zfok (h.2.2 a) 4 2 = true), zD 14 31 [l0, l1, l2] (.ref a :: r) h = zD 14 34 [l0, l1, l2] (zfv (h.2.2 a) 2 :: r) h) ∧
  (∀ (l0 l1 : Option Value) (x : Int32) (S : List Value) (h : zH), zD 14 34 [l0, l1, some (.int x)] S h = zD 14 35 [l0, l1, some (.int x)] (.int x :: S) h) ∧
  (∀ (l0 l1 l2 : Option Value) (i : Int32) (a : Nat) (r : List Value) (h : zH) (hx : ziok a (h.2.2 a) i = true), zD 14 35 [l0, l1, l2] (.int i :: .ref a :: r) h = zD 14 36 [l0, l1, l2] (.int (ziv (h.2.2 a) i) :: r) h) ∧
  (∀ (l0 l2 : Option Value) (x : Int32) (S : List Value) (h : zH), zD 14 36 [l0, some (.int x), l2] S h = zD 14 37 [l0, some (.int x), l2] (.int x :: S) h) ∧
  (∀ (l0 l1 l2 : Option Value) (x y : Int32) (r : List Value) (h : zH), zD 14 37 [l0, l1, l2] (.int y :: .int x :: r) h = if ¬ x = y then zD 14 42 [l0, l1, l2] r h else zD 14 40 [l0, l1, l2] r h) ∧
  (∀ (l0 l1 l2 : Option Value) (S : List Value) (h : zH), zD 14 40 [l0, l1, l2] S h = zD 14 41 [l0, l1, l2] (.int (1 : Int32) :: S) h) ∧
  (∀ (l0 l1 l2 : Option Value) (v : Int32) (h : zH) (hv : zbv v), zD 14 41 [l0, l1, l2] [.int v] h = some (some (.int v), h)) ∧
  (∀ (l0 l1 : Option Value) (x : Int32) (S : List Value) (h : zH), zD 14 42 [l0, l1, some (.int x)] S h = zD 14 45 [l0, zclr l1, some (.int (x + (1 : Int32)))] S h) ∧
  (∀ (l0 l1 l2 : Option Value) (S : List Value) (h : zH), zD 14 45 [l0, l1, l2] S h = zD 14 2 [l0, l1, l2] S h) ∧
  (∀ (l0 l1 l2 : Option Value) (S : List Value) (h : zH), zD 14 48 [l0, l1, l2] S h = zD 14 49 [l0, l1, l2] (.int (0 : Int32) :: S) h) ∧
  (∀ (l0 l1 l2 : Option Value) (v : Int32) (h : zH) (hv : zbv v), zD 14 49 [l0, l1, l2] [.int v] h = some (some (.int v), h)) :=
  ⟨fun l0 l1 l2 S h => zD_icst (n := 0) (by decide +kernel) (by decide +kernel),
  fun l0 l1 l2 x r h => zD_st1 (k := 2) (ins := .istore_n 2) (len := 1) (by decide +kernel) rfl rfl rfl (by decide +kernel) rfl rfl,
  fun l1 l2 x S h => zD_op (ins := .aload_n 0) (len := 1) (c := (4, [some (.ref x), l1, l2], (.ref x :: S), h)) (by decide +kernel) rfl rfl rfl rfl,
  fun l0 l1 l2 a r h hx => zD_getf (i := 33) (ci := 4) (k := 3) (q := (218, 0)) (by decide +kernel) (by decide +kernel) hx,
  fun l0 l1 l2 x y r h => zD_if (cnd := .ge) (off := 41) (by decide +kernel) (by decide) rfl,
  fun l1 l2 x S h => zD_op (ins := .aload_n 0) (len := 1) (c := (11, [some (.ref x), l1, l2], (.ref x :: S), h)) (by decide +kernel) rfl rfl rfl rfl,
  fun l0 l1 l2 a r h hx => zD_getf (i := 15) (ci := 4) (k := 1) (q := (214, 0)) (by decide +kernel) (by decide +kernel) hx,
  fun l0 l1 x S h => zD_op (ins := .iload_n 2) (len := 1) (c := (15, [l0, l1, some (.int x)], (.int x :: S), h)) (by decide +kernel) rfl rfl rfl rfl,
  fun l0 l1 l2 i a r h hx => zD_iald (by decide +kernel) hx,
  fun l0 l2 x S h => zD_op (ins := .iload_n 1) (len := 1) (c := (17, [l0, some (.int x), l2], (.int x :: S), h)) (by decide +kernel) rfl rfl rfl rfl,
  fun l0 l1 l2 x y r h => zD_if (cnd := .eq) (off := 23) (by decide +kernel) (by decide) rfl,
  fun l1 l2 x S h => zD_op (ins := .aload_n 0) (len := 1) (c := (21, [some (.ref x), l1, l2], (.ref x :: S), h)) (by decide +kernel) rfl rfl rfl rfl,
  fun l0 l1 l2 a r h hx => zD_getf (i := 9) (ci := 4) (k := 0) (q := (212, 0)) (by decide +kernel) (by decide +kernel) hx,
  fun l0 l1 x S h => zD_op (ins := .iload_n 2) (len := 1) (c := (25, [l0, l1, some (.int x)], (.int x :: S), h)) (by decide +kernel) rfl rfl rfl rfl,
  fun l0 l1 l2 i a r h hx => zD_iald (by decide +kernel) hx,
  fun l0 l1 l2 S h => zD_icst (n := 3) (by decide +kernel) (by decide +kernel),
  fun l0 l1 l2 x y r h => zD_if (cnd := .eq) (off := 15) (by decide +kernel) (by decide) rfl,
  fun l1 l2 x S h => zD_op (ins := .aload_n 0) (len := 1) (c := (31, [some (.ref x), l1, l2], (.ref x :: S), h)) (by decide +kernel) rfl rfl rfl rfl,
  fun l0 l1 l2 a r h hx => zD_getf (i := 18) (ci := 4) (k := 2) (q := (216, 0)) (by decide +kernel) (by decide +kernel) hx,
  fun l0 l1 x S h => zD_op (ins := .iload_n 2) (len := 1) (c := (35, [l0, l1, some (.int x)], (.int x :: S), h)) (by decide +kernel) rfl rfl rfl rfl,
  fun l0 l1 l2 i a r h hx => zD_iald (by decide +kernel) hx,
  fun l0 l2 x S h => zD_op (ins := .iload_n 1) (len := 1) (c := (37, [l0, some (.int x), l2], (.int x :: S), h)) (by decide +kernel) rfl rfl rfl rfl,
  fun l0 l1 l2 x y r h => zD_if (cnd := .ne) (off := 5) (by decide +kernel) (by decide) rfl,
  fun l0 l1 l2 S h => zD_icst (n := 1) (by decide +kernel) (by decide +kernel),
  fun l0 l1 l2 v h hv => zD_iretz (by decide +kernel) rfl hv,
  fun l0 l1 x S h => zD_iinc (k := 2) (x := x) (c := (1 : Int32)) (n := 1) (by decide +kernel) (by decide +kernel) rfl (by decide +kernel) rfl,
  fun l0 l1 l2 S h => zD_goto (off := (-43)) (by decide +kernel) (by decide),
  fun l0 l1 l2 S h => zD_icst (n := 0) (by decide +kernel) (by decide +kernel),
  fun l0 l1 l2 v h hv => zD_iretz (by decide +kernel) rfl hv⟩
set_option maxRecDepth 100000 in
theorem E_X5_isAskedOf_h2 : (∀ (l0 l1 : Option Value) (x : Int32) (S : List Value) (h : zH), zD 14 2 [l0, l1, some (.int x)] S h = zD 14 3 [l0, l1, some (.int x)] (.int x :: S) h) :=
  fun l0 l1 x S h => zD_op (ins := .iload_n 2) (len := 1) (c := (3, [l0, l1, some (.int x)], (.int x :: S), h)) (by decide +kernel) rfl rfl rfl rfl
set_option maxRecDepth 100000 in
theorem I_X5_isAskedOf : (∀ (a : Nat) (p0 : Int32) (h : zH), zC 14 [.ref a, .int p0] h = zD 14 0 [some (.ref a), some (.int p0), none] [] h) :=
  fun a p0 h => zC_def rfl
set_option maxRecDepth 100000 in
theorem E_X5_holds : (∀ (l1 l2 l3 l4 : Option Value) (x : Nat) (S : List Value) (h : zH), zD 15 0 [some (.ref x), l1, l2, l3, l4] S h = zD 15 1 [some (.ref x), l1, l2, l3, l4] (.ref x :: S) h) ∧
  (∀ (l0 l1 l2 l3 l4 : Option Value) (a : Nat) (r : List Value) (h : zH) (hx : zfok (h.2.2 a) 4 4 = true), zD 15 1 [l0, l1, l2, l3, l4] (.ref a :: r) h = zD 15 4 [l0, l1, l2, l3, l4] (zfv (h.2.2 a) 4 :: r) h) ∧
  (∀ (l1 l2 l3 l4 : Option Value) (x : Nat) (S : List Value) (h : zH), zD 15 4 [some (.ref x), l1, l2, l3, l4] S h = zD 15 5 [some (.ref x), l1, l2, l3, l4] (.ref x :: S) h) ∧
  (∀ (l0 l1 l2 l3 l4 : Option Value) (a : Nat) (r : List Value) (h : zH) (hx : zfok (h.2.2 a) 4 1 = true), zD 15 5 [l0, l1, l2, l3, l4] (.ref a :: r) h = zD 15 8 [l0, l1, l2, l3, l4] (zfv (h.2.2 a) 1 :: r) h) ∧
  (∀ (l0 l1 l3 l4 : Option Value) (x : Int32) (S : List Value) (h : zH), zD 15 8 [l0, l1, some (.int x), l3, l4] S h = zD 15 9 [l0, l1, some (.int x), l3, l4] (.int x :: S) h) ∧
  (∀ (l0 l1 l2 l3 l4 : Option Value) (i : Int32) (a : Nat) (r : List Value) (h : zH) (hx : ziok a (h.2.2 a) i = true), zD 15 9 [l0, l1, l2, l3, l4] (.int i :: .ref a :: r) h = zD 15 10 [l0, l1, l2, l3, l4] (.int (ziv (h.2.2 a) i) :: r) h) ∧
  (∀ (l0 l1 l2 l3 l4 : Option Value) (i : Int32) (a : Nat) (r : List Value) (h : zH) (hx : ziok a (h.2.2 a) i = true), zD 15 10 [l0, l1, l2, l3, l4] (.int i :: .ref a :: r) h = zD 15 11 [l0, l1, l2, l3, l4] (.int (ziv (h.2.2 a) i) :: r) h) ∧
  (∀ (l0 l1 l2 l3 l4 : Option Value) (x : Int32) (r : List Value) (h : zH), zD 15 11 [l0, l1, l2, l3, l4] (.int x :: r) h = zD 15 12 [l0, l1, zclr l2, some (.int x), l4] r h) ∧
  (∀ (l1 l2 l3 l4 : Option Value) (x : Nat) (S : List Value) (h : zH), zD 15 12 [some (.ref x), l1, l2, l3, l4] S h = zD 15 13 [some (.ref x), l1, l2, l3, l4] (.ref x :: S) h) ∧
  (∀ (l0 l1 l2 l3 l4 : Option Value) (a : Nat) (r : List Value) (h : zH) (hx : zfok (h.2.2 a) 4 0 = true), zD 15 13 [l0, l1, l2, l3, l4] (.ref a :: r) h = zD 15 16 [l0, l1, l2, l3, l4] (zfv (h.2.2 a) 0 :: r) h) ∧
  (∀ (l0 l1 l3 l4 : Option Value) (x : Int32) (S : List Value) (h : zH), zD 15 16 [l0, l1, some (.int x), l3, l4] S h = zD 15 17 [l0, l1, some (.int x), l3, l4] (.int x :: S) h) ∧
  (∀ (l0 l1 l2 l3 l4 : Option Value) (i : Int32) (a : Nat) (r : List Value) (h : zH) (hx : ziok a (h.2.2 a) i = true), zD 15 17 [l0, l1, l2, l3, l4] (.int i :: .ref a :: r) h = zD 15 18 [l0, l1, l2, l3, l4] (.int (ziv (h.2.2 a) i) :: r) h) ∧
  (∀ (l0 l1 l2 l3 l4 : Option Value) (S : List Value) (h : zH), zD 15 18 [l0, l1, l2, l3, l4] S h = zD 15 19 [l0, l1, l2, l3, l4] (.int (3 : Int32) :: S) h) ∧
  (∀ (l0 l1 l2 l3 l4 : Option Value) (x y : Int32) (r : List Value) (h : zH), zD 15 19 [l0, l1, l2, l3, l4] (.int y :: .int x :: r) h = if ¬ x = y then zD 15 43 [l0, l1, l2, l3, l4] r h else zD 15 22 [l0, l1, l2, l3, l4] r h) ∧
  (∀ (l0 l2 l3 l4 : Option Value) (x : Nat) (S : List Value) (h : zH), zD 15 22 [l0, some (.ref x), l2, l3, l4] S h = zD 15 23 [l0, some (.ref x), l2, l3, l4] (.ref x :: S) h) ∧
  (∀ (l0 l2 l3 l4 : Option Value) (S : List Value) (h : zH), zD 15 22 [l0, some .null, l2, l3, l4] S h = zD 15 23 [l0, some .null, l2, l3, l4] (.null :: S) h) ∧
  (∀ (l0 l1 l2 l3 l4 : Option Value) (a : Nat) (r : List Value) (h : zH) (hx : zfok (h.2.2 a) 3 0 = true), zD 15 23 [l0, l1, l2, l3, l4] (.ref a :: r) h = zD 15 26 [l0, l1, l2, l3, l4] (zfv (h.2.2 a) 0 :: r) h) ∧
  (∀ (l0 l1 l2 l4 : Option Value) (x : Int32) (S : List Value) (h : zH), zD 15 26 [l0, l1, l2, some (.int x), l4] S h = zD 15 27 [l0, l1, l2, some (.int x), l4] (.int x :: S) h) ∧
  (∀ (l0 l1 l2 l3 l4 : Option Value) (i : Int32) (a : Nat) (r : List Value) (h : zH) (hx : ziok a (h.2.2 a) i = true), zD 15 27 [l0, l1, l2, l3, l4] (.int i :: .ref a :: r) h = zD 15 28 [l0, l1, l2, l3, l4] (.int (ziv (h.2.2 a) i) :: r) h) ∧
  (∀ (l1 l2 l3 l4 : Option Value) (x : Nat) (S : List Value) (h : zH), zD 15 28 [some (.ref x), l1, l2, l3, l4] S h = zD 15 29 [some (.ref x), l1, l2, l3, l4] (.ref x :: S) h) ∧
  (∀ (l0 l1 l2 l3 l4 : Option Value) (a : Nat) (r : List Value) (h : zH) (hx : zfok (h.2.2 a) 4 2 = true), zD 15 29 [l0, l1, l2, l3, l4] (.ref a :: r) h = zD 15 32 [l0, l1, l2, l3, l4] (zfv (h.2.2 a) 2 :: r) h) ∧
  (∀ (l0 l1 l3 l4 : Option Value) (x : Int32) (S : List Value) (h : zH), zD 15 32 [l0, l1, some (.int x), l3, l4] S h = zD 15 33 [l0, l1, some (.int x), l3, l4] (.int x :: S) h) ∧
  (∀ (l0 l1 l2 l3 l4 : Option Value) (i : Int32) (a : Nat) (r : List Value) (h : zH) (hx : ziok a (h.2.2 a) i = true), zD 15 33 [l0, l1, l2, l3, l4] (.int i :: .ref a :: r) h = zD 15 34 [l0, l1, l2, l3, l4] (.int (ziv (h.2.2 a) i) :: r) h) ∧
  (∀ (l0 l1 l2 l3 l4 : Option Value) (x y : Int32) (r : List Value) (h : zH), zD 15 34 [l0, l1, l2, l3, l4] (.int y :: .int x :: r) h = if ¬ x = y then zD 15 41 [l0, l1, l2, l3, l4] r h else zD 15 37 [l0, l1, l2, l3, l4] r h) ∧
  (∀ (l0 l1 l2 l3 l4 : Option Value) (S : List Value) (h : zH), zD 15 37 [l0, l1, l2, l3, l4] S h = zD 15 38 [l0, l1, l2, l3, l4] (.int (1 : Int32) :: S) h) ∧
  (∀ (l0 l1 l2 l3 l4 : Option Value) (S : List Value) (h : zH), zD 15 38 [l0, l1, l2, l3, l4] S h = zD 15 42 [l0, l1, l2, l3, l4] S h) ∧
  (∀ (l0 l1 l2 l3 l4 : Option Value) (S : List Value) (h : zH), zD 15 41 [l0, l1, l2, l3, l4] S h = zD 15 42 [l0, l1, l2, l3, l4] (.int (0 : Int32) :: S) h) ∧
  (∀ (l0 l1 l2 l3 l4 : Option Value) (v : Int32) (h : zH) (hv : zbv v), zD 15 42 [l0, l1, l2, l3, l4] [.int v] h = some (some (.int v), h)) ∧
  (∀ (l1 l2 l3 l4 : Option Value) (x : Nat) (S : List Value) (h : zH), zD 15 43 [some (.ref x), l1, l2, l3, l4] S h = zD 15 44 [some (.ref x), l1, l2, l3, l4] (.ref x :: S) h) ∧
  (∀ (l0 l1 l2 l3 l4 : Option Value) (a : Nat) (r : List Value) (h : zH) (hx : zfok (h.2.2 a) 4 4 = true), zD 15 44 [l0, l1, l2, l3, l4] (.ref a :: r) h = zD 15 47 [l0, l1, l2, l3, l4] (zfv (h.2.2 a) 4 :: r) h) ∧
  (∀ (l1 l2 l3 l4 : Option Value) (x : Nat) (S : List Value) (h : zH), zD 15 47 [some (.ref x), l1, l2, l3, l4] S h = zD 15 48 [some (.ref x), l1, l2, l3, l4] (.ref x :: S) h) ∧
  (∀ (l0 l1 l2 l3 l4 : Option Value) (a : Nat) (r : List Value) (h : zH) (hx : zfok (h.2.2 a) 4 2 = true), zD 15 48 [l0, l1, l2, l3, l4] (.ref a :: r) h = zD 15 51 [l0, l1, l2, l3, l4] (zfv (h.2.2 a) 2 :: r) h) ∧
  (∀ (l0 l1 l3 l4 : Option Value) (x : Int32) (S : List Value) (h : zH), zD 15 51 [l0, l1, some (.int x), l3, l4] S h = zD 15 52 [l0, l1, some (.int x), l3, l4] (.int x :: S) h) ∧
  (∀ (l0 l1 l2 l3 l4 : Option Value) (i : Int32) (a : Nat) (r : List Value) (h : zH) (hx : ziok a (h.2.2 a) i = true), zD 15 52 [l0, l1, l2, l3, l4] (.int i :: .ref a :: r) h = zD 15 53 [l0, l1, l2, l3, l4] (.int (ziv (h.2.2 a) i) :: r) h) ∧
  (∀ (l0 l1 l2 l3 l4 : Option Value) (i : Int32) (a : Nat) (r : List Value) (h : zH) (hx : ziok a (h.2.2 a) i = true), zD 15 53 [l0, l1, l2, l3, l4] (.int i :: .ref a :: r) h = zD 15 54 [l0, l1, l2, l3, l4] (.int (ziv (h.2.2 a) i) :: r) h) ∧
  (∀ (l0 l1 l2 l3 l4 : Option Value) (x : Int32) (r : List Value) (h : zH), zD 15 54 [l0, l1, l2, l3, l4] (.int x :: r) h = zD 15 56 [l0, l1, l2, zclr l3, some (.int x)] r h) ∧
  (∀ (l1 l2 l3 l4 : Option Value) (x : Nat) (S : List Value) (h : zH), zD 15 56 [some (.ref x), l1, l2, l3, l4] S h = zD 15 57 [some (.ref x), l1, l2, l3, l4] (.ref x :: S) h) ∧
  (∀ (l0 l1 l2 l3 l4 : Option Value) (a : Nat) (r : List Value) (h : zH) (hx : zfok (h.2.2 a) 4 0 = true), zD 15 57 [l0, l1, l2, l3, l4] (.ref a :: r) h = zD 15 60 [l0, l1, l2, l3, l4] (zfv (h.2.2 a) 0 :: r) h) ∧
  (∀ (l0 l1 l3 l4 : Option Value) (x : Int32) (S : List Value) (h : zH), zD 15 60 [l0, l1, some (.int x), l3, l4] S h = zD 15 61 [l0, l1, some (.int x), l3, l4] (.int x :: S) h) ∧
  (∀ (l0 l1 l2 l3 l4 : Option Value) (i : Int32) (a : Nat) (r : List Value) (h : zH) (hx : ziok a (h.2.2 a) i = true), zD 15 61 [l0, l1, l2, l3, l4] (.int i :: .ref a :: r) h = zD 15 62 [l0, l1, l2, l3, l4] (.int (ziv (h.2.2 a) i) :: r) h) ∧
  (∀ (l0 l1 l2 l3 l4 : Option Value) (x : Int32) (t : Nat) (r : List Value) (h : zH) (hx : ztab 62 75 0 2 #[26, 46, 63] x [l0, l1, l2, l3, l4] r h = some (t, [l0, l1, l2, l3, l4], r, h)), zD 15 62 [l0, l1, l2, l3, l4] (.int x :: r) h = zD 15 t [l0, l1, l2, l3, l4] r h) ∧
  (∀ (l1 l2 l3 l4 : Option Value) (x : Nat) (S : List Value) (h : zH), zD 15 88 [some (.ref x), l1, l2, l3, l4] S h = zD 15 89 [some (.ref x), l1, l2, l3, l4] (.ref x :: S) h) ∧
  (∀ (l0 l1 l2 l3 l4 : Option Value) (a : Nat) (r : List Value) (h : zH) (hx : zfok (h.2.2 a) 4 7 = true), zD 15 89 [l0, l1, l2, l3, l4] (.ref a :: r) h = zD 15 92 [l0, l1, l2, l3, l4] (zfv (h.2.2 a) 7 :: r) h) ∧
  (∀ (l0 l1 l2 l3 : Option Value) (x : Int32) (S : List Value) (h : zH), zD 15 92 [l0, l1, l2, l3, some (.int x)] S h = zD 15 94 [l0, l1, l2, l3, some (.int x)] (.int x :: S) h) ∧
  (∀ (l0 l1 l2 l3 l4 : Option Value) (i : Int32) (a : Nat) (r : List Value) (h : zH) (hx : ziok a (h.2.2 a) i = true), zD 15 94 [l0, l1, l2, l3, l4] (.int i :: .ref a :: r) h = zD 15 95 [l0, l1, l2, l3, l4] (.int (ziv (h.2.2 a) i) :: r) h) ∧
  (∀ (l0 l1 l2 l4 : Option Value) (x : Int32) (S : List Value) (h : zH), zD 15 95 [l0, l1, l2, some (.int x), l4] S h = zD 15 96 [l0, l1, l2, some (.int x), l4] (.int x :: S) h) ∧
  (∀ (l0 l1 l2 l3 l4 : Option Value) (x y : Int32) (r : List Value) (h : zH), zD 15 96 [l0, l1, l2, l3, l4] (.int y :: .int x :: r) h = zD 15 97 [l0, l1, l2, l3, l4] (.int (x >>> (y &&& 31)) :: r) h) ∧
  (∀ (l0 l1 l2 l3 l4 : Option Value) (S : List Value) (h : zH), zD 15 97 [l0, l1, l2, l3, l4] S h = zD 15 98 [l0, l1, l2, l3, l4] (.int (1 : Int32) :: S) h) ∧
  (∀ (l0 l1 l2 l3 l4 : Option Value) (x y : Int32) (r : List Value) (h : zH), zD 15 98 [l0, l1, l2, l3, l4] (.int y :: .int x :: r) h = zD 15 99 [l0, l1, l2, l3, l4] (.int (x &&& y) :: r) h) ∧
  (∀ (l0 l1 l2 l3 l4 : Option Value) (x : Int32) (r : List Value) (h : zH), zD 15 99 [l0, l1, l2, l3, l4] (.int x :: r) h = if x = 0 then zD 15 106 [l0, l1, l2, l3, l4] r h else zD 15 102 [l0, l1, l2, l3, l4] r h) ∧
  (∀ (l0 l1 l2 l3 l4 : Option Value) (S : List Value) (h : zH), zD 15 102 [l0, l1, l2, l3, l4] S h = zD 15 103 [l0, l1, l2, l3, l4] (.int (1 : Int32) :: S) h) ∧
  (∀ (l0 l1 l2 l3 l4 : Option Value) (S : List Value) (h : zH), zD 15 103 [l0, l1, l2, l3, l4] S h = zD 15 107 [l0, l1, l2, l3, l4] S h) ∧
  (∀ (l0 l1 l2 l3 l4 : Option Value) (S : List Value) (h : zH), zD 15 106 [l0, l1, l2, l3, l4] S h = zD 15 107 [l0, l1, l2, l3, l4] (.int (0 : Int32) :: S) h) ∧
  (∀ (l0 l1 l2 l3 l4 : Option Value) (v : Int32) (h : zH) (hv : zbv v), zD 15 107 [l0, l1, l2, l3, l4] [.int v] h = some (some (.int v), h)) ∧
  (∀ (l0 l2 l3 l4 : Option Value) (x : Nat) (S : List Value) (h : zH), zD 15 108 [l0, some (.ref x), l2, l3, l4] S h = zD 15 109 [l0, some (.ref x), l2, l3, l4] (.ref x :: S) h) ∧
  (∀ (l0 l2 l3 l4 : Option Value) (S : List Value) (h : zH), zD 15 108 [l0, some .null, l2, l3, l4] S h = zD 15 109 [l0, some .null, l2, l3, l4] (.null :: S) h) ∧
  (∀ (l0 l1 l2 l3 l4 : Option Value) (a : Nat) (r : List Value) (h : zH) (hx : zfok (h.2.2 a) 3 1 = true), zD 15 109 [l0, l1, l2, l3, l4] (.ref a :: r) h = zD 15 112 [l0, l1, l2, l3, l4] (zfv (h.2.2 a) 1 :: r) h) ∧
  (∀ (l0 l1 l2 l3 : Option Value) (x : Int32) (S : List Value) (h : zH), zD 15 112 [l0, l1, l2, l3, some (.int x)] S h = zD 15 114 [l0, l1, l2, l3, some (.int x)] (.int x :: S) h) ∧
  (∀ (l0 l1 l2 l3 l4 : Option Value) (i : Int32) (a : Nat) (r : List Value) (h : zH) (hx : ziok a (h.2.2 a) i = true), zD 15 114 [l0, l1, l2, l3, l4] (.int i :: .ref a :: r) h = zD 15 115 [l0, l1, l2, l3, l4] (.int (ziv (h.2.2 a) i) :: r) h) ∧
  (∀ (l0 l1 l2 l4 : Option Value) (x : Int32) (S : List Value) (h : zH), zD 15 115 [l0, l1, l2, some (.int x), l4] S h = zD 15 116 [l0, l1, l2, some (.int x), l4] (.int x :: S) h) ∧
  (∀ (l0 l1 l2 l3 l4 : Option Value) (x y : Int32) (r : List Value) (h : zH), zD 15 116 [l0, l1, l2, l3, l4] (.int y :: .int x :: r) h = if ¬ x = y then zD 15 123 [l0, l1, l2, l3, l4] r h else zD 15 119 [l0, l1, l2, l3, l4] r h) ∧
  (∀ (l0 l1 l2 l3 l4 : Option Value) (S : List Value) (h : zH), zD 15 119 [l0, l1, l2, l3, l4] S h = zD 15 120 [l0, l1, l2, l3, l4] (.int (1 : Int32) :: S) h) ∧
  (∀ (l0 l1 l2 l3 l4 : Option Value) (S : List Value) (h : zH), zD 15 120 [l0, l1, l2, l3, l4] S h = zD 15 124 [l0, l1, l2, l3, l4] S h) ∧
  (∀ (l0 l1 l2 l3 l4 : Option Value) (S : List Value) (h : zH), zD 15 123 [l0, l1, l2, l3, l4] S h = zD 15 124 [l0, l1, l2, l3, l4] (.int (0 : Int32) :: S) h) ∧
  (∀ (l0 l1 l2 l3 l4 : Option Value) (v : Int32) (h : zH) (hv : zbv v), zD 15 124 [l0, l1, l2, l3, l4] [.int v] h = some (some (.int v), h)) ∧
  (∀ (l0 l1 l2 l4 : Option Value) (x : Int32) (S : List Value) (h : zH), zD 15 125 [l0, l1, l2, some (.int x), l4] S h = zD 15 126 [l0, l1, l2, some (.int x), l4] (.int x :: S) h) ∧
  (∀ (l0 l1 l2 l3 : Option Value) (x : Int32) (S : List Value) (h : zH), zD 15 126 [l0, l1, l2, l3, some (.int x)] S h = zD 15 128 [l0, l1, l2, l3, some (.int x)] (.int x :: S) h) ∧
  (∀ (l0 l1 l2 l3 l4 : Option Value) (x y : Int32) (r : List Value) (h : zH), zD 15 128 [l0, l1, l2, l3, l4] (.int y :: .int x :: r) h = if y ≤ x then zD 15 135 [l0, l1, l2, l3, l4] r h else zD 15 131 [l0, l1, l2, l3, l4] r h) ∧
  (∀ (l0 l1 l2 l3 l4 : Option Value) (S : List Value) (h : zH), zD 15 131 [l0, l1, l2, l3, l4] S h = zD 15 132 [l0, l1, l2, l3, l4] (.int (1 : Int32) :: S) h) ∧
  (∀ (l0 l1 l2 l3 l4 : Option Value) (S : List Value) (h : zH), zD 15 132 [l0, l1, l2, l3, l4] S h = zD 15 136 [l0, l1, l2, l3, l4] S h) ∧
  (∀ (l0 l1 l2 l3 l4 : Option Value) (S : List Value) (h : zH), zD 15 135 [l0, l1, l2, l3, l4] S h = zD 15 136 [l0, l1, l2, l3, l4] (.int (0 : Int32) :: S) h) ∧
  (∀ (l0 l1 l2 l3 l4 : Option Value) (v : Int32) (h : zH) (hv : zbv v), zD 15 136 [l0, l1, l2, l3, l4] [.int v] h = some (some (.int v), h)) ∧
  (∀ (l0 l1 l2 l4 : Option Value) (x : Int32) (S : List Value) (h : zH), zD 15 137 [l0, l1, l2, some (.int x), l4] S h = zD 15 138 [l0, l1, l2, some (.int x), l4] (.int x :: S) h) ∧
  (∀ (l0 l1 l2 l3 : Option Value) (x : Int32) (S : List Value) (h : zH), zD 15 138 [l0, l1, l2, l3, some (.int x)] S h = zD 15 140 [l0, l1, l2, l3, some (.int x)] (.int x :: S) h) ∧
  (∀ (l0 l1 l2 l3 l4 : Option Value) (x y : Int32) (r : List Value) (h : zH), zD 15 140 [l0, l1, l2, l3, l4] (.int y :: .int x :: r) h = if x = y then zD 15 147 [l0, l1, l2, l3, l4] r h else zD 15 143 [l0, l1, l2, l3, l4] r h) ∧
  (∀ (l0 l1 l2 l3 l4 : Option Value) (S : List Value) (h : zH), zD 15 143 [l0, l1, l2, l3, l4] S h = zD 15 144 [l0, l1, l2, l3, l4] (.int (1 : Int32) :: S) h) ∧
  (∀ (l0 l1 l2 l3 l4 : Option Value) (S : List Value) (h : zH), zD 15 144 [l0, l1, l2, l3, l4] S h = zD 15 148 [l0, l1, l2, l3, l4] S h) ∧
  (∀ (l0 l1 l2 l3 l4 : Option Value) (S : List Value) (h : zH), zD 15 147 [l0, l1, l2, l3, l4] S h = zD 15 148 [l0, l1, l2, l3, l4] (.int (0 : Int32) :: S) h) ∧
  (∀ (l0 l1 l2 l3 l4 : Option Value) (v : Int32) (h : zH) (hv : zbv v), zD 15 148 [l0, l1, l2, l3, l4] [.int v] h = some (some (.int v), h)) :=
  ⟨fun l1 l2 l3 l4 x S h => zD_op (ins := .aload_n 0) (len := 1) (c := (1, [some (.ref x), l1, l2, l3, l4], (.ref x :: S), h)) (by decide +kernel) rfl rfl rfl rfl,
  fun l0 l1 l2 l3 l4 a r h hx => zD_getf (i := 21) (ci := 4) (k := 4) (q := (220, 0)) (by decide +kernel) (by decide +kernel) hx,
  fun l1 l2 l3 l4 x S h => zD_op (ins := .aload_n 0) (len := 1) (c := (5, [some (.ref x), l1, l2, l3, l4], (.ref x :: S), h)) (by decide +kernel) rfl rfl rfl rfl,
  fun l0 l1 l2 l3 l4 a r h hx => zD_getf (i := 15) (ci := 4) (k := 1) (q := (214, 0)) (by decide +kernel) (by decide +kernel) hx,
  fun l0 l1 l3 l4 x S h => zD_op (ins := .iload_n 2) (len := 1) (c := (9, [l0, l1, some (.int x), l3, l4], (.int x :: S), h)) (by decide +kernel) rfl rfl rfl rfl,
  fun l0 l1 l2 l3 l4 i a r h hx => zD_iald (by decide +kernel) hx,
  fun l0 l1 l2 l3 l4 i a r h hx => zD_iald (by decide +kernel) hx,
  fun l0 l1 l2 l3 l4 x r h => zD_st1 (k := 3) (ins := .istore_n 3) (len := 1) (by decide +kernel) rfl rfl rfl (by decide +kernel) rfl rfl,
  fun l1 l2 l3 l4 x S h => zD_op (ins := .aload_n 0) (len := 1) (c := (13, [some (.ref x), l1, l2, l3, l4], (.ref x :: S), h)) (by decide +kernel) rfl rfl rfl rfl,
  fun l0 l1 l2 l3 l4 a r h hx => zD_getf (i := 9) (ci := 4) (k := 0) (q := (212, 0)) (by decide +kernel) (by decide +kernel) hx,
  fun l0 l1 l3 l4 x S h => zD_op (ins := .iload_n 2) (len := 1) (c := (17, [l0, l1, some (.int x), l3, l4], (.int x :: S), h)) (by decide +kernel) rfl rfl rfl rfl,
  fun l0 l1 l2 l3 l4 i a r h hx => zD_iald (by decide +kernel) hx,
  fun l0 l1 l2 l3 l4 S h => zD_icst (n := 3) (by decide +kernel) (by decide +kernel),
  fun l0 l1 l2 l3 l4 x y r h => zD_if (cnd := .ne) (off := 24) (by decide +kernel) (by decide) rfl,
  fun l0 l2 l3 l4 x S h => zD_op (ins := .aload_n 1) (len := 1) (c := (23, [l0, some (.ref x), l2, l3, l4], (.ref x :: S), h)) (by decide +kernel) rfl rfl rfl rfl,
  fun l0 l2 l3 l4 S h => zD_op (ins := .aload_n 1) (len := 1) (c := (23, [l0, some .null, l2, l3, l4], (.null :: S), h)) (by decide +kernel) rfl rfl rfl rfl,
  fun l0 l1 l2 l3 l4 a r h hx => zD_getf (i := 83) (ci := 3) (k := 0) (q := (80, 1)) (by decide +kernel) (by decide +kernel) hx,
  fun l0 l1 l2 l4 x S h => zD_op (ins := .iload_n 3) (len := 1) (c := (27, [l0, l1, l2, some (.int x), l4], (.int x :: S), h)) (by decide +kernel) rfl rfl rfl rfl,
  fun l0 l1 l2 l3 l4 i a r h hx => zD_iald (by decide +kernel) hx,
  fun l1 l2 l3 l4 x S h => zD_op (ins := .aload_n 0) (len := 1) (c := (29, [some (.ref x), l1, l2, l3, l4], (.ref x :: S), h)) (by decide +kernel) rfl rfl rfl rfl,
  fun l0 l1 l2 l3 l4 a r h hx => zD_getf (i := 18) (ci := 4) (k := 2) (q := (216, 0)) (by decide +kernel) (by decide +kernel) hx,
  fun l0 l1 l3 l4 x S h => zD_op (ins := .iload_n 2) (len := 1) (c := (33, [l0, l1, some (.int x), l3, l4], (.int x :: S), h)) (by decide +kernel) rfl rfl rfl rfl,
  fun l0 l1 l2 l3 l4 i a r h hx => zD_iald (by decide +kernel) hx,
  fun l0 l1 l2 l3 l4 x y r h => zD_if (cnd := .ne) (off := 7) (by decide +kernel) (by decide) rfl,
  fun l0 l1 l2 l3 l4 S h => zD_icst (n := 1) (by decide +kernel) (by decide +kernel),
  fun l0 l1 l2 l3 l4 S h => zD_goto (off := 4) (by decide +kernel) (by decide),
  fun l0 l1 l2 l3 l4 S h => zD_icst (n := 0) (by decide +kernel) (by decide +kernel),
  fun l0 l1 l2 l3 l4 v h hv => zD_iretz (by decide +kernel) rfl hv,
  fun l1 l2 l3 l4 x S h => zD_op (ins := .aload_n 0) (len := 1) (c := (44, [some (.ref x), l1, l2, l3, l4], (.ref x :: S), h)) (by decide +kernel) rfl rfl rfl rfl,
  fun l0 l1 l2 l3 l4 a r h hx => zD_getf (i := 21) (ci := 4) (k := 4) (q := (220, 0)) (by decide +kernel) (by decide +kernel) hx,
  fun l1 l2 l3 l4 x S h => zD_op (ins := .aload_n 0) (len := 1) (c := (48, [some (.ref x), l1, l2, l3, l4], (.ref x :: S), h)) (by decide +kernel) rfl rfl rfl rfl,
  fun l0 l1 l2 l3 l4 a r h hx => zD_getf (i := 18) (ci := 4) (k := 2) (q := (216, 0)) (by decide +kernel) (by decide +kernel) hx,
  fun l0 l1 l3 l4 x S h => zD_op (ins := .iload_n 2) (len := 1) (c := (52, [l0, l1, some (.int x), l3, l4], (.int x :: S), h)) (by decide +kernel) rfl rfl rfl rfl,
  fun l0 l1 l2 l3 l4 i a r h hx => zD_iald (by decide +kernel) hx,
  fun l0 l1 l2 l3 l4 i a r h hx => zD_iald (by decide +kernel) hx,
  fun l0 l1 l2 l3 l4 x r h => zD_st1 (k := 4) (ins := .istore 4) (len := 2) (by decide +kernel) rfl rfl rfl (by decide +kernel) rfl rfl,
  fun l1 l2 l3 l4 x S h => zD_op (ins := .aload_n 0) (len := 1) (c := (57, [some (.ref x), l1, l2, l3, l4], (.ref x :: S), h)) (by decide +kernel) rfl rfl rfl rfl,
  fun l0 l1 l2 l3 l4 a r h hx => zD_getf (i := 9) (ci := 4) (k := 0) (q := (212, 0)) (by decide +kernel) (by decide +kernel) hx,
  fun l0 l1 l3 l4 x S h => zD_op (ins := .iload_n 2) (len := 1) (c := (61, [l0, l1, some (.int x), l3, l4], (.int x :: S), h)) (by decide +kernel) rfl rfl rfl rfl,
  fun l0 l1 l2 l3 l4 i a r h hx => zD_iald (by decide +kernel) hx,
  fun l0 l1 l2 l3 l4 x t r h hx => zD_sw (len := 26) (by decide +kernel) hx,
  fun l1 l2 l3 l4 x S h => zD_op (ins := .aload_n 0) (len := 1) (c := (89, [some (.ref x), l1, l2, l3, l4], (.ref x :: S), h)) (by decide +kernel) rfl rfl rfl rfl,
  fun l0 l1 l2 l3 l4 a r h hx => zD_getf (i := 30) (ci := 4) (k := 7) (q := (223, 0)) (by decide +kernel) (by decide +kernel) hx,
  fun l0 l1 l2 l3 x S h => zD_op (ins := .iload 4) (len := 2) (c := (94, [l0, l1, l2, l3, some (.int x)], (.int x :: S), h)) (by decide +kernel) rfl rfl rfl rfl,
  fun l0 l1 l2 l3 l4 i a r h hx => zD_iald (by decide +kernel) hx,
  fun l0 l1 l2 l4 x S h => zD_op (ins := .iload_n 3) (len := 1) (c := (96, [l0, l1, l2, some (.int x), l4], (.int x :: S), h)) (by decide +kernel) rfl rfl rfl rfl,
  fun l0 l1 l2 l3 l4 x y r h => zD_op (ins := .ishr) (len := 1) (c := (97, [l0, l1, l2, l3, l4], (.int (x >>> (y &&& 31)) :: r), h)) (by decide +kernel) rfl rfl rfl rfl,
  fun l0 l1 l2 l3 l4 S h => zD_icst (n := 1) (by decide +kernel) (by decide +kernel),
  fun l0 l1 l2 l3 l4 x y r h => zD_op (ins := .iand) (len := 1) (c := (99, [l0, l1, l2, l3, l4], (.int (x &&& y) :: r), h)) (by decide +kernel) rfl rfl rfl rfl,
  fun l0 l1 l2 l3 l4 x r h => zD_if0 (cnd := .eq) (off := 7) (by decide +kernel) (by decide) rfl,
  fun l0 l1 l2 l3 l4 S h => zD_icst (n := 1) (by decide +kernel) (by decide +kernel),
  fun l0 l1 l2 l3 l4 S h => zD_goto (off := 4) (by decide +kernel) (by decide),
  fun l0 l1 l2 l3 l4 S h => zD_icst (n := 0) (by decide +kernel) (by decide +kernel),
  fun l0 l1 l2 l3 l4 v h hv => zD_iretz (by decide +kernel) rfl hv,
  fun l0 l2 l3 l4 x S h => zD_op (ins := .aload_n 1) (len := 1) (c := (109, [l0, some (.ref x), l2, l3, l4], (.ref x :: S), h)) (by decide +kernel) rfl rfl rfl rfl,
  fun l0 l2 l3 l4 S h => zD_op (ins := .aload_n 1) (len := 1) (c := (109, [l0, some .null, l2, l3, l4], (.null :: S), h)) (by decide +kernel) rfl rfl rfl rfl,
  fun l0 l1 l2 l3 l4 a r h hx => zD_getf (i := 86) (ci := 3) (k := 1) (q := (85, 1)) (by decide +kernel) (by decide +kernel) hx,
  fun l0 l1 l2 l3 x S h => zD_op (ins := .iload 4) (len := 2) (c := (114, [l0, l1, l2, l3, some (.int x)], (.int x :: S), h)) (by decide +kernel) rfl rfl rfl rfl,
  fun l0 l1 l2 l3 l4 i a r h hx => zD_iald (by decide +kernel) hx,
  fun l0 l1 l2 l4 x S h => zD_op (ins := .iload_n 3) (len := 1) (c := (116, [l0, l1, l2, some (.int x), l4], (.int x :: S), h)) (by decide +kernel) rfl rfl rfl rfl,
  fun l0 l1 l2 l3 l4 x y r h => zD_if (cnd := .ne) (off := 7) (by decide +kernel) (by decide) rfl,
  fun l0 l1 l2 l3 l4 S h => zD_icst (n := 1) (by decide +kernel) (by decide +kernel),
  fun l0 l1 l2 l3 l4 S h => zD_goto (off := 4) (by decide +kernel) (by decide),
  fun l0 l1 l2 l3 l4 S h => zD_icst (n := 0) (by decide +kernel) (by decide +kernel),
  fun l0 l1 l2 l3 l4 v h hv => zD_iretz (by decide +kernel) rfl hv,
  fun l0 l1 l2 l4 x S h => zD_op (ins := .iload_n 3) (len := 1) (c := (126, [l0, l1, l2, some (.int x), l4], (.int x :: S), h)) (by decide +kernel) rfl rfl rfl rfl,
  fun l0 l1 l2 l3 x S h => zD_op (ins := .iload 4) (len := 2) (c := (128, [l0, l1, l2, l3, some (.int x)], (.int x :: S), h)) (by decide +kernel) rfl rfl rfl rfl,
  fun l0 l1 l2 l3 l4 x y r h => zD_if (cnd := .ge) (off := 7) (by decide +kernel) (by decide) rfl,
  fun l0 l1 l2 l3 l4 S h => zD_icst (n := 1) (by decide +kernel) (by decide +kernel),
  fun l0 l1 l2 l3 l4 S h => zD_goto (off := 4) (by decide +kernel) (by decide),
  fun l0 l1 l2 l3 l4 S h => zD_icst (n := 0) (by decide +kernel) (by decide +kernel),
  fun l0 l1 l2 l3 l4 v h hv => zD_iretz (by decide +kernel) rfl hv,
  fun l0 l1 l2 l4 x S h => zD_op (ins := .iload_n 3) (len := 1) (c := (138, [l0, l1, l2, some (.int x), l4], (.int x :: S), h)) (by decide +kernel) rfl rfl rfl rfl,
  fun l0 l1 l2 l3 x S h => zD_op (ins := .iload 4) (len := 2) (c := (140, [l0, l1, l2, l3, some (.int x)], (.int x :: S), h)) (by decide +kernel) rfl rfl rfl rfl,
  fun l0 l1 l2 l3 l4 x y r h => zD_if (cnd := .eq) (off := 7) (by decide +kernel) (by decide) rfl,
  fun l0 l1 l2 l3 l4 S h => zD_icst (n := 1) (by decide +kernel) (by decide +kernel),
  fun l0 l1 l2 l3 l4 S h => zD_goto (off := 4) (by decide +kernel) (by decide),
  fun l0 l1 l2 l3 l4 S h => zD_icst (n := 0) (by decide +kernel) (by decide +kernel),
  fun l0 l1 l2 l3 l4 v h hv => zD_iretz (by decide +kernel) rfl hv⟩
set_option maxRecDepth 100000 in
theorem I_X5_holds : (∀ (a : Nat) (p0 : Nat) (p1 : Int32) (h : zH), zC 15 [.ref a, .ref p0, .int p1] h = zD 15 0 [some (.ref a), some (.ref p0), some (.int p1), none, none] [] h) :=
  fun a p0 p1 h => zC_def rfl
set_option maxRecDepth 100000 in
theorem E_X6_farthest : (∀ (l1 l2 : Option Value) (x : Int32) (S : List Value) (h : zH), zD 16 0 [some (.int x), l1, l2] S h = zD 16 1 [some (.int x), l1, l2] (.int x :: S) h) ∧
  (∀ (l0 l2 : Option Value) (x : Int32) (S : List Value) (h : zH), zD 16 1 [l0, some (.int x), l2] S h = zD 16 2 [l0, some (.int x), l2] (.int x :: S) h) ∧
  (∀ (l0 l1 l2 : Option Value) (x y : Int32) (r : List Value) (h : zH), zD 16 2 [l0, l1, l2] (.int y :: .int x :: r) h = if y ≤ x then zD 16 11 [l0, l1, l2] r h else zD 16 5 [l0, l1, l2] r h) ∧
  (∀ (l1 l2 : Option Value) (x : Int32) (S : List Value) (h : zH), zD 16 5 [some (.int x), l1, l2] S h = zD 16 6 [some (.int x), l1, l2] (.int x :: S) h) ∧
  (∀ (l0 l1 : Option Value) (x : Int32) (S : List Value) (h : zH), zD 16 6 [l0, l1, some (.int x)] S h = zD 16 7 [l0, l1, some (.int x)] (.int x :: S) h) ∧
  (∀ (l0 l1 l2 : Option Value) (x y : Int32) (r : List Value) (h : zH), zD 16 7 [l0, l1, l2] (.int y :: .int x :: r) h = zD 16 8 [l0, l1, l2] (.int (x + y) :: r) h) ∧
  (∀ (l0 l1 l2 : Option Value) (S : List Value) (h : zH), zD 16 8 [l0, l1, l2] S h = zD 16 14 [l0, l1, l2] S h) ∧
  (∀ (l1 l2 : Option Value) (x : Int32) (S : List Value) (h : zH), zD 16 11 [some (.int x), l1, l2] S h = zD 16 12 [some (.int x), l1, l2] (.int x :: S) h) ∧
  (∀ (l0 l1 : Option Value) (x : Int32) (S : List Value) (h : zH), zD 16 12 [l0, l1, some (.int x)] S h = zD 16 13 [l0, l1, some (.int x)] (.int x :: S) h) ∧
  (∀ (l0 l1 l2 : Option Value) (x y : Int32) (r : List Value) (h : zH), zD 16 13 [l0, l1, l2] (.int y :: .int x :: r) h = zD 16 14 [l0, l1, l2] (.int (x - y) :: r) h) ∧
  (∀ (l0 l1 l2 : Option Value) (v : Int32) (h : zH), zD 16 14 [l0, l1, l2] [.int v] h = some (some (.int v), h)) :=
  ⟨fun l1 l2 x S h => zD_op (ins := .iload_n 0) (len := 1) (c := (1, [some (.int x), l1, l2], (.int x :: S), h)) (by decide +kernel) rfl rfl rfl rfl,
  fun l0 l2 x S h => zD_op (ins := .iload_n 1) (len := 1) (c := (2, [l0, some (.int x), l2], (.int x :: S), h)) (by decide +kernel) rfl rfl rfl rfl,
  fun l0 l1 l2 x y r h => zD_if (cnd := .ge) (off := 9) (by decide +kernel) (by decide) rfl,
  fun l1 l2 x S h => zD_op (ins := .iload_n 0) (len := 1) (c := (6, [some (.int x), l1, l2], (.int x :: S), h)) (by decide +kernel) rfl rfl rfl rfl,
  fun l0 l1 x S h => zD_op (ins := .iload_n 2) (len := 1) (c := (7, [l0, l1, some (.int x)], (.int x :: S), h)) (by decide +kernel) rfl rfl rfl rfl,
  fun l0 l1 l2 x y r h => zD_op (ins := .iadd) (len := 1) (c := (8, [l0, l1, l2], (.int (x + y) :: r), h)) (by decide +kernel) rfl rfl rfl rfl,
  fun l0 l1 l2 S h => zD_goto (off := 6) (by decide +kernel) (by decide),
  fun l1 l2 x S h => zD_op (ins := .iload_n 0) (len := 1) (c := (12, [some (.int x), l1, l2], (.int x :: S), h)) (by decide +kernel) rfl rfl rfl rfl,
  fun l0 l1 x S h => zD_op (ins := .iload_n 2) (len := 1) (c := (13, [l0, l1, some (.int x)], (.int x :: S), h)) (by decide +kernel) rfl rfl rfl rfl,
  fun l0 l1 l2 x y r h => zD_op (ins := .isub) (len := 1) (c := (14, [l0, l1, l2], (.int (x - y) :: r), h)) (by decide +kernel) rfl rfl rfl rfl,
  fun l0 l1 l2 v h => zD_ireti (by decide +kernel) rfl⟩
set_option maxRecDepth 100000 in
theorem I_X6_farthest : (∀ (p0 : Int32) (p1 : Int32) (p2 : Int32) (h : zH), zC 16 [.int p0, .int p1, .int p2] h = zD 16 0 [some (.int p0), some (.int p1), some (.int p2)] [] h) :=
  fun p0 p1 p2 h => zC_def rfl
set_option maxRecDepth 100000 in
theorem E_X6_cell : (∀ (l1 : Option Value) (x : Int32) (S : List Value) (h : zH), zD 17 0 [some (.int x), l1] S h = zD 17 1 [some (.int x), l1] (.int x :: S) h) ∧
  (∀ (l0 l1 : Option Value) (S : List Value) (h : zH), zD 17 1 [l0, l1] S h = zD 17 3 [l0, l1] (.int (8 : Int32) :: S) h) ∧
  (∀ (l0 l1 : Option Value) (x y : Int32) (r : List Value) (h : zH), zD 17 3 [l0, l1] (.int y :: .int x :: r) h = zD 17 4 [l0, l1] (.int (x * y) :: r) h) ∧
  (∀ (l0 : Option Value) (x : Int32) (S : List Value) (h : zH), zD 17 4 [l0, some (.int x)] S h = zD 17 5 [l0, some (.int x)] (.int x :: S) h) ∧
  (∀ (l0 l1 : Option Value) (x y : Int32) (r : List Value) (h : zH), zD 17 5 [l0, l1] (.int y :: .int x :: r) h = zD 17 6 [l0, l1] (.int (x + y) :: r) h) ∧
  (∀ (l0 l1 : Option Value) (v : Int32) (h : zH), zD 17 6 [l0, l1] [.int v] h = some (some (.int v), h)) :=
  ⟨fun l1 x S h => zD_op (ins := .iload_n 0) (len := 1) (c := (1, [some (.int x), l1], (.int x :: S), h)) (by decide +kernel) rfl rfl rfl rfl,
  fun l0 l1 S h => zD_bip (n := 8) (by decide +kernel) (by decide +kernel),
  fun l0 l1 x y r h => zD_op (ins := .imul) (len := 1) (c := (4, [l0, l1], (.int (x * y) :: r), h)) (by decide +kernel) rfl rfl rfl rfl,
  fun l0 x S h => zD_op (ins := .iload_n 1) (len := 1) (c := (5, [l0, some (.int x)], (.int x :: S), h)) (by decide +kernel) rfl rfl rfl rfl,
  fun l0 l1 x y r h => zD_op (ins := .iadd) (len := 1) (c := (6, [l0, l1], (.int (x + y) :: r), h)) (by decide +kernel) rfl rfl rfl rfl,
  fun l0 l1 v h => zD_ireti (by decide +kernel) rfl⟩
set_option maxRecDepth 100000 in
theorem I_X6_cell : (∀ (p0 : Int32) (p1 : Int32) (h : zH), zC 17 [.int p0, .int p1] h = zD 17 0 [some (.int p0), some (.int p1)] [] h) :=
  fun p0 p1 h => zC_def rfl
set_option maxRecDepth 100000 in
theorem E_X7_slot : (∀ (l1 l2 : Option Value) (x : Int32) (S : List Value) (h : zH), zD 18 0 [some (.int x), l1, l2] S h = zD 18 1 [some (.int x), l1, l2] (.int x :: S) h) ∧
  (∀ (l0 l1 l2 : Option Value) (S : List Value) (h : zH), zD 18 1 [l0, l1, l2] S h = zD 18 3 [l0, l1, l2] (.int (10 : Int32) :: S) h) ∧
  (∀ (l0 l1 l2 : Option Value) (x y : Int32) (r : List Value) (h : zH), zD 18 3 [l0, l1, l2] (.int y :: .int x :: r) h = zD 18 4 [l0, l1, l2] (.int (x * y) :: r) h) ∧
  (∀ (l0 l2 : Option Value) (x : Int32) (S : List Value) (h : zH), zD 18 4 [l0, some (.int x), l2] S h = zD 18 5 [l0, some (.int x), l2] (.int x :: S) h) ∧
  (∀ (l0 l1 l2 : Option Value) (x y : Int32) (r : List Value) (h : zH), zD 18 5 [l0, l1, l2] (.int y :: .int x :: r) h = zD 18 6 [l0, l1, l2] (.int (x + y) :: r) h) ∧
  (∀ (l0 l1 l2 : Option Value) (S : List Value) (h : zH), zD 18 6 [l0, l1, l2] S h = zD 18 7 [l0, l1, l2] (.int (2 : Int32) :: S) h) ∧
  (∀ (l0 l1 l2 : Option Value) (x y : Int32) (r : List Value) (h : zH), zD 18 7 [l0, l1, l2] (.int y :: .int x :: r) h = zD 18 8 [l0, l1, l2] (.int (x * y) :: r) h) ∧
  (∀ (l0 l1 : Option Value) (x : Int32) (S : List Value) (h : zH), zD 18 8 [l0, l1, some (.int x)] S h = zD 18 9 [l0, l1, some (.int x)] (.int x :: S) h) ∧
  (∀ (l0 l1 l2 : Option Value) (x y : Int32) (r : List Value) (h : zH), zD 18 9 [l0, l1, l2] (.int y :: .int x :: r) h = zD 18 10 [l0, l1, l2] (.int (x + y) :: r) h) ∧
  (∀ (l0 l1 l2 : Option Value) (v : Int32) (h : zH), zD 18 10 [l0, l1, l2] [.int v] h = some (some (.int v), h)) :=
  ⟨fun l1 l2 x S h => zD_op (ins := .iload_n 0) (len := 1) (c := (1, [some (.int x), l1, l2], (.int x :: S), h)) (by decide +kernel) rfl rfl rfl rfl,
  fun l0 l1 l2 S h => zD_bip (n := 10) (by decide +kernel) (by decide +kernel),
  fun l0 l1 l2 x y r h => zD_op (ins := .imul) (len := 1) (c := (4, [l0, l1, l2], (.int (x * y) :: r), h)) (by decide +kernel) rfl rfl rfl rfl,
  fun l0 l2 x S h => zD_op (ins := .iload_n 1) (len := 1) (c := (5, [l0, some (.int x), l2], (.int x :: S), h)) (by decide +kernel) rfl rfl rfl rfl,
  fun l0 l1 l2 x y r h => zD_op (ins := .iadd) (len := 1) (c := (6, [l0, l1, l2], (.int (x + y) :: r), h)) (by decide +kernel) rfl rfl rfl rfl,
  fun l0 l1 l2 S h => zD_icst (n := 2) (by decide +kernel) (by decide +kernel),
  fun l0 l1 l2 x y r h => zD_op (ins := .imul) (len := 1) (c := (8, [l0, l1, l2], (.int (x * y) :: r), h)) (by decide +kernel) rfl rfl rfl rfl,
  fun l0 l1 x S h => zD_op (ins := .iload_n 2) (len := 1) (c := (9, [l0, l1, some (.int x)], (.int x :: S), h)) (by decide +kernel) rfl rfl rfl rfl,
  fun l0 l1 l2 x y r h => zD_op (ins := .iadd) (len := 1) (c := (10, [l0, l1, l2], (.int (x + y) :: r), h)) (by decide +kernel) rfl rfl rfl rfl,
  fun l0 l1 l2 v h => zD_ireti (by decide +kernel) rfl⟩
set_option maxRecDepth 100000 in
theorem I_X7_slot : (∀ (p0 : Int32) (p1 : Int32) (p2 : Int32) (h : zH), zC 18 [.int p0, .int p1, .int p2] h = zD 18 0 [some (.int p0), some (.int p1), some (.int p2)] [] h) :=
  fun p0 p1 p2 h => zC_def rfl
set_option maxRecDepth 100000 in
theorem E_X8_find : (∀ (l0 l1 l2 l3 : Option Value) (S : List Value) (h : zH), zD 19 0 [l0, l1, l2, l3] S h = zD 19 1 [l0, l1, l2, l3] (.int (0 : Int32) :: S) h) ∧
  (∀ (l0 l1 l2 l3 : Option Value) (x : Int32) (r : List Value) (h : zH), zD 19 1 [l0, l1, l2, l3] (.int x :: r) h = zD 19 2 [l0, l1, zclr l2, some (.int x)] r h) ∧
  (∀ (l1 l2 l3 : Option Value) (x : Nat) (S : List Value) (h : zH), zD 19 3 [some (.ref x), l1, l2, l3] S h = zD 19 4 [some (.ref x), l1, l2, l3] (.ref x :: S) h) ∧
  (∀ (l0 l1 l2 l3 : Option Value) (a : Nat) (r : List Value) (h : zH) (hx : zfok (h.2.2 a) 7 1 = true), zD 19 4 [l0, l1, l2, l3] (.ref a :: r) h = zD 19 7 [l0, l1, l2, l3] (zfv (h.2.2 a) 1 :: r) h) ∧
  (∀ (l0 l1 l2 l3 : Option Value) (x y : Int32) (r : List Value) (h : zH), zD 19 7 [l0, l1, l2, l3] (.int y :: .int x :: r) h = if y ≤ x then zD 19 29 [l0, l1, l2, l3] r h else zD 19 10 [l0, l1, l2, l3] r h) ∧
  (∀ (l1 l2 l3 : Option Value) (x : Nat) (S : List Value) (h : zH), zD 19 10 [some (.ref x), l1, l2, l3] S h = zD 19 11 [some (.ref x), l1, l2, l3] (.ref x :: S) h) ∧
  (∀ (l0 l1 l2 l3 : Option Value) (a : Nat) (r : List Value) (h : zH) (hx : zfok (h.2.2 a) 7 0 = true), zD 19 11 [l0, l1, l2, l3] (.ref a :: r) h = zD 19 14 [l0, l1, l2, l3] (zfv (h.2.2 a) 0 :: r) h) ∧
  (∀ (l0 l1 l2 : Option Value) (x : Int32) (S : List Value) (h : zH), zD 19 14 [l0, l1, l2, some (.int x)] S h = zD 19 15 [l0, l1, l2, some (.int x)] (.int x :: S) h) ∧
  (∀ (l0 l1 l2 l3 : Option Value) (i : Int32) (a : Nat) (r : List Value) (h : zH) (hx : zlok (h.2.2 a) i = true), zD 19 15 [l0, l1, l2, l3] (.int i :: .ref a :: r) h = zD 19 16 [l0, l1, l2, l3] (.long (zlv' (h.2.2 a) i) :: r) h) ∧
  (∀ (l0 l2 l3 : Option Value) (x : Int64) (S : List Value) (h : zH), zD 19 16 [l0, some (.long x), l2, l3] S h = zD 19 17 [l0, some (.long x), l2, l3] (.long x :: S) h) ∧
  (∀ (l0 l1 l2 l3 : Option Value) (x y : Int64) (r : List Value) (h : zH), zD 19 17 [l0, l1, l2, l3] (.long y :: .long x :: r) h = zD 19 18 [l0, l1, l2, l3] (.int (lg_cmp x y) :: r) h) ∧
  (∀ (l0 l1 l2 l3 : Option Value) (x : Int32) (r : List Value) (h : zH), zD 19 18 [l0, l1, l2, l3] (.int x :: r) h = if ¬ x = 0 then zD 19 23 [l0, l1, l2, l3] r h else zD 19 21 [l0, l1, l2, l3] r h) ∧
  (∀ (l0 l1 l2 : Option Value) (x : Int32) (S : List Value) (h : zH), zD 19 21 [l0, l1, l2, some (.int x)] S h = zD 19 22 [l0, l1, l2, some (.int x)] (.int x :: S) h) ∧
  (∀ (l0 l1 l2 l3 : Option Value) (v : Int32) (h : zH), zD 19 22 [l0, l1, l2, l3] [.int v] h = some (some (.int v), h)) ∧
  (∀ (l0 l1 l2 : Option Value) (x : Int32) (S : List Value) (h : zH), zD 19 23 [l0, l1, l2, some (.int x)] S h = zD 19 26 [l0, l1, zclr l2, some (.int (x + (1 : Int32)))] S h) ∧
  (∀ (l0 l1 l2 l3 : Option Value) (S : List Value) (h : zH), zD 19 26 [l0, l1, l2, l3] S h = zD 19 2 [l0, l1, l2, l3] S h) ∧
  (∀ (l0 l1 l2 l3 : Option Value) (S : List Value) (h : zH), zD 19 29 [l0, l1, l2, l3] S h = zD 19 30 [l0, l1, l2, l3] (.int (-1 : Int32) :: S) h) ∧
  (∀ (l0 l1 l2 l3 : Option Value) (v : Int32) (h : zH), zD 19 30 [l0, l1, l2, l3] [.int v] h = some (some (.int v), h)) :=
  ⟨fun l0 l1 l2 l3 S h => zD_icst (n := 0) (by decide +kernel) (by decide +kernel),
  fun l0 l1 l2 l3 x r h => zD_st1 (k := 3) (ins := .istore_n 3) (len := 1) (by decide +kernel) rfl rfl rfl (by decide +kernel) rfl rfl,
  fun l1 l2 l3 x S h => zD_op (ins := .aload_n 0) (len := 1) (c := (4, [some (.ref x), l1, l2, l3], (.ref x :: S), h)) (by decide +kernel) rfl rfl rfl rfl,
  fun l0 l1 l2 l3 a r h hx => zD_getf (i := 20) (ci := 7) (k := 1) (q := (136, 0)) (by decide +kernel) (by decide +kernel) hx,
  fun l0 l1 l2 l3 x y r h => zD_if (cnd := .ge) (off := 22) (by decide +kernel) (by decide) rfl,
  fun l1 l2 l3 x S h => zD_op (ins := .aload_n 0) (len := 1) (c := (11, [some (.ref x), l1, l2, l3], (.ref x :: S), h)) (by decide +kernel) rfl rfl rfl rfl,
  fun l0 l1 l2 l3 a r h hx => zD_getf (i := 9) (ci := 7) (k := 0) (q := (134, 0)) (by decide +kernel) (by decide +kernel) hx,
  fun l0 l1 l2 x S h => zD_op (ins := .iload_n 3) (len := 1) (c := (15, [l0, l1, l2, some (.int x)], (.int x :: S), h)) (by decide +kernel) rfl rfl rfl rfl,
  fun l0 l1 l2 l3 i a r h hx => zD_lald (by decide +kernel) hx,
  fun l0 l2 l3 x S h => zD_op (ins := .lload_n 1) (len := 1) (c := (17, [l0, some (.long x), l2, l3], (.long x :: S), h)) (by decide +kernel) rfl rfl rfl rfl,
  fun l0 l1 l2 l3 x y r h => zD_op (ins := .lcmp) (len := 1) (c := (18, [l0, l1, l2, l3], (.int (lg_cmp x y) :: r), h)) (by decide +kernel) rfl rfl rfl rfl,
  fun l0 l1 l2 l3 x r h => zD_if0 (cnd := .ne) (off := 5) (by decide +kernel) (by decide) rfl,
  fun l0 l1 l2 x S h => zD_op (ins := .iload_n 3) (len := 1) (c := (22, [l0, l1, l2, some (.int x)], (.int x :: S), h)) (by decide +kernel) rfl rfl rfl rfl,
  fun l0 l1 l2 l3 v h => zD_ireti (by decide +kernel) rfl,
  fun l0 l1 l2 x S h => zD_iinc (k := 3) (x := x) (c := (1 : Int32)) (n := 1) (by decide +kernel) (by decide +kernel) rfl (by decide +kernel) rfl,
  fun l0 l1 l2 l3 S h => zD_goto (off := (-24)) (by decide +kernel) (by decide),
  fun l0 l1 l2 l3 S h => zD_icst (n := (-1)) (by decide +kernel) (by decide +kernel),
  fun l0 l1 l2 l3 v h => zD_ireti (by decide +kernel) rfl⟩
set_option maxRecDepth 100000 in
theorem E_X8_find_h2 : (∀ (l0 l1 l2 : Option Value) (x : Int32) (S : List Value) (h : zH), zD 19 2 [l0, l1, l2, some (.int x)] S h = zD 19 3 [l0, l1, l2, some (.int x)] (.int x :: S) h) :=
  fun l0 l1 l2 x S h => zD_op (ins := .iload_n 3) (len := 1) (c := (3, [l0, l1, l2, some (.int x)], (.int x :: S), h)) (by decide +kernel) rfl rfl rfl rfl
set_option maxRecDepth 100000 in
theorem I_X8_find : (∀ (a : Nat) (p0 : Int64) (h : zH), zC 19 [.ref a, .long p0] h = zD 19 0 [some (.ref a), some (.long p0), none, none] [] h) :=
  fun a p0 h => zC_def rfl
set_option maxRecDepth 100000 in
theorem E_X8_offer : (∀ (l1 l2 l3 l4 : Option Value) (x : Nat) (S : List Value) (h : zH), zD 20 0 [some (.ref x), l1, l2, l3, l4] S h = zD 20 1 [some (.ref x), l1, l2, l3, l4] (.ref x :: S) h) ∧
  (∀ (l0 l1 l2 l3 l4 : Option Value) (a : Nat) (r : List Value) (h : zH) (hx : zfok (h.2.2 a) 7 1 = true), zD 20 1 [l0, l1, l2, l3, l4] (.ref a :: r) h = zD 20 4 [l0, l1, l2, l3, l4] (zfv (h.2.2 a) 1 :: r) h) ∧
  (∀ (l1 l2 l3 l4 : Option Value) (x : Nat) (S : List Value) (h : zH), zD 20 4 [some (.ref x), l1, l2, l3, l4] S h = zD 20 5 [some (.ref x), l1, l2, l3, l4] (.ref x :: S) h) ∧
  (∀ (l0 l1 l2 l3 l4 : Option Value) (a : Nat) (r : List Value) (h : zH) (hx : zfok (h.2.2 a) 7 2 = true), zD 20 5 [l0, l1, l2, l3, l4] (.ref a :: r) h = zD 20 8 [l0, l1, l2, l3, l4] (zfv (h.2.2 a) 2 :: r) h) ∧
  (∀ (l0 l1 l2 l3 l4 : Option Value) (x y : Int32) (r : List Value) (h : zH), zD 20 8 [l0, l1, l2, l3, l4] (.int y :: .int x :: r) h = if x < y then zD 20 29 [l0, l1, l2, l3, l4] r h else zD 20 11 [l0, l1, l2, l3, l4] r h) ∧
  (∀ (l0 l2 l3 l4 : Option Value) (x : Int64) (S : List Value) (h : zH), zD 20 11 [l0, some (.long x), l2, l3, l4] S h = zD 20 12 [l0, some (.long x), l2, l3, l4] (.long x :: S) h) ∧
  (∀ (l1 l2 l3 l4 : Option Value) (x : Nat) (S : List Value) (h : zH), zD 20 12 [some (.ref x), l1, l2, l3, l4] S h = zD 20 13 [some (.ref x), l1, l2, l3, l4] (.ref x :: S) h) ∧
  (∀ (l0 l1 l2 l3 l4 : Option Value) (a : Nat) (r : List Value) (h : zH) (hx : zfok (h.2.2 a) 7 0 = true), zD 20 13 [l0, l1, l2, l3, l4] (.ref a :: r) h = zD 20 16 [l0, l1, l2, l3, l4] (zfv (h.2.2 a) 0 :: r) h) ∧
  (∀ (l1 l2 l3 l4 : Option Value) (x : Nat) (S : List Value) (h : zH), zD 20 16 [some (.ref x), l1, l2, l3, l4] S h = zD 20 17 [some (.ref x), l1, l2, l3, l4] (.ref x :: S) h) ∧
  (∀ (l0 l1 l2 l3 l4 : Option Value) (a : Nat) (r : List Value) (h : zH) (hx : zfok (h.2.2 a) 7 2 = true), zD 20 17 [l0, l1, l2, l3, l4] (.ref a :: r) h = zD 20 20 [l0, l1, l2, l3, l4] (zfv (h.2.2 a) 2 :: r) h) ∧
  (∀ (l0 l1 l2 l3 l4 : Option Value) (S : List Value) (h : zH), zD 20 20 [l0, l1, l2, l3, l4] S h = zD 20 21 [l0, l1, l2, l3, l4] (.int (1 : Int32) :: S) h) ∧
  (∀ (l0 l1 l2 l3 l4 : Option Value) (x y : Int32) (r : List Value) (h : zH), zD 20 21 [l0, l1, l2, l3, l4] (.int y :: .int x :: r) h = zD 20 22 [l0, l1, l2, l3, l4] (.int (x - y) :: r) h) ∧
  (∀ (l0 l1 l2 l3 l4 : Option Value) (i : Int32) (a : Nat) (r : List Value) (h : zH) (hx : zlok (h.2.2 a) i = true), zD 20 22 [l0, l1, l2, l3, l4] (.int i :: .ref a :: r) h = zD 20 23 [l0, l1, l2, l3, l4] (.long (zlv' (h.2.2 a) i) :: r) h) ∧
  (∀ (l0 l1 l2 l3 l4 : Option Value) (x y : Int64) (r : List Value) (h : zH), zD 20 23 [l0, l1, l2, l3, l4] (.long y :: .long x :: r) h = zD 20 24 [l0, l1, l2, l3, l4] (.int (lg_cmp x y) :: r) h) ∧
  (∀ (l0 l1 l2 l3 l4 : Option Value) (x : Int32) (r : List Value) (h : zH), zD 20 24 [l0, l1, l2, l3, l4] (.int x :: r) h = if 0 < x then zD 20 29 [l0, l1, l2, l3, l4] r h else zD 20 27 [l0, l1, l2, l3, l4] r h) ∧
  (∀ (l0 l1 l2 l3 l4 : Option Value) (S : List Value) (h : zH), zD 20 27 [l0, l1, l2, l3, l4] S h = zD 20 28 [l0, l1, l2, l3, l4] (.int (0 : Int32) :: S) h) ∧
  (∀ (l0 l1 l2 l3 l4 : Option Value) (v : Int32) (h : zH) (hv : zbv v), zD 20 28 [l0, l1, l2, l3, l4] [.int v] h = some (some (.int v), h)) ∧
  (∀ (l1 l2 l3 l4 : Option Value) (x : Nat) (S : List Value) (h : zH), zD 20 29 [some (.ref x), l1, l2, l3, l4] S h = zD 20 30 [some (.ref x), l1, l2, l3, l4] (.ref x :: S) h) ∧
  (∀ (l0 l1 l2 l3 l4 : Option Value) (a : Nat) (r : List Value) (h : zH) (hx : zfok (h.2.2 a) 7 1 = true), zD 20 30 [l0, l1, l2, l3, l4] (.ref a :: r) h = zD 20 33 [l0, l1, l2, l3, l4] (zfv (h.2.2 a) 1 :: r) h) ∧
  (∀ (l0 l1 l2 l3 l4 : Option Value) (x : Int32) (r : List Value) (h : zH), zD 20 33 [l0, l1, l2, l3, l4] (.int x :: r) h = zD 20 34 [l0, l1, zclr l2, some (.int x), l4] r h) ∧
  (∀ (l0 l1 l2 l3 l4 : Option Value) (x : Int32) (r : List Value) (h : zH), zD 20 35 [l0, l1, l2, l3, l4] (.int x :: r) h = if x ≤ 0 then zD 20 57 [l0, l1, l2, l3, l4] r h else zD 20 38 [l0, l1, l2, l3, l4] r h) ∧
  (∀ (l1 l2 l3 l4 : Option Value) (x : Nat) (S : List Value) (h : zH), zD 20 38 [some (.ref x), l1, l2, l3, l4] S h = zD 20 39 [some (.ref x), l1, l2, l3, l4] (.ref x :: S) h) ∧
  (∀ (l0 l1 l2 l3 l4 : Option Value) (a : Nat) (r : List Value) (h : zH) (hx : zfok (h.2.2 a) 7 0 = true), zD 20 39 [l0, l1, l2, l3, l4] (.ref a :: r) h = zD 20 42 [l0, l1, l2, l3, l4] (zfv (h.2.2 a) 0 :: r) h) ∧
  (∀ (l0 l1 l2 l4 : Option Value) (x : Int32) (S : List Value) (h : zH), zD 20 42 [l0, l1, l2, some (.int x), l4] S h = zD 20 43 [l0, l1, l2, some (.int x), l4] (.int x :: S) h) ∧
  (∀ (l0 l1 l2 l3 l4 : Option Value) (S : List Value) (h : zH), zD 20 43 [l0, l1, l2, l3, l4] S h = zD 20 44 [l0, l1, l2, l3, l4] (.int (1 : Int32) :: S) h) ∧
  (∀ (l0 l1 l2 l3 l4 : Option Value) (x y : Int32) (r : List Value) (h : zH), zD 20 44 [l0, l1, l2, l3, l4] (.int y :: .int x :: r) h = zD 20 45 [l0, l1, l2, l3, l4] (.int (x - y) :: r) h) ∧
  (∀ (l0 l1 l2 l3 l4 : Option Value) (i : Int32) (a : Nat) (r : List Value) (h : zH) (hx : zlok (h.2.2 a) i = true), zD 20 45 [l0, l1, l2, l3, l4] (.int i :: .ref a :: r) h = zD 20 46 [l0, l1, l2, l3, l4] (.long (zlv' (h.2.2 a) i) :: r) h) ∧
  (∀ (l0 l2 l3 l4 : Option Value) (x : Int64) (S : List Value) (h : zH), zD 20 46 [l0, some (.long x), l2, l3, l4] S h = zD 20 47 [l0, some (.long x), l2, l3, l4] (.long x :: S) h) ∧
  (∀ (l0 l1 l2 l3 l4 : Option Value) (x y : Int64) (r : List Value) (h : zH), zD 20 47 [l0, l1, l2, l3, l4] (.long y :: .long x :: r) h = zD 20 48 [l0, l1, l2, l3, l4] (.int (lg_cmp x y) :: r) h) ∧
  (∀ (l0 l1 l2 l3 l4 : Option Value) (x : Int32) (r : List Value) (h : zH), zD 20 48 [l0, l1, l2, l3, l4] (.int x :: r) h = if 0 ≤ x then zD 20 57 [l0, l1, l2, l3, l4] r h else zD 20 51 [l0, l1, l2, l3, l4] r h) ∧
  (∀ (l0 l1 l2 l4 : Option Value) (x : Int32) (S : List Value) (h : zH), zD 20 51 [l0, l1, l2, some (.int x), l4] S h = zD 20 54 [l0, l1, zclr l2, some (.int (x + (-1 : Int32))), l4] S h) ∧
  (∀ (l0 l1 l2 l3 l4 : Option Value) (S : List Value) (h : zH), zD 20 54 [l0, l1, l2, l3, l4] S h = zD 20 34 [l0, l1, l2, l3, l4] S h) ∧
  (∀ (l0 l1 l2 l3 l4 : Option Value) (x : Int32) (r : List Value) (h : zH), zD 20 58 [l0, l1, l2, l3, l4] (.int x :: r) h = if x ≤ 0 then zD 20 76 [l0, l1, l2, l3, l4] r h else zD 20 61 [l0, l1, l2, l3, l4] r h) ∧
  (∀ (l1 l2 l3 l4 : Option Value) (x : Nat) (S : List Value) (h : zH), zD 20 61 [some (.ref x), l1, l2, l3, l4] S h = zD 20 62 [some (.ref x), l1, l2, l3, l4] (.ref x :: S) h) ∧
  (∀ (l0 l1 l2 l3 l4 : Option Value) (a : Nat) (r : List Value) (h : zH) (hx : zfok (h.2.2 a) 7 0 = true), zD 20 62 [l0, l1, l2, l3, l4] (.ref a :: r) h = zD 20 65 [l0, l1, l2, l3, l4] (zfv (h.2.2 a) 0 :: r) h) ∧
  (∀ (l0 l1 l2 l4 : Option Value) (x : Int32) (S : List Value) (h : zH), zD 20 65 [l0, l1, l2, some (.int x), l4] S h = zD 20 66 [l0, l1, l2, some (.int x), l4] (.int x :: S) h) ∧
  (∀ (l0 l1 l2 l3 l4 : Option Value) (S : List Value) (h : zH), zD 20 66 [l0, l1, l2, l3, l4] S h = zD 20 67 [l0, l1, l2, l3, l4] (.int (1 : Int32) :: S) h) ∧
  (∀ (l0 l1 l2 l3 l4 : Option Value) (x y : Int32) (r : List Value) (h : zH), zD 20 67 [l0, l1, l2, l3, l4] (.int y :: .int x :: r) h = zD 20 68 [l0, l1, l2, l3, l4] (.int (x - y) :: r) h) ∧
  (∀ (l0 l1 l2 l3 l4 : Option Value) (i : Int32) (a : Nat) (r : List Value) (h : zH) (hx : zlok (h.2.2 a) i = true), zD 20 68 [l0, l1, l2, l3, l4] (.int i :: .ref a :: r) h = zD 20 69 [l0, l1, l2, l3, l4] (.long (zlv' (h.2.2 a) i) :: r) h) ∧
  (∀ (l0 l2 l3 l4 : Option Value) (x : Int64) (S : List Value) (h : zH), zD 20 69 [l0, some (.long x), l2, l3, l4] S h = zD 20 70 [l0, some (.long x), l2, l3, l4] (.long x :: S) h) ∧
  (∀ (l0 l1 l2 l3 l4 : Option Value) (x y : Int64) (r : List Value) (h : zH), zD 20 70 [l0, l1, l2, l3, l4] (.long y :: .long x :: r) h = zD 20 71 [l0, l1, l2, l3, l4] (.int (lg_cmp x y) :: r) h) ∧
  (∀ (l0 l1 l2 l3 l4 : Option Value) (x : Int32) (r : List Value) (h : zH), zD 20 71 [l0, l1, l2, l3, l4] (.int x :: r) h = if ¬ x = 0 then zD 20 76 [l0, l1, l2, l3, l4] r h else zD 20 74 [l0, l1, l2, l3, l4] r h) ∧
  (∀ (l0 l1 l2 l3 l4 : Option Value) (S : List Value) (h : zH), zD 20 74 [l0, l1, l2, l3, l4] S h = zD 20 75 [l0, l1, l2, l3, l4] (.int (1 : Int32) :: S) h) ∧
  (∀ (l0 l1 l2 l3 l4 : Option Value) (v : Int32) (h : zH) (hv : zbv v), zD 20 75 [l0, l1, l2, l3, l4] [.int v] h = some (some (.int v), h)) ∧
  (∀ (l1 l2 l3 l4 : Option Value) (x : Nat) (S : List Value) (h : zH), zD 20 76 [some (.ref x), l1, l2, l3, l4] S h = zD 20 77 [some (.ref x), l1, l2, l3, l4] (.ref x :: S) h) ∧
  (∀ (l0 l1 l2 l3 l4 : Option Value) (a : Nat) (r : List Value) (h : zH) (hx : zfok (h.2.2 a) 7 1 = true), zD 20 77 [l0, l1, l2, l3, l4] (.ref a :: r) h = zD 20 80 [l0, l1, l2, l3, l4] (zfv (h.2.2 a) 1 :: r) h) ∧
  (∀ (l1 l2 l3 l4 : Option Value) (x : Nat) (S : List Value) (h : zH), zD 20 80 [some (.ref x), l1, l2, l3, l4] S h = zD 20 81 [some (.ref x), l1, l2, l3, l4] (.ref x :: S) h) ∧
  (∀ (l0 l1 l2 l3 l4 : Option Value) (a : Nat) (r : List Value) (h : zH) (hx : zfok (h.2.2 a) 7 2 = true), zD 20 81 [l0, l1, l2, l3, l4] (.ref a :: r) h = zD 20 84 [l0, l1, l2, l3, l4] (zfv (h.2.2 a) 2 :: r) h) ∧
  (∀ (l0 l1 l2 l3 l4 : Option Value) (x y : Int32) (r : List Value) (h : zH), zD 20 84 [l0, l1, l2, l3, l4] (.int y :: .int x :: r) h = if y ≤ x then zD 20 97 [l0, l1, l2, l3, l4] r h else zD 20 87 [l0, l1, l2, l3, l4] r h) ∧
  (∀ (l1 l2 l3 l4 : Option Value) (x : Nat) (S : List Value) (h : zH), zD 20 87 [some (.ref x), l1, l2, l3, l4] S h = zD 20 88 [some (.ref x), l1, l2, l3, l4] (.ref x :: S) h) ∧
  (∀ (l0 l1 l2 l3 l4 : Option Value) (x : Int32) (r : List Value) (h : zH), zD 20 88 [l0, l1, l2, l3, l4] (.int x :: r) h = zD 20 89 [l0, l1, l2, l3, l4] (.int x :: .int x :: r) h) ∧
  (∀ (l0 l1 l2 l3 l4 : Option Value) (x : Nat) (r : List Value) (h : zH), zD 20 88 [l0, l1, l2, l3, l4] (.ref x :: r) h = zD 20 89 [l0, l1, l2, l3, l4] (.ref x :: .ref x :: r) h) ∧
  (∀ (l0 l1 l2 l3 l4 : Option Value) (a : Nat) (r : List Value) (h : zH) (hx : zfok (h.2.2 a) 7 1 = true), zD 20 89 [l0, l1, l2, l3, l4] (.ref a :: r) h = zD 20 92 [l0, l1, l2, l3, l4] (zfv (h.2.2 a) 1 :: r) h) ∧
  (∀ (l0 l1 l2 l3 l4 : Option Value) (S : List Value) (h : zH), zD 20 92 [l0, l1, l2, l3, l4] S h = zD 20 93 [l0, l1, l2, l3, l4] (.int (1 : Int32) :: S) h) ∧
  (∀ (l0 l1 l2 l3 l4 : Option Value) (x y : Int32) (r : List Value) (h : zH), zD 20 93 [l0, l1, l2, l3, l4] (.int y :: .int x :: r) h = zD 20 94 [l0, l1, l2, l3, l4] (.int (x + y) :: r) h) ∧
  (∀ (l0 l1 l2 l3 l4 : Option Value) (v : Int32) (a : Nat) (r : List Value) (h : zH) (hx : zfok (h.2.2 a) 7 1 = true), zD 20 94 [l0, l1, l2, l3, l4] (.int v :: .ref a :: r) h = zD 20 97 [l0, l1, l2, l3, l4] r (zw h a (zfs' (h.2.2 a) 1 (.int v)))) ∧
  (∀ (l1 l2 l3 l4 : Option Value) (x : Nat) (S : List Value) (h : zH), zD 20 97 [some (.ref x), l1, l2, l3, l4] S h = zD 20 98 [some (.ref x), l1, l2, l3, l4] (.ref x :: S) h) ∧
  (∀ (l0 l1 l2 l3 l4 : Option Value) (a : Nat) (r : List Value) (h : zH) (hx : zfok (h.2.2 a) 7 1 = true), zD 20 98 [l0, l1, l2, l3, l4] (.ref a :: r) h = zD 20 101 [l0, l1, l2, l3, l4] (zfv (h.2.2 a) 1 :: r) h) ∧
  (∀ (l0 l1 l2 l3 l4 : Option Value) (S : List Value) (h : zH), zD 20 101 [l0, l1, l2, l3, l4] S h = zD 20 102 [l0, l1, l2, l3, l4] (.int (1 : Int32) :: S) h) ∧
  (∀ (l0 l1 l2 l3 l4 : Option Value) (x y : Int32) (r : List Value) (h : zH), zD 20 102 [l0, l1, l2, l3, l4] (.int y :: .int x :: r) h = zD 20 103 [l0, l1, l2, l3, l4] (.int (x - y) :: r) h) ∧
  (∀ (l0 l1 l2 l3 l4 : Option Value) (x : Int32) (r : List Value) (h : zH), zD 20 103 [l0, l1, l2, l3, l4] (.int x :: r) h = zD 20 105 [l0, l1, l2, zclr l3, some (.int x)] r h) ∧
  (∀ (l0 l1 l2 l4 : Option Value) (x : Int32) (S : List Value) (h : zH), zD 20 107 [l0, l1, l2, some (.int x), l4] S h = zD 20 108 [l0, l1, l2, some (.int x), l4] (.int x :: S) h) ∧
  (∀ (l0 l1 l2 l3 l4 : Option Value) (x y : Int32) (r : List Value) (h : zH), zD 20 108 [l0, l1, l2, l3, l4] (.int y :: .int x :: r) h = if x ≤ y then zD 20 133 [l0, l1, l2, l3, l4] r h else zD 20 111 [l0, l1, l2, l3, l4] r h) ∧
  (∀ (l1 l2 l3 l4 : Option Value) (x : Nat) (S : List Value) (h : zH), zD 20 111 [some (.ref x), l1, l2, l3, l4] S h = zD 20 112 [some (.ref x), l1, l2, l3, l4] (.ref x :: S) h) ∧
  (∀ (l0 l1 l2 l3 l4 : Option Value) (a : Nat) (r : List Value) (h : zH) (hx : zfok (h.2.2 a) 7 0 = true), zD 20 112 [l0, l1, l2, l3, l4] (.ref a :: r) h = zD 20 115 [l0, l1, l2, l3, l4] (zfv (h.2.2 a) 0 :: r) h) ∧
  (∀ (l0 l1 l2 l3 : Option Value) (x : Int32) (S : List Value) (h : zH), zD 20 115 [l0, l1, l2, l3, some (.int x)] S h = zD 20 117 [l0, l1, l2, l3, some (.int x)] (.int x :: S) h) ∧
  (∀ (l1 l2 l3 l4 : Option Value) (x : Nat) (S : List Value) (h : zH), zD 20 117 [some (.ref x), l1, l2, l3, l4] S h = zD 20 118 [some (.ref x), l1, l2, l3, l4] (.ref x :: S) h) ∧
  (∀ (l0 l1 l2 l3 l4 : Option Value) (a : Nat) (r : List Value) (h : zH) (hx : zfok (h.2.2 a) 7 0 = true), zD 20 118 [l0, l1, l2, l3, l4] (.ref a :: r) h = zD 20 121 [l0, l1, l2, l3, l4] (zfv (h.2.2 a) 0 :: r) h) ∧
  (∀ (l0 l1 l2 l3 : Option Value) (x : Int32) (S : List Value) (h : zH), zD 20 121 [l0, l1, l2, l3, some (.int x)] S h = zD 20 123 [l0, l1, l2, l3, some (.int x)] (.int x :: S) h) ∧
  (∀ (l0 l1 l2 l3 l4 : Option Value) (S : List Value) (h : zH), zD 20 123 [l0, l1, l2, l3, l4] S h = zD 20 124 [l0, l1, l2, l3, l4] (.int (1 : Int32) :: S) h) ∧
  (∀ (l0 l1 l2 l3 l4 : Option Value) (x y : Int32) (r : List Value) (h : zH), zD 20 124 [l0, l1, l2, l3, l4] (.int y :: .int x :: r) h = zD 20 125 [l0, l1, l2, l3, l4] (.int (x - y) :: r) h) ∧
  (∀ (l0 l1 l2 l3 l4 : Option Value) (i : Int32) (a : Nat) (r : List Value) (h : zH) (hx : zlok (h.2.2 a) i = true), zD 20 125 [l0, l1, l2, l3, l4] (.int i :: .ref a :: r) h = zD 20 126 [l0, l1, l2, l3, l4] (.long (zlv' (h.2.2 a) i) :: r) h) ∧
  (∀ (l0 l1 l2 l3 l4 : Option Value) (w : Int64) (i : Int32) (a : Nat) (r : List Value) (h : zH) (hx : zlok (h.2.2 a) i = true), zD 20 126 [l0, l1, l2, l3, l4] (.long w :: .int i :: .ref a :: r) h = zD 20 127 [l0, l1, l2, l3, l4] r (zw h a (zls' (h.2.2 a) i w))) ∧
  (∀ (l0 l1 l2 l3 : Option Value) (x : Int32) (S : List Value) (h : zH), zD 20 127 [l0, l1, l2, l3, some (.int x)] S h = zD 20 130 [l0, l1, l2, zclr l3, some (.int (x + (-1 : Int32)))] S h) ∧
  (∀ (l0 l1 l2 l3 l4 : Option Value) (S : List Value) (h : zH), zD 20 130 [l0, l1, l2, l3, l4] S h = zD 20 105 [l0, l1, l2, l3, l4] S h) ∧
  (∀ (l1 l2 l3 l4 : Option Value) (x : Nat) (S : List Value) (h : zH), zD 20 133 [some (.ref x), l1, l2, l3, l4] S h = zD 20 134 [some (.ref x), l1, l2, l3, l4] (.ref x :: S) h) ∧
  (∀ (l0 l1 l2 l3 l4 : Option Value) (a : Nat) (r : List Value) (h : zH) (hx : zfok (h.2.2 a) 7 0 = true), zD 20 134 [l0, l1, l2, l3, l4] (.ref a :: r) h = zD 20 137 [l0, l1, l2, l3, l4] (zfv (h.2.2 a) 0 :: r) h) ∧
  (∀ (l0 l1 l2 l4 : Option Value) (x : Int32) (S : List Value) (h : zH), zD 20 137 [l0, l1, l2, some (.int x), l4] S h = zD 20 138 [l0, l1, l2, some (.int x), l4] (.int x :: S) h) ∧
  (∀ (l0 l2 l3 l4 : Option Value) (x : Int64) (S : List Value) (h : zH), zD 20 138 [l0, some (.long x), l2, l3, l4] S h = zD 20 139 [l0, some (.long x), l2, l3, l4] (.long x :: S) h) ∧
  (∀ (l0 l1 l2 l3 l4 : Option Value) (w : Int64) (i : Int32) (a : Nat) (r : List Value) (h : zH) (hx : zlok (h.2.2 a) i = true), zD 20 139 [l0, l1, l2, l3, l4] (.long w :: .int i :: .ref a :: r) h = zD 20 140 [l0, l1, l2, l3, l4] r (zw h a (zls' (h.2.2 a) i w))) ∧
  (∀ (l0 l1 l2 l3 l4 : Option Value) (S : List Value) (h : zH), zD 20 140 [l0, l1, l2, l3, l4] S h = zD 20 141 [l0, l1, l2, l3, l4] (.int (1 : Int32) :: S) h) ∧
  (∀ (l0 l1 l2 l3 l4 : Option Value) (v : Int32) (h : zH) (hv : zbv v), zD 20 141 [l0, l1, l2, l3, l4] [.int v] h = some (some (.int v), h)) :=
  ⟨fun l1 l2 l3 l4 x S h => zD_op (ins := .aload_n 0) (len := 1) (c := (1, [some (.ref x), l1, l2, l3, l4], (.ref x :: S), h)) (by decide +kernel) rfl rfl rfl rfl,
  fun l0 l1 l2 l3 l4 a r h hx => zD_getf (i := 20) (ci := 7) (k := 1) (q := (136, 0)) (by decide +kernel) (by decide +kernel) hx,
  fun l1 l2 l3 l4 x S h => zD_op (ins := .aload_n 0) (len := 1) (c := (5, [some (.ref x), l1, l2, l3, l4], (.ref x :: S), h)) (by decide +kernel) rfl rfl rfl rfl,
  fun l0 l1 l2 l3 l4 a r h hx => zD_getf (i := 33) (ci := 7) (k := 2) (q := (138, 0)) (by decide +kernel) (by decide +kernel) hx,
  fun l0 l1 l2 l3 l4 x y r h => zD_if (cnd := .lt) (off := 21) (by decide +kernel) (by decide) rfl,
  fun l0 l2 l3 l4 x S h => zD_op (ins := .lload_n 1) (len := 1) (c := (12, [l0, some (.long x), l2, l3, l4], (.long x :: S), h)) (by decide +kernel) rfl rfl rfl rfl,
  fun l1 l2 l3 l4 x S h => zD_op (ins := .aload_n 0) (len := 1) (c := (13, [some (.ref x), l1, l2, l3, l4], (.ref x :: S), h)) (by decide +kernel) rfl rfl rfl rfl,
  fun l0 l1 l2 l3 l4 a r h hx => zD_getf (i := 9) (ci := 7) (k := 0) (q := (134, 0)) (by decide +kernel) (by decide +kernel) hx,
  fun l1 l2 l3 l4 x S h => zD_op (ins := .aload_n 0) (len := 1) (c := (17, [some (.ref x), l1, l2, l3, l4], (.ref x :: S), h)) (by decide +kernel) rfl rfl rfl rfl,
  fun l0 l1 l2 l3 l4 a r h hx => zD_getf (i := 33) (ci := 7) (k := 2) (q := (138, 0)) (by decide +kernel) (by decide +kernel) hx,
  fun l0 l1 l2 l3 l4 S h => zD_icst (n := 1) (by decide +kernel) (by decide +kernel),
  fun l0 l1 l2 l3 l4 x y r h => zD_op (ins := .isub) (len := 1) (c := (22, [l0, l1, l2, l3, l4], (.int (x - y) :: r), h)) (by decide +kernel) rfl rfl rfl rfl,
  fun l0 l1 l2 l3 l4 i a r h hx => zD_lald (by decide +kernel) hx,
  fun l0 l1 l2 l3 l4 x y r h => zD_op (ins := .lcmp) (len := 1) (c := (24, [l0, l1, l2, l3, l4], (.int (lg_cmp x y) :: r), h)) (by decide +kernel) rfl rfl rfl rfl,
  fun l0 l1 l2 l3 l4 x r h => zD_if0 (cnd := .gt) (off := 5) (by decide +kernel) (by decide) rfl,
  fun l0 l1 l2 l3 l4 S h => zD_icst (n := 0) (by decide +kernel) (by decide +kernel),
  fun l0 l1 l2 l3 l4 v h hv => zD_iretz (by decide +kernel) rfl hv,
  fun l1 l2 l3 l4 x S h => zD_op (ins := .aload_n 0) (len := 1) (c := (30, [some (.ref x), l1, l2, l3, l4], (.ref x :: S), h)) (by decide +kernel) rfl rfl rfl rfl,
  fun l0 l1 l2 l3 l4 a r h hx => zD_getf (i := 20) (ci := 7) (k := 1) (q := (136, 0)) (by decide +kernel) (by decide +kernel) hx,
  fun l0 l1 l2 l3 l4 x r h => zD_st1 (k := 3) (ins := .istore_n 3) (len := 1) (by decide +kernel) rfl rfl rfl (by decide +kernel) rfl rfl,
  fun l0 l1 l2 l3 l4 x r h => zD_if0 (cnd := .le) (off := 22) (by decide +kernel) (by decide) rfl,
  fun l1 l2 l3 l4 x S h => zD_op (ins := .aload_n 0) (len := 1) (c := (39, [some (.ref x), l1, l2, l3, l4], (.ref x :: S), h)) (by decide +kernel) rfl rfl rfl rfl,
  fun l0 l1 l2 l3 l4 a r h hx => zD_getf (i := 9) (ci := 7) (k := 0) (q := (134, 0)) (by decide +kernel) (by decide +kernel) hx,
  fun l0 l1 l2 l4 x S h => zD_op (ins := .iload_n 3) (len := 1) (c := (43, [l0, l1, l2, some (.int x), l4], (.int x :: S), h)) (by decide +kernel) rfl rfl rfl rfl,
  fun l0 l1 l2 l3 l4 S h => zD_icst (n := 1) (by decide +kernel) (by decide +kernel),
  fun l0 l1 l2 l3 l4 x y r h => zD_op (ins := .isub) (len := 1) (c := (45, [l0, l1, l2, l3, l4], (.int (x - y) :: r), h)) (by decide +kernel) rfl rfl rfl rfl,
  fun l0 l1 l2 l3 l4 i a r h hx => zD_lald (by decide +kernel) hx,
  fun l0 l2 l3 l4 x S h => zD_op (ins := .lload_n 1) (len := 1) (c := (47, [l0, some (.long x), l2, l3, l4], (.long x :: S), h)) (by decide +kernel) rfl rfl rfl rfl,
  fun l0 l1 l2 l3 l4 x y r h => zD_op (ins := .lcmp) (len := 1) (c := (48, [l0, l1, l2, l3, l4], (.int (lg_cmp x y) :: r), h)) (by decide +kernel) rfl rfl rfl rfl,
  fun l0 l1 l2 l3 l4 x r h => zD_if0 (cnd := .ge) (off := 9) (by decide +kernel) (by decide) rfl,
  fun l0 l1 l2 l4 x S h => zD_iinc (k := 3) (x := x) (c := (-1 : Int32)) (n := (-1)) (by decide +kernel) (by decide +kernel) rfl (by decide +kernel) rfl,
  fun l0 l1 l2 l3 l4 S h => zD_goto (off := (-20)) (by decide +kernel) (by decide),
  fun l0 l1 l2 l3 l4 x r h => zD_if0 (cnd := .le) (off := 18) (by decide +kernel) (by decide) rfl,
  fun l1 l2 l3 l4 x S h => zD_op (ins := .aload_n 0) (len := 1) (c := (62, [some (.ref x), l1, l2, l3, l4], (.ref x :: S), h)) (by decide +kernel) rfl rfl rfl rfl,
  fun l0 l1 l2 l3 l4 a r h hx => zD_getf (i := 9) (ci := 7) (k := 0) (q := (134, 0)) (by decide +kernel) (by decide +kernel) hx,
  fun l0 l1 l2 l4 x S h => zD_op (ins := .iload_n 3) (len := 1) (c := (66, [l0, l1, l2, some (.int x), l4], (.int x :: S), h)) (by decide +kernel) rfl rfl rfl rfl,
  fun l0 l1 l2 l3 l4 S h => zD_icst (n := 1) (by decide +kernel) (by decide +kernel),
  fun l0 l1 l2 l3 l4 x y r h => zD_op (ins := .isub) (len := 1) (c := (68, [l0, l1, l2, l3, l4], (.int (x - y) :: r), h)) (by decide +kernel) rfl rfl rfl rfl,
  fun l0 l1 l2 l3 l4 i a r h hx => zD_lald (by decide +kernel) hx,
  fun l0 l2 l3 l4 x S h => zD_op (ins := .lload_n 1) (len := 1) (c := (70, [l0, some (.long x), l2, l3, l4], (.long x :: S), h)) (by decide +kernel) rfl rfl rfl rfl,
  fun l0 l1 l2 l3 l4 x y r h => zD_op (ins := .lcmp) (len := 1) (c := (71, [l0, l1, l2, l3, l4], (.int (lg_cmp x y) :: r), h)) (by decide +kernel) rfl rfl rfl rfl,
  fun l0 l1 l2 l3 l4 x r h => zD_if0 (cnd := .ne) (off := 5) (by decide +kernel) (by decide) rfl,
  fun l0 l1 l2 l3 l4 S h => zD_icst (n := 1) (by decide +kernel) (by decide +kernel),
  fun l0 l1 l2 l3 l4 v h hv => zD_iretz (by decide +kernel) rfl hv,
  fun l1 l2 l3 l4 x S h => zD_op (ins := .aload_n 0) (len := 1) (c := (77, [some (.ref x), l1, l2, l3, l4], (.ref x :: S), h)) (by decide +kernel) rfl rfl rfl rfl,
  fun l0 l1 l2 l3 l4 a r h hx => zD_getf (i := 20) (ci := 7) (k := 1) (q := (136, 0)) (by decide +kernel) (by decide +kernel) hx,
  fun l1 l2 l3 l4 x S h => zD_op (ins := .aload_n 0) (len := 1) (c := (81, [some (.ref x), l1, l2, l3, l4], (.ref x :: S), h)) (by decide +kernel) rfl rfl rfl rfl,
  fun l0 l1 l2 l3 l4 a r h hx => zD_getf (i := 33) (ci := 7) (k := 2) (q := (138, 0)) (by decide +kernel) (by decide +kernel) hx,
  fun l0 l1 l2 l3 l4 x y r h => zD_if (cnd := .ge) (off := 13) (by decide +kernel) (by decide) rfl,
  fun l1 l2 l3 l4 x S h => zD_op (ins := .aload_n 0) (len := 1) (c := (88, [some (.ref x), l1, l2, l3, l4], (.ref x :: S), h)) (by decide +kernel) rfl rfl rfl rfl,
  fun l0 l1 l2 l3 l4 x r h => zD_op (ins := .dup) (len := 1) (c := (89, [l0, l1, l2, l3, l4], (.int x :: .int x :: r), h)) (by decide +kernel) rfl rfl rfl rfl,
  fun l0 l1 l2 l3 l4 x r h => zD_op (ins := .dup) (len := 1) (c := (89, [l0, l1, l2, l3, l4], (.ref x :: .ref x :: r), h)) (by decide +kernel) rfl rfl rfl rfl,
  fun l0 l1 l2 l3 l4 a r h hx => zD_getf (i := 20) (ci := 7) (k := 1) (q := (136, 0)) (by decide +kernel) (by decide +kernel) hx,
  fun l0 l1 l2 l3 l4 S h => zD_icst (n := 1) (by decide +kernel) (by decide +kernel),
  fun l0 l1 l2 l3 l4 x y r h => zD_op (ins := .iadd) (len := 1) (c := (94, [l0, l1, l2, l3, l4], (.int (x + y) :: r), h)) (by decide +kernel) rfl rfl rfl rfl,
  fun l0 l1 l2 l3 l4 v a r h hx => zD_putf (i := 20) (ci := 7) (k := 1) (q := (136, 0)) (by decide +kernel) (by decide +kernel) (by decide +kernel) hx rfl rfl,
  fun l1 l2 l3 l4 x S h => zD_op (ins := .aload_n 0) (len := 1) (c := (98, [some (.ref x), l1, l2, l3, l4], (.ref x :: S), h)) (by decide +kernel) rfl rfl rfl rfl,
  fun l0 l1 l2 l3 l4 a r h hx => zD_getf (i := 20) (ci := 7) (k := 1) (q := (136, 0)) (by decide +kernel) (by decide +kernel) hx,
  fun l0 l1 l2 l3 l4 S h => zD_icst (n := 1) (by decide +kernel) (by decide +kernel),
  fun l0 l1 l2 l3 l4 x y r h => zD_op (ins := .isub) (len := 1) (c := (103, [l0, l1, l2, l3, l4], (.int (x - y) :: r), h)) (by decide +kernel) rfl rfl rfl rfl,
  fun l0 l1 l2 l3 l4 x r h => zD_st1 (k := 4) (ins := .istore 4) (len := 2) (by decide +kernel) rfl rfl rfl (by decide +kernel) rfl rfl,
  fun l0 l1 l2 l4 x S h => zD_op (ins := .iload_n 3) (len := 1) (c := (108, [l0, l1, l2, some (.int x), l4], (.int x :: S), h)) (by decide +kernel) rfl rfl rfl rfl,
  fun l0 l1 l2 l3 l4 x y r h => zD_if (cnd := .le) (off := 25) (by decide +kernel) (by decide) rfl,
  fun l1 l2 l3 l4 x S h => zD_op (ins := .aload_n 0) (len := 1) (c := (112, [some (.ref x), l1, l2, l3, l4], (.ref x :: S), h)) (by decide +kernel) rfl rfl rfl rfl,
  fun l0 l1 l2 l3 l4 a r h hx => zD_getf (i := 9) (ci := 7) (k := 0) (q := (134, 0)) (by decide +kernel) (by decide +kernel) hx,
  fun l0 l1 l2 l3 x S h => zD_op (ins := .iload 4) (len := 2) (c := (117, [l0, l1, l2, l3, some (.int x)], (.int x :: S), h)) (by decide +kernel) rfl rfl rfl rfl,
  fun l1 l2 l3 l4 x S h => zD_op (ins := .aload_n 0) (len := 1) (c := (118, [some (.ref x), l1, l2, l3, l4], (.ref x :: S), h)) (by decide +kernel) rfl rfl rfl rfl,
  fun l0 l1 l2 l3 l4 a r h hx => zD_getf (i := 9) (ci := 7) (k := 0) (q := (134, 0)) (by decide +kernel) (by decide +kernel) hx,
  fun l0 l1 l2 l3 x S h => zD_op (ins := .iload 4) (len := 2) (c := (123, [l0, l1, l2, l3, some (.int x)], (.int x :: S), h)) (by decide +kernel) rfl rfl rfl rfl,
  fun l0 l1 l2 l3 l4 S h => zD_icst (n := 1) (by decide +kernel) (by decide +kernel),
  fun l0 l1 l2 l3 l4 x y r h => zD_op (ins := .isub) (len := 1) (c := (125, [l0, l1, l2, l3, l4], (.int (x - y) :: r), h)) (by decide +kernel) rfl rfl rfl rfl,
  fun l0 l1 l2 l3 l4 i a r h hx => zD_lald (by decide +kernel) hx,
  fun l0 l1 l2 l3 l4 w i a r h hx => zD_last (by decide +kernel) hx,
  fun l0 l1 l2 l3 x S h => zD_iinc (k := 4) (x := x) (c := (-1 : Int32)) (n := (-1)) (by decide +kernel) (by decide +kernel) rfl (by decide +kernel) rfl,
  fun l0 l1 l2 l3 l4 S h => zD_goto (off := (-25)) (by decide +kernel) (by decide),
  fun l1 l2 l3 l4 x S h => zD_op (ins := .aload_n 0) (len := 1) (c := (134, [some (.ref x), l1, l2, l3, l4], (.ref x :: S), h)) (by decide +kernel) rfl rfl rfl rfl,
  fun l0 l1 l2 l3 l4 a r h hx => zD_getf (i := 9) (ci := 7) (k := 0) (q := (134, 0)) (by decide +kernel) (by decide +kernel) hx,
  fun l0 l1 l2 l4 x S h => zD_op (ins := .iload_n 3) (len := 1) (c := (138, [l0, l1, l2, some (.int x), l4], (.int x :: S), h)) (by decide +kernel) rfl rfl rfl rfl,
  fun l0 l2 l3 l4 x S h => zD_op (ins := .lload_n 1) (len := 1) (c := (139, [l0, some (.long x), l2, l3, l4], (.long x :: S), h)) (by decide +kernel) rfl rfl rfl rfl,
  fun l0 l1 l2 l3 l4 w i a r h hx => zD_last (by decide +kernel) hx,
  fun l0 l1 l2 l3 l4 S h => zD_icst (n := 1) (by decide +kernel) (by decide +kernel),
  fun l0 l1 l2 l3 l4 v h hv => zD_iretz (by decide +kernel) rfl hv⟩
set_option maxRecDepth 100000 in
theorem E_X8_offer_h34 : (∀ (l0 l1 l2 l4 : Option Value) (x : Int32) (S : List Value) (h : zH), zD 20 34 [l0, l1, l2, some (.int x), l4] S h = zD 20 35 [l0, l1, l2, some (.int x), l4] (.int x :: S) h) :=
  fun l0 l1 l2 l4 x S h => zD_op (ins := .iload_n 3) (len := 1) (c := (35, [l0, l1, l2, some (.int x), l4], (.int x :: S), h)) (by decide +kernel) rfl rfl rfl rfl
set_option maxRecDepth 100000 in
theorem E_X8_offer_h57 : (∀ (l0 l1 l2 l4 : Option Value) (x : Int32) (S : List Value) (h : zH), zD 20 57 [l0, l1, l2, some (.int x), l4] S h = zD 20 58 [l0, l1, l2, some (.int x), l4] (.int x :: S) h) :=
  fun l0 l1 l2 l4 x S h => zD_op (ins := .iload_n 3) (len := 1) (c := (58, [l0, l1, l2, some (.int x), l4], (.int x :: S), h)) (by decide +kernel) rfl rfl rfl rfl
set_option maxRecDepth 100000 in
theorem E_X8_offer_h105 : (∀ (l0 l1 l2 l3 : Option Value) (x : Int32) (S : List Value) (h : zH), zD 20 105 [l0, l1, l2, l3, some (.int x)] S h = zD 20 107 [l0, l1, l2, l3, some (.int x)] (.int x :: S) h) :=
  fun l0 l1 l2 l3 x S h => zD_op (ins := .iload 4) (len := 2) (c := (107, [l0, l1, l2, l3, some (.int x)], (.int x :: S), h)) (by decide +kernel) rfl rfl rfl rfl
set_option maxRecDepth 100000 in
theorem I_X8_offer : (∀ (a : Nat) (p0 : Int64) (h : zH), zC 20 [.ref a, .long p0] h = zD 20 0 [some (.ref a), some (.long p0), none, none, none] [] h) :=
  fun a p0 h => zC_def rfl
set_option maxRecDepth 100000 in
theorem E_X9_clear : (∀ (l1 : Option Value) (x : Nat) (S : List Value) (h : zH), zD 21 0 [some (.ref x), l1] S h = zD 21 1 [some (.ref x), l1] (.ref x :: S) h) ∧
  (∀ (l0 l1 : Option Value) (a : Nat) (r : List Value) (h : zH) (hx : zfok (h.2.2 a) 8 6 = true), zD 21 1 [l0, l1] (.ref a :: r) h = zD 21 4 [l0, l1] (zfv (h.2.2 a) 6 :: r) h) ∧
  (∀ (l0 l1 : Option Value) (a : Nat) (r : List Value) (h : zH) (hx : zfok (h.2.2 a) 4 3 = true), zD 21 4 [l0, l1] (.ref a :: r) h = zD 21 7 [l0, l1] (zfv (h.2.2 a) 3 :: r) h) ∧
  (∀ (l0 l1 : Option Value) (x : Int32) (r : List Value) (h : zH), zD 21 7 [l0, l1] (.int x :: r) h = zD 21 8 [zclr l0, some (.int x)] r h) ∧
  (∀ (l1 : Option Value) (x : Nat) (S : List Value) (h : zH), zD 21 8 [some (.ref x), l1] S h = zD 21 9 [some (.ref x), l1] (.ref x :: S) h) ∧
  (∀ (l0 l1 : Option Value) (a : Nat) (r : List Value) (h : zH) (hx : zfok (h.2.2 a) 8 6 = true), zD 21 9 [l0, l1] (.ref a :: r) h = zD 21 12 [l0, l1] (zfv (h.2.2 a) 6 :: r) h) ∧
  (∀ (l0 l1 : Option Value) (S : List Value) (h : zH), zD 21 12 [l0, l1] S h = zD 21 13 [l0, l1] (.int (0 : Int32) :: S) h) ∧
  (∀ (l0 l1 : Option Value) (v : Int32) (a : Nat) (r : List Value) (h : zH) (hx : zfok (h.2.2 a) 4 3 = true), zD 21 13 [l0, l1] (.int v :: .ref a :: r) h = zD 21 16 [l0, l1] r (zw h a (zfs' (h.2.2 a) 3 (.int v)))) ∧
  (∀ (l0 : Option Value) (x : Int32) (S : List Value) (h : zH), zD 21 16 [l0, some (.int x)] S h = zD 21 17 [l0, some (.int x)] (.int x :: S) h) ∧
  (∀ (l0 l1 : Option Value) (v : Int32) (h : zH), zD 21 17 [l0, l1] [.int v] h = some (some (.int v), h)) :=
  ⟨fun l1 x S h => zD_op (ins := .aload_n 0) (len := 1) (c := (1, [some (.ref x), l1], (.ref x :: S), h)) (by decide +kernel) rfl rfl rfl rfl,
  fun l0 l1 a r h hx => zD_getf (i := 62) (ci := 8) (k := 6) (q := (254, 0)) (by decide +kernel) (by decide +kernel) hx,
  fun l0 l1 a r h hx => zD_getf (i := 215) (ci := 4) (k := 3) (q := (219, 1)) (by decide +kernel) (by decide +kernel) hx,
  fun l0 l1 x r h => zD_st1 (k := 1) (ins := .istore_n 1) (len := 1) (by decide +kernel) rfl rfl rfl (by decide +kernel) rfl rfl,
  fun l1 x S h => zD_op (ins := .aload_n 0) (len := 1) (c := (9, [some (.ref x), l1], (.ref x :: S), h)) (by decide +kernel) rfl rfl rfl rfl,
  fun l0 l1 a r h hx => zD_getf (i := 62) (ci := 8) (k := 6) (q := (254, 0)) (by decide +kernel) (by decide +kernel) hx,
  fun l0 l1 S h => zD_icst (n := 0) (by decide +kernel) (by decide +kernel),
  fun l0 l1 v a r h hx => zD_putf (i := 215) (ci := 4) (k := 3) (q := (219, 1)) (by decide +kernel) (by decide +kernel) (by decide +kernel) hx rfl rfl,
  fun l0 x S h => zD_op (ins := .iload_n 1) (len := 1) (c := (17, [l0, some (.int x)], (.int x :: S), h)) (by decide +kernel) rfl rfl rfl rfl,
  fun l0 l1 v h => zD_ireti (by decide +kernel) rfl⟩
set_option maxRecDepth 100000 in
theorem I_X9_clear : (∀ (a : Nat) (h : zH), zC 21 [.ref a] h = zD 21 0 [some (.ref a), none] [] h) :=
  fun a h => zC_def rfl
set_option maxRecDepth 100000 in
theorem E_X9_mixed : (∀ (l0 l1 l2 : Option Value) (S : List Value) (h : zH), zD 22 0 [l0, l1, l2] S h = zD 22 3 [l0, l1, l2] (.long (31 : Int64) :: S) h) ∧
  (∀ (l1 l2 : Option Value) (x : Int64) (S : List Value) (h : zH), zD 22 3 [some (.long x), l1, l2] S h = zD 22 4 [some (.long x), l1, l2] (.long x :: S) h) ∧
  (∀ (l0 l1 l2 : Option Value) (x y : Int64) (r : List Value) (h : zH), zD 22 4 [l0, l1, l2] (.long y :: .long x :: r) h = zD 22 5 [l0, l1, l2] (.long (x * y) :: r) h) ∧
  (∀ (l0 l1 : Option Value) (x : Int32) (S : List Value) (h : zH), zD 22 5 [l0, l1, some (.int x)] S h = zD 22 6 [l0, l1, some (.int x)] (.int x :: S) h) ∧
  (∀ (l0 l1 l2 : Option Value) (x : Int32) (r : List Value) (h : zH), zD 22 6 [l0, l1, l2] (.int x :: r) h = zD 22 7 [l0, l1, l2] (.long x.toInt64 :: r) h) ∧
  (∀ (l0 l1 l2 : Option Value) (x y : Int64) (r : List Value) (h : zH), zD 22 7 [l0, l1, l2] (.long y :: .long x :: r) h = zD 22 8 [l0, l1, l2] (.long (x + y) :: r) h) ∧
  (∀ (l0 l1 l2 : Option Value) (v : Int64) (h : zH), zD 22 8 [l0, l1, l2] [.long v] h = some (some (.long v), h)) :=
  ⟨fun l0 l1 l2 S h => zD_ldc2 (i := 272) (q := 697) (by decide +kernel) (by decide +kernel),
  fun l1 l2 x S h => zD_op (ins := .lload_n 0) (len := 1) (c := (4, [some (.long x), l1, l2], (.long x :: S), h)) (by decide +kernel) rfl rfl rfl rfl,
  fun l0 l1 l2 x y r h => zD_op (ins := .lmul) (len := 1) (c := (5, [l0, l1, l2], (.long (x * y) :: r), h)) (by decide +kernel) rfl rfl rfl rfl,
  fun l0 l1 x S h => zD_op (ins := .iload_n 2) (len := 1) (c := (6, [l0, l1, some (.int x)], (.int x :: S), h)) (by decide +kernel) rfl rfl rfl rfl,
  fun l0 l1 l2 x r h => zD_op (ins := .i2l) (len := 1) (c := (7, [l0, l1, l2], (.long x.toInt64 :: r), h)) (by decide +kernel) rfl rfl rfl rfl,
  fun l0 l1 l2 x y r h => zD_op (ins := .ladd) (len := 1) (c := (8, [l0, l1, l2], (.long (x + y) :: r), h)) (by decide +kernel) rfl rfl rfl rfl,
  fun l0 l1 l2 v h => zD_lret (by decide +kernel) rfl⟩
set_option maxRecDepth 100000 in
theorem I_X9_mixed : (∀ (p0 : Int64) (p1 : Int32) (h : zH), zC 22 [.long p0, .int p1] h = zD 22 0 [some (.long p0), none, some (.int p1)] [] h) :=
  fun p0 p1 h => zC_def rfl
set_option maxRecDepth 100000 in
theorem E_X9_isWordTag : (∀ (x : Int32) (S : List Value) (h : zH), zD 23 0 [some (.int x)] S h = zD 23 1 [some (.int x)] (.int x :: S) h) ∧
  (∀ (l0 : Option Value) (x : Int32) (r : List Value) (h : zH), zD 23 1 [l0] (.int x :: r) h = if x < 0 then zD 23 14 [l0] r h else zD 23 4 [l0] r h) ∧
  (∀ (x : Int32) (S : List Value) (h : zH), zD 23 4 [some (.int x)] S h = zD 23 5 [some (.int x)] (.int x :: S) h) ∧
  (∀ (l0 : Option Value) (S : List Value) (h : zH), zD 23 5 [l0] S h = zD 23 7 [l0] (.int (10 : Int32) :: S) h) ∧
  (∀ (l0 : Option Value) (x y : Int32) (r : List Value) (h : zH), zD 23 7 [l0] (.int y :: .int x :: r) h = if y ≤ x then zD 23 14 [l0] r h else zD 23 10 [l0] r h) ∧
  (∀ (l0 : Option Value) (S : List Value) (h : zH), zD 23 10 [l0] S h = zD 23 11 [l0] (.int (1 : Int32) :: S) h) ∧
  (∀ (l0 : Option Value) (S : List Value) (h : zH), zD 23 11 [l0] S h = zD 23 15 [l0] S h) ∧
  (∀ (l0 : Option Value) (S : List Value) (h : zH), zD 23 14 [l0] S h = zD 23 15 [l0] (.int (0 : Int32) :: S) h) ∧
  (∀ (l0 : Option Value) (v : Int32) (h : zH) (hv : zbv v), zD 23 15 [l0] [.int v] h = some (some (.int v), h)) :=
  ⟨fun x S h => zD_op (ins := .iload_n 0) (len := 1) (c := (1, [some (.int x)], (.int x :: S), h)) (by decide +kernel) rfl rfl rfl rfl,
  fun l0 x r h => zD_if0 (cnd := .lt) (off := 13) (by decide +kernel) (by decide) rfl,
  fun x S h => zD_op (ins := .iload_n 0) (len := 1) (c := (5, [some (.int x)], (.int x :: S), h)) (by decide +kernel) rfl rfl rfl rfl,
  fun l0 S h => zD_bip (n := 10) (by decide +kernel) (by decide +kernel),
  fun l0 x y r h => zD_if (cnd := .ge) (off := 7) (by decide +kernel) (by decide) rfl,
  fun l0 S h => zD_icst (n := 1) (by decide +kernel) (by decide +kernel),
  fun l0 S h => zD_goto (off := 4) (by decide +kernel) (by decide),
  fun l0 S h => zD_icst (n := 0) (by decide +kernel) (by decide +kernel),
  fun l0 v h hv => zD_iretz (by decide +kernel) rfl hv⟩
set_option maxRecDepth 100000 in
theorem I_X9_isWordTag : (∀ (p0 : Int32) (h : zH), zC 23 [.int p0] h = zD 23 0 [some (.int p0)] [] h) :=
  fun p0 h => zC_def rfl
set_option maxRecDepth 100000 in
theorem E_X9_isSort : (∀ (x : Int32) (S : List Value) (h : zH), zD 24 0 [some (.int x)] S h = zD 24 1 [some (.int x)] (.int x :: S) h) ∧
  (∀ (l0 : Option Value) (x : Int32) (r : List Value) (h : zH), zD 24 1 [l0] (.int x :: r) h = if x = 0 then zD 24 9 [l0] r h else zD 24 4 [l0] r h) ∧
  (∀ (x : Int32) (S : List Value) (h : zH), zD 24 4 [some (.int x)] S h = zD 24 5 [some (.int x)] (.int x :: S) h) ∧
  (∀ (l0 : Option Value) (S : List Value) (h : zH), zD 24 5 [l0] S h = zD 24 6 [l0] (.int (1 : Int32) :: S) h) ∧
  (∀ (l0 : Option Value) (x y : Int32) (r : List Value) (h : zH), zD 24 6 [l0] (.int y :: .int x :: r) h = if ¬ x = y then zD 24 13 [l0] r h else zD 24 9 [l0] r h) ∧
  (∀ (l0 : Option Value) (S : List Value) (h : zH), zD 24 9 [l0] S h = zD 24 10 [l0] (.int (1 : Int32) :: S) h) ∧
  (∀ (l0 : Option Value) (S : List Value) (h : zH), zD 24 10 [l0] S h = zD 24 14 [l0] S h) ∧
  (∀ (l0 : Option Value) (S : List Value) (h : zH), zD 24 13 [l0] S h = zD 24 14 [l0] (.int (0 : Int32) :: S) h) ∧
  (∀ (l0 : Option Value) (v : Int32) (h : zH) (hv : zbv v), zD 24 14 [l0] [.int v] h = some (some (.int v), h)) :=
  ⟨fun x S h => zD_op (ins := .iload_n 0) (len := 1) (c := (1, [some (.int x)], (.int x :: S), h)) (by decide +kernel) rfl rfl rfl rfl,
  fun l0 x r h => zD_if0 (cnd := .eq) (off := 8) (by decide +kernel) (by decide) rfl,
  fun x S h => zD_op (ins := .iload_n 0) (len := 1) (c := (5, [some (.int x)], (.int x :: S), h)) (by decide +kernel) rfl rfl rfl rfl,
  fun l0 S h => zD_icst (n := 1) (by decide +kernel) (by decide +kernel),
  fun l0 x y r h => zD_if (cnd := .ne) (off := 7) (by decide +kernel) (by decide) rfl,
  fun l0 S h => zD_icst (n := 1) (by decide +kernel) (by decide +kernel),
  fun l0 S h => zD_goto (off := 4) (by decide +kernel) (by decide),
  fun l0 S h => zD_icst (n := 0) (by decide +kernel) (by decide +kernel),
  fun l0 v h hv => zD_iretz (by decide +kernel) rfl hv⟩
set_option maxRecDepth 100000 in
theorem I_X9_isSort : (∀ (p0 : Int32) (h : zH), zC 24 [.int p0] h = zD 24 0 [some (.int p0)] [] h) :=
  fun p0 h => zC_def rfl
set_option maxRecDepth 100000 in
theorem E_X9_isVariable : (∀ (x : Int32) (S : List Value) (h : zH), zD 25 0 [some (.int x)] S h = zD 25 1 [some (.int x)] (.int x :: S) h) ∧
  (∀ (l0 : Option Value) (x : Int32) (r : List Value) (h : zH), zD 25 1 [l0] (.int x :: r) h = if x < 0 then zD 25 13 [l0] r h else zD 25 4 [l0] r h) ∧
  (∀ (x : Int32) (S : List Value) (h : zH), zD 25 4 [some (.int x)] S h = zD 25 5 [some (.int x)] (.int x :: S) h) ∧
  (∀ (l0 : Option Value) (S : List Value) (h : zH), zD 25 5 [l0] S h = zD 25 6 [l0] (.int (4 : Int32) :: S) h) ∧
  (∀ (l0 : Option Value) (x y : Int32) (r : List Value) (h : zH), zD 25 6 [l0] (.int y :: .int x :: r) h = if y ≤ x then zD 25 13 [l0] r h else zD 25 9 [l0] r h) ∧
  (∀ (l0 : Option Value) (S : List Value) (h : zH), zD 25 9 [l0] S h = zD 25 10 [l0] (.int (1 : Int32) :: S) h) ∧
  (∀ (l0 : Option Value) (S : List Value) (h : zH), zD 25 10 [l0] S h = zD 25 14 [l0] S h) ∧
  (∀ (l0 : Option Value) (S : List Value) (h : zH), zD 25 13 [l0] S h = zD 25 14 [l0] (.int (0 : Int32) :: S) h) ∧
  (∀ (l0 : Option Value) (v : Int32) (h : zH) (hv : zbv v), zD 25 14 [l0] [.int v] h = some (some (.int v), h)) :=
  ⟨fun x S h => zD_op (ins := .iload_n 0) (len := 1) (c := (1, [some (.int x)], (.int x :: S), h)) (by decide +kernel) rfl rfl rfl rfl,
  fun l0 x r h => zD_if0 (cnd := .lt) (off := 12) (by decide +kernel) (by decide) rfl,
  fun x S h => zD_op (ins := .iload_n 0) (len := 1) (c := (5, [some (.int x)], (.int x :: S), h)) (by decide +kernel) rfl rfl rfl rfl,
  fun l0 S h => zD_icst (n := 4) (by decide +kernel) (by decide +kernel),
  fun l0 x y r h => zD_if (cnd := .ge) (off := 7) (by decide +kernel) (by decide) rfl,
  fun l0 S h => zD_icst (n := 1) (by decide +kernel) (by decide +kernel),
  fun l0 S h => zD_goto (off := 4) (by decide +kernel) (by decide),
  fun l0 S h => zD_icst (n := 0) (by decide +kernel) (by decide +kernel),
  fun l0 v h hv => zD_iretz (by decide +kernel) rfl hv⟩
set_option maxRecDepth 100000 in
theorem I_X9_isVariable : (∀ (p0 : Int32) (h : zH), zC 25 [.int p0] h = zD 25 0 [some (.int p0)] [] h) :=
  fun p0 h => zC_def rfl
set_option maxRecDepth 100000 in
theorem E_X10_in : (∀ (l1 l2 : Option Value) (x : Int32) (S : List Value) (h : zH), zD 26 0 [some (.int x), l1, l2] S h = zD 26 1 [some (.int x), l1, l2] (.int x :: S) h) ∧
  (∀ (l0 l2 : Option Value) (x : Int32) (S : List Value) (h : zH), zD 26 1 [l0, some (.int x), l2] S h = zD 26 2 [l0, some (.int x), l2] (.int x :: S) h) ∧
  (∀ (l0 l1 l2 : Option Value) (x y : Int32) (r : List Value) (h : zH), zD 26 2 [l0, l1, l2] (.int y :: .int x :: r) h = if x < y then zD 26 14 [l0, l1, l2] r h else zD 26 5 [l0, l1, l2] r h) ∧
  (∀ (l1 l2 : Option Value) (x : Int32) (S : List Value) (h : zH), zD 26 5 [some (.int x), l1, l2] S h = zD 26 6 [some (.int x), l1, l2] (.int x :: S) h) ∧
  (∀ (l0 l1 : Option Value) (x : Int32) (S : List Value) (h : zH), zD 26 6 [l0, l1, some (.int x)] S h = zD 26 7 [l0, l1, some (.int x)] (.int x :: S) h) ∧
  (∀ (l0 l1 l2 : Option Value) (x y : Int32) (r : List Value) (h : zH), zD 26 7 [l0, l1, l2] (.int y :: .int x :: r) h = if y < x then zD 26 14 [l0, l1, l2] r h else zD 26 10 [l0, l1, l2] r h) ∧
  (∀ (l0 l1 l2 : Option Value) (S : List Value) (h : zH), zD 26 10 [l0, l1, l2] S h = zD 26 11 [l0, l1, l2] (.int (1 : Int32) :: S) h) ∧
  (∀ (l0 l1 l2 : Option Value) (S : List Value) (h : zH), zD 26 11 [l0, l1, l2] S h = zD 26 15 [l0, l1, l2] S h) ∧
  (∀ (l0 l1 l2 : Option Value) (S : List Value) (h : zH), zD 26 14 [l0, l1, l2] S h = zD 26 15 [l0, l1, l2] (.int (0 : Int32) :: S) h) ∧
  (∀ (l0 l1 l2 : Option Value) (v : Int32) (h : zH) (hv : zbv v), zD 26 15 [l0, l1, l2] [.int v] h = some (some (.int v), h)) :=
  ⟨fun l1 l2 x S h => zD_op (ins := .iload_n 0) (len := 1) (c := (1, [some (.int x), l1, l2], (.int x :: S), h)) (by decide +kernel) rfl rfl rfl rfl,
  fun l0 l2 x S h => zD_op (ins := .iload_n 1) (len := 1) (c := (2, [l0, some (.int x), l2], (.int x :: S), h)) (by decide +kernel) rfl rfl rfl rfl,
  fun l0 l1 l2 x y r h => zD_if (cnd := .lt) (off := 12) (by decide +kernel) (by decide) rfl,
  fun l1 l2 x S h => zD_op (ins := .iload_n 0) (len := 1) (c := (6, [some (.int x), l1, l2], (.int x :: S), h)) (by decide +kernel) rfl rfl rfl rfl,
  fun l0 l1 x S h => zD_op (ins := .iload_n 2) (len := 1) (c := (7, [l0, l1, some (.int x)], (.int x :: S), h)) (by decide +kernel) rfl rfl rfl rfl,
  fun l0 l1 l2 x y r h => zD_if (cnd := .gt) (off := 7) (by decide +kernel) (by decide) rfl,
  fun l0 l1 l2 S h => zD_icst (n := 1) (by decide +kernel) (by decide +kernel),
  fun l0 l1 l2 S h => zD_goto (off := 4) (by decide +kernel) (by decide),
  fun l0 l1 l2 S h => zD_icst (n := 0) (by decide +kernel) (by decide +kernel),
  fun l0 l1 l2 v h hv => zD_iretz (by decide +kernel) rfl hv⟩
set_option maxRecDepth 100000 in
theorem I_X10_in : (∀ (p0 : Int32) (p1 : Int32) (p2 : Int32) (h : zH), zC 26 [.int p0, .int p1, .int p2] h = zD 26 0 [some (.int p0), some (.int p1), some (.int p2)] [] h) :=
  fun p0 p1 p2 h => zC_def rfl
set_option maxRecDepth 100000 in
theorem E_X10_begin : (∀ (l1 l2 : Option Value) (x : Nat) (S : List Value) (h : zH), zD 27 0 [some (.ref x), l1, l2] S h = zD 27 1 [some (.ref x), l1, l2] (.ref x :: S) h) ∧
  (∀ (l0 l2 : Option Value) (x : Int32) (S : List Value) (h : zH), zD 27 1 [l0, some (.int x), l2] S h = zD 27 2 [l0, some (.int x), l2] (.int x :: S) h) ∧
  (∀ (l0 l1 l2 : Option Value) (v : Int32) (a : Nat) (r : List Value) (h : zH) (hx : zfok (h.2.2 a) 9 0 = true), zD 27 2 [l0, l1, l2] (.int v :: .ref a :: r) h = zD 27 5 [l0, l1, l2] r (zw h a (zfs' (h.2.2 a) 0 (.int v)))) ∧
  (∀ (l1 l2 : Option Value) (x : Nat) (S : List Value) (h : zH), zD 27 5 [some (.ref x), l1, l2] S h = zD 27 6 [some (.ref x), l1, l2] (.ref x :: S) h) ∧
  (∀ (l0 l1 l2 : Option Value) (S : List Value) (h : zH), zD 27 6 [l0, l1, l2] S h = zD 27 7 [l0, l1, l2] (.int (0 : Int32) :: S) h) ∧
  (∀ (l0 l1 l2 : Option Value) (v : Int32) (a : Nat) (r : List Value) (h : zH) (hx : zfok (h.2.2 a) 9 5 = true) (hf : fits .boolean (.int v) = true) (hn : zbv v), zD 27 7 [l0, l1, l2] (.int v :: .ref a :: r) h = zD 27 10 [l0, l1, l2] r (zw h a (zfs' (h.2.2 a) 5 (.int v)))) ∧
  (∀ (l0 l1 l2 : Option Value) (S : List Value) (h : zH), zD 27 10 [l0, l1, l2] S h = zD 27 11 [l0, l1, l2] (.int (0 : Int32) :: S) h) ∧
  (∀ (l0 l1 l2 : Option Value) (x : Int32) (r : List Value) (h : zH), zD 27 11 [l0, l1, l2] (.int x :: r) h = zD 27 12 [l0, zclr l1, some (.int x)] r h) ∧
  (∀ (l0 l1 l2 : Option Value) (S : List Value) (h : zH), zD 27 13 [l0, l1, l2] S h = zD 27 15 [l0, l1, l2] (.int (8 : Int32) :: S) h) ∧
  (∀ (l0 l1 l2 : Option Value) (x y : Int32) (r : List Value) (h : zH), zD 27 15 [l0, l1, l2] (.int y :: .int x :: r) h = if y ≤ x then zD 27 38 [l0, l1, l2] r h else zD 27 18 [l0, l1, l2] r h) ∧
  (∀ (l1 l2 : Option Value) (x : Nat) (S : List Value) (h : zH), zD 27 18 [some (.ref x), l1, l2] S h = zD 27 19 [some (.ref x), l1, l2] (.ref x :: S) h) ∧
  (∀ (l0 l1 l2 : Option Value) (a : Nat) (r : List Value) (h : zH) (hx : zfok (h.2.2 a) 9 1 = true), zD 27 19 [l0, l1, l2] (.ref a :: r) h = zD 27 22 [l0, l1, l2] (zfv (h.2.2 a) 1 :: r) h) ∧
  (∀ (l0 l1 : Option Value) (x : Int32) (S : List Value) (h : zH), zD 27 22 [l0, l1, some (.int x)] S h = zD 27 23 [l0, l1, some (.int x)] (.int x :: S) h) ∧
  (∀ (l0 l1 l2 : Option Value) (S : List Value) (h : zH), zD 27 23 [l0, l1, l2] S h = zD 27 24 [l0, l1, l2] (.int (0 : Int32) :: S) h) ∧
  (∀ (l0 l1 l2 : Option Value) (w i : Int32) (a : Nat) (r : List Value) (h : zH) (hx : zpok (h.2.2 a) i = true), zD 27 24 [l0, l1, l2] (.int w :: .int i :: .ref a :: r) h = zD 27 25 [l0, l1, l2] r (zw h a (zis' (h.2.2 a) i w))) ∧
  (∀ (l1 l2 : Option Value) (x : Nat) (S : List Value) (h : zH), zD 27 25 [some (.ref x), l1, l2] S h = zD 27 26 [some (.ref x), l1, l2] (.ref x :: S) h) ∧
  (∀ (l0 l1 l2 : Option Value) (a : Nat) (r : List Value) (h : zH) (hx : zfok (h.2.2 a) 9 2 = true), zD 27 26 [l0, l1, l2] (.ref a :: r) h = zD 27 29 [l0, l1, l2] (zfv (h.2.2 a) 2 :: r) h) ∧
  (∀ (l0 l1 : Option Value) (x : Int32) (S : List Value) (h : zH), zD 27 29 [l0, l1, some (.int x)] S h = zD 27 30 [l0, l1, some (.int x)] (.int x :: S) h) ∧
  (∀ (l0 l1 l2 : Option Value) (S : List Value) (h : zH), zD 27 30 [l0, l1, l2] S h = zD 27 31 [l0, l1, l2] (.int (0 : Int32) :: S) h) ∧
  (∀ (l0 l1 l2 : Option Value) (w i : Int32) (a : Nat) (r : List Value) (h : zH) (hx : zpok (h.2.2 a) i = true), zD 27 31 [l0, l1, l2] (.int w :: .int i :: .ref a :: r) h = zD 27 32 [l0, l1, l2] r (zw h a (zis' (h.2.2 a) i w))) ∧
  (∀ (l0 l1 : Option Value) (x : Int32) (S : List Value) (h : zH), zD 27 32 [l0, l1, some (.int x)] S h = zD 27 35 [l0, zclr l1, some (.int (x + (1 : Int32)))] S h) ∧
  (∀ (l0 l1 l2 : Option Value) (S : List Value) (h : zH), zD 27 35 [l0, l1, l2] S h = zD 27 12 [l0, l1, l2] S h) ∧
  (∀ (l0 l1 l2 : Option Value) (S : List Value) (h : zH), zD 27 38 [l0, l1, l2] S h = zD 27 39 [l0, l1, l2] (.int (0 : Int32) :: S) h) ∧
  (∀ (l0 l1 l2 : Option Value) (x : Int32) (r : List Value) (h : zH), zD 27 39 [l0, l1, l2] (.int x :: r) h = zD 27 40 [l0, zclr l1, some (.int x)] r h) ∧
  (∀ (l0 l1 l2 : Option Value) (S : List Value) (h : zH), zD 27 41 [l0, l1, l2] S h = zD 27 43 [l0, l1, l2] (.int (64 : Int32) :: S) h) ∧
  (∀ (l0 l1 l2 : Option Value) (x y : Int32) (r : List Value) (h : zH), zD 27 43 [l0, l1, l2] (.int y :: .int x :: r) h = if y ≤ x then zD 27 66 [l0, l1, l2] r h else zD 27 46 [l0, l1, l2] r h) ∧
  (∀ (l1 l2 : Option Value) (x : Nat) (S : List Value) (h : zH), zD 27 46 [some (.ref x), l1, l2] S h = zD 27 47 [some (.ref x), l1, l2] (.ref x :: S) h) ∧
  (∀ (l0 l1 l2 : Option Value) (a : Nat) (r : List Value) (h : zH) (hx : zfok (h.2.2 a) 9 3 = true), zD 27 47 [l0, l1, l2] (.ref a :: r) h = zD 27 50 [l0, l1, l2] (zfv (h.2.2 a) 3 :: r) h) ∧
  (∀ (l0 l1 : Option Value) (x : Int32) (S : List Value) (h : zH), zD 27 50 [l0, l1, some (.int x)] S h = zD 27 51 [l0, l1, some (.int x)] (.int x :: S) h) ∧
  (∀ (l0 l1 l2 : Option Value) (S : List Value) (h : zH), zD 27 51 [l0, l1, l2] S h = zD 27 52 [l0, l1, l2] (.int (0 : Int32) :: S) h) ∧
  (∀ (l0 l1 l2 : Option Value) (w i : Int32) (a : Nat) (r : List Value) (h : zH) (hx : zpok (h.2.2 a) i = true), zD 27 52 [l0, l1, l2] (.int w :: .int i :: .ref a :: r) h = zD 27 53 [l0, l1, l2] r (zw h a (zis' (h.2.2 a) i w))) ∧
  (∀ (l1 l2 : Option Value) (x : Nat) (S : List Value) (h : zH), zD 27 53 [some (.ref x), l1, l2] S h = zD 27 54 [some (.ref x), l1, l2] (.ref x :: S) h) ∧
  (∀ (l0 l1 l2 : Option Value) (a : Nat) (r : List Value) (h : zH) (hx : zfok (h.2.2 a) 9 4 = true), zD 27 54 [l0, l1, l2] (.ref a :: r) h = zD 27 57 [l0, l1, l2] (zfv (h.2.2 a) 4 :: r) h) ∧
  (∀ (l0 l1 : Option Value) (x : Int32) (S : List Value) (h : zH), zD 27 57 [l0, l1, some (.int x)] S h = zD 27 58 [l0, l1, some (.int x)] (.int x :: S) h) ∧
  (∀ (l0 l1 l2 : Option Value) (S : List Value) (h : zH), zD 27 58 [l0, l1, l2] S h = zD 27 59 [l0, l1, l2] (.int (0 : Int32) :: S) h) ∧
  (∀ (l0 l1 l2 : Option Value) (w i : Int32) (a : Nat) (r : List Value) (h : zH) (hx : zbok (h.2.2 a) i = true), zD 27 59 [l0, l1, l2] (.int w :: .int i :: .ref a :: r) h = zD 27 60 [l0, l1, l2] r (zw h a (zis' (h.2.2 a) i (vp_nar .boolean w)))) ∧
  (∀ (l0 l1 : Option Value) (x : Int32) (S : List Value) (h : zH), zD 27 60 [l0, l1, some (.int x)] S h = zD 27 63 [l0, zclr l1, some (.int (x + (1 : Int32)))] S h) ∧
  (∀ (l0 l1 l2 : Option Value) (S : List Value) (h : zH), zD 27 63 [l0, l1, l2] S h = zD 27 40 [l0, l1, l2] S h) ∧
  (∀ (l0 l1 l2 : Option Value) (h : zH), zD 27 66 [l0, l1, l2] [] h = some (none, h)) :=
  ⟨fun l1 l2 x S h => zD_op (ins := .aload_n 0) (len := 1) (c := (1, [some (.ref x), l1, l2], (.ref x :: S), h)) (by decide +kernel) rfl rfl rfl rfl,
  fun l0 l2 x S h => zD_op (ins := .iload_n 1) (len := 1) (c := (2, [l0, some (.int x), l2], (.int x :: S), h)) (by decide +kernel) rfl rfl rfl rfl,
  fun l0 l1 l2 v a r h hx => zD_putf (i := 7) (ci := 9) (k := 0) (q := (711, 0)) (by decide +kernel) (by decide +kernel) (by decide +kernel) hx rfl rfl,
  fun l1 l2 x S h => zD_op (ins := .aload_n 0) (len := 1) (c := (6, [some (.ref x), l1, l2], (.ref x :: S), h)) (by decide +kernel) rfl rfl rfl rfl,
  fun l0 l1 l2 S h => zD_icst (n := 0) (by decide +kernel) (by decide +kernel),
  fun l0 l1 l2 v a r h hx hf hn => zD_putf (i := 73) (ci := 9) (k := 5) (q := (716, 0)) (by decide +kernel) (by decide +kernel) (by decide +kernel) hx hf (congrArg Value.int hn),
  fun l0 l1 l2 S h => zD_icst (n := 0) (by decide +kernel) (by decide +kernel),
  fun l0 l1 l2 x r h => zD_st1 (k := 2) (ins := .istore_n 2) (len := 1) (by decide +kernel) rfl rfl rfl (by decide +kernel) rfl rfl,
  fun l0 l1 l2 S h => zD_bip (n := 8) (by decide +kernel) (by decide +kernel),
  fun l0 l1 l2 x y r h => zD_if (cnd := .ge) (off := 23) (by decide +kernel) (by decide) rfl,
  fun l1 l2 x S h => zD_op (ins := .aload_n 0) (len := 1) (c := (19, [some (.ref x), l1, l2], (.ref x :: S), h)) (by decide +kernel) rfl rfl rfl rfl,
  fun l0 l1 l2 a r h hx => zD_getf (i := 13) (ci := 9) (k := 1) (q := (712, 0)) (by decide +kernel) (by decide +kernel) hx,
  fun l0 l1 x S h => zD_op (ins := .iload_n 2) (len := 1) (c := (23, [l0, l1, some (.int x)], (.int x :: S), h)) (by decide +kernel) rfl rfl rfl rfl,
  fun l0 l1 l2 S h => zD_icst (n := 0) (by decide +kernel) (by decide +kernel),
  fun l0 l1 l2 w i a r h hx => zD_iast (by decide +kernel) hx,
  fun l1 l2 x S h => zD_op (ins := .aload_n 0) (len := 1) (c := (26, [some (.ref x), l1, l2], (.ref x :: S), h)) (by decide +kernel) rfl rfl rfl rfl,
  fun l0 l1 l2 a r h hx => zD_getf (i := 17) (ci := 9) (k := 2) (q := (713, 0)) (by decide +kernel) (by decide +kernel) hx,
  fun l0 l1 x S h => zD_op (ins := .iload_n 2) (len := 1) (c := (30, [l0, l1, some (.int x)], (.int x :: S), h)) (by decide +kernel) rfl rfl rfl rfl,
  fun l0 l1 l2 S h => zD_icst (n := 0) (by decide +kernel) (by decide +kernel),
  fun l0 l1 l2 w i a r h hx => zD_iast (by decide +kernel) hx,
  fun l0 l1 x S h => zD_iinc (k := 2) (x := x) (c := (1 : Int32)) (n := 1) (by decide +kernel) (by decide +kernel) rfl (by decide +kernel) rfl,
  fun l0 l1 l2 S h => zD_goto (off := (-23)) (by decide +kernel) (by decide),
  fun l0 l1 l2 S h => zD_icst (n := 0) (by decide +kernel) (by decide +kernel),
  fun l0 l1 l2 x r h => zD_st1 (k := 2) (ins := .istore_n 2) (len := 1) (by decide +kernel) rfl rfl rfl (by decide +kernel) rfl rfl,
  fun l0 l1 l2 S h => zD_bip (n := 64) (by decide +kernel) (by decide +kernel),
  fun l0 l1 l2 x y r h => zD_if (cnd := .ge) (off := 23) (by decide +kernel) (by decide) rfl,
  fun l1 l2 x S h => zD_op (ins := .aload_n 0) (len := 1) (c := (47, [some (.ref x), l1, l2], (.ref x :: S), h)) (by decide +kernel) rfl rfl rfl rfl,
  fun l0 l1 l2 a r h hx => zD_getf (i := 20) (ci := 9) (k := 3) (q := (714, 0)) (by decide +kernel) (by decide +kernel) hx,
  fun l0 l1 x S h => zD_op (ins := .iload_n 2) (len := 1) (c := (51, [l0, l1, some (.int x)], (.int x :: S), h)) (by decide +kernel) rfl rfl rfl rfl,
  fun l0 l1 l2 S h => zD_icst (n := 0) (by decide +kernel) (by decide +kernel),
  fun l0 l1 l2 w i a r h hx => zD_iast (by decide +kernel) hx,
  fun l1 l2 x S h => zD_op (ins := .aload_n 0) (len := 1) (c := (54, [some (.ref x), l1, l2], (.ref x :: S), h)) (by decide +kernel) rfl rfl rfl rfl,
  fun l0 l1 l2 a r h hx => zD_getf (i := 23) (ci := 9) (k := 4) (q := (715, 0)) (by decide +kernel) (by decide +kernel) hx,
  fun l0 l1 x S h => zD_op (ins := .iload_n 2) (len := 1) (c := (58, [l0, l1, some (.int x)], (.int x :: S), h)) (by decide +kernel) rfl rfl rfl rfl,
  fun l0 l1 l2 S h => zD_icst (n := 0) (by decide +kernel) (by decide +kernel),
  fun l0 l1 l2 w i a r h hx => zD_bast (by decide +kernel) hx,
  fun l0 l1 x S h => zD_iinc (k := 2) (x := x) (c := (1 : Int32)) (n := 1) (by decide +kernel) (by decide +kernel) rfl (by decide +kernel) rfl,
  fun l0 l1 l2 S h => zD_goto (off := (-23)) (by decide +kernel) (by decide),
  fun l0 l1 l2 h => zD_vret (by decide +kernel) rfl⟩
set_option maxRecDepth 100000 in
theorem E_X10_begin_h12 : (∀ (l0 l1 : Option Value) (x : Int32) (S : List Value) (h : zH), zD 27 12 [l0, l1, some (.int x)] S h = zD 27 13 [l0, l1, some (.int x)] (.int x :: S) h) :=
  fun l0 l1 x S h => zD_op (ins := .iload_n 2) (len := 1) (c := (13, [l0, l1, some (.int x)], (.int x :: S), h)) (by decide +kernel) rfl rfl rfl rfl
set_option maxRecDepth 100000 in
theorem E_X10_begin_h40 : (∀ (l0 l1 : Option Value) (x : Int32) (S : List Value) (h : zH), zD 27 40 [l0, l1, some (.int x)] S h = zD 27 41 [l0, l1, some (.int x)] (.int x :: S) h) :=
  fun l0 l1 x S h => zD_op (ins := .iload_n 2) (len := 1) (c := (41, [l0, l1, some (.int x)], (.int x :: S), h)) (by decide +kernel) rfl rfl rfl rfl
set_option maxRecDepth 100000 in
theorem I_X10_begin : (∀ (a : Nat) (p0 : Int32) (h : zH), zC 27 [.ref a, .int p0] h = zD 27 0 [some (.ref a), some (.int p0), none] [] h) :=
  fun a p0 h => zC_def rfl
set_option maxRecDepth 100000 in
theorem E_X10_lay : (∀ (l0 l1 l2 : Option Value) (S : List Value) (h : zH), zD 28 0 [l0, l1, l2] S h = zD 28 1 [l0, l1, l2] (.int (1 : Int32) :: S) h) ∧
  (∀ (l0 l1 l2 : Option Value) (x : Int32) (r : List Value) (h : zH), zD 28 1 [l0, l1, l2] (.int x :: r) h = zD 28 2 [l0, zclr l1, some (.int x)] r h) ∧
  (∀ (l0 l1 l2 : Option Value) (S : List Value) (h : zH), zD 28 3 [l0, l1, l2] S h = zD 28 5 [l0, l1, l2] (.int (7 : Int32) :: S) h) ∧
  (∀ (l0 l1 l2 : Option Value) (x y : Int32) (r : List Value) (h : zH), zD 28 5 [l0, l1, l2] (.int y :: .int x :: r) h = if y < x then zD 28 45 [l0, l1, l2] r h else zD 28 8 [l0, l1, l2] r h) ∧
  (∀ (l1 l2 : Option Value) (x : Nat) (S : List Value) (h : zH), zD 28 8 [some (.ref x), l1, l2] S h = zD 28 9 [some (.ref x), l1, l2] (.ref x :: S) h) ∧
  (∀ (l0 l1 l2 : Option Value) (a : Nat) (r : List Value) (h : zH) (hx : zfok (h.2.2 a) 9 19 = true), zD 28 9 [l0, l1, l2] (.ref a :: r) h = zD 28 12 [l0, l1, l2] (zfv (h.2.2 a) 19 :: r) h) ∧
  (∀ (l0 l1 : Option Value) (x : Int32) (S : List Value) (h : zH), zD 28 12 [l0, l1, some (.int x)] S h = zD 28 13 [l0, l1, some (.int x)] (.int x :: S) h) ∧
  (∀ (l0 l2 : Option Value) (x : Int32) (S : List Value) (h : zH), zD 28 13 [l0, some (.int x), l2] S h = zD 28 14 [l0, some (.int x), l2] (.int x :: S) h) ∧
  (∀ (l0 l1 l2 : Option Value) (S : List Value) (h : zH), zD 28 14 [l0, l1, l2] S h = zD 28 15 [l0, l1, l2] (.int (-1 : Int32) :: S) h) ∧
  (∀ (l0 l1 l2 : Option Value) (x y : Int32) (r : List Value) (h : zH), zD 28 15 [l0, l1, l2] (.int y :: .int x :: r) h = if ¬ x = y then zD 28 27 [l0, l1, l2] r h else zD 28 18 [l0, l1, l2] r h) ∧
  (∀ (l1 l2 : Option Value) (x : Nat) (S : List Value) (h : zH), zD 28 18 [some (.ref x), l1, l2] S h = zD 28 19 [some (.ref x), l1, l2] (.ref x :: S) h) ∧
  (∀ (l0 l1 l2 : Option Value) (a : Nat) (r : List Value) (h : zH) (hx : zfok (h.2.2 a) 9 2 = true), zD 28 19 [l0, l1, l2] (.ref a :: r) h = zD 28 22 [l0, l1, l2] (zfv (h.2.2 a) 2 :: r) h) ∧
  (∀ (l0 l1 : Option Value) (x : Int32) (S : List Value) (h : zH), zD 28 22 [l0, l1, some (.int x)] S h = zD 28 23 [l0, l1, some (.int x)] (.int x :: S) h) ∧
  (∀ (l0 l1 l2 : Option Value) (i : Int32) (a : Nat) (r : List Value) (h : zH) (hx : ziok a (h.2.2 a) i = true), zD 28 23 [l0, l1, l2] (.int i :: .ref a :: r) h = zD 28 24 [l0, l1, l2] (.int (ziv (h.2.2 a) i) :: r) h) ∧
  (∀ (l0 l1 l2 : Option Value) (S : List Value) (h : zH), zD 28 24 [l0, l1, l2] S h = zD 28 38 [l0, l1, l2] S h) ∧
  (∀ (l1 l2 : Option Value) (x : Nat) (S : List Value) (h : zH), zD 28 27 [some (.ref x), l1, l2] S h = zD 28 28 [some (.ref x), l1, l2] (.ref x :: S) h) ∧
  (∀ (l0 l1 l2 : Option Value) (a : Nat) (r : List Value) (h : zH) (hx : zfok (h.2.2 a) 9 14 = true), zD 28 28 [l0, l1, l2] (.ref a :: r) h = zD 28 31 [l0, l1, l2] (zfv (h.2.2 a) 14 :: r) h) ∧
  (∀ (l0 l1 l2 : Option Value) (S : List Value) (h : zH), zD 28 31 [l0, l1, l2] S h = zD 28 33 [l0, l1, l2] (.int (8 : Int32) :: S) h) ∧
  (∀ (l0 l2 : Option Value) (x : Int32) (S : List Value) (h : zH), zD 28 33 [l0, some (.int x), l2] S h = zD 28 34 [l0, some (.int x), l2] (.int x :: S) h) ∧
  (∀ (l0 l1 l2 : Option Value) (x y : Int32) (r : List Value) (h : zH), zD 28 34 [l0, l1, l2] (.int y :: .int x :: r) h = zD 28 35 [l0, l1, l2] (.int (x * y) :: r) h) ∧
  (∀ (l0 l1 : Option Value) (x : Int32) (S : List Value) (h : zH), zD 28 35 [l0, l1, some (.int x)] S h = zD 28 36 [l0, l1, some (.int x)] (.int x :: S) h) ∧
  (∀ (l0 l1 l2 : Option Value) (x y : Int32) (r : List Value) (h : zH), zD 28 36 [l0, l1, l2] (.int y :: .int x :: r) h = zD 28 37 [l0, l1, l2] (.int (x + y) :: r) h) ∧
  (∀ (l0 l1 l2 : Option Value) (i : Int32) (a : Nat) (r : List Value) (h : zH) (hx : ziok a (h.2.2 a) i = true), zD 28 37 [l0, l1, l2] (.int i :: .ref a :: r) h = zD 28 38 [l0, l1, l2] (.int (ziv (h.2.2 a) i) :: r) h) ∧
  (∀ (l0 l1 l2 : Option Value) (w i : Int32) (a : Nat) (r : List Value) (h : zH) (hx : zpok (h.2.2 a) i = true), zD 28 38 [l0, l1, l2] (.int w :: .int i :: .ref a :: r) h = zD 28 39 [l0, l1, l2] r (zw h a (zis' (h.2.2 a) i w))) ∧
  (∀ (l0 l1 : Option Value) (x : Int32) (S : List Value) (h : zH), zD 28 39 [l0, l1, some (.int x)] S h = zD 28 42 [l0, zclr l1, some (.int (x + (1 : Int32)))] S h) ∧
  (∀ (l0 l1 l2 : Option Value) (S : List Value) (h : zH), zD 28 42 [l0, l1, l2] S h = zD 28 2 [l0, l1, l2] S h) ∧
  (∀ (l0 l1 l2 : Option Value) (h : zH), zD 28 45 [l0, l1, l2] [] h = some (none, h)) :=
  ⟨fun l0 l1 l2 S h => zD_icst (n := 1) (by decide +kernel) (by decide +kernel),
  fun l0 l1 l2 x r h => zD_st1 (k := 2) (ins := .istore_n 2) (len := 1) (by decide +kernel) rfl rfl rfl (by decide +kernel) rfl rfl,
  fun l0 l1 l2 S h => zD_bip (n := 7) (by decide +kernel) (by decide +kernel),
  fun l0 l1 l2 x y r h => zD_if (cnd := .gt) (off := 40) (by decide +kernel) (by decide) rfl,
  fun l1 l2 x S h => zD_op (ins := .aload_n 0) (len := 1) (c := (9, [some (.ref x), l1, l2], (.ref x :: S), h)) (by decide +kernel) rfl rfl rfl rfl,
  fun l0 l1 l2 a r h hx => zD_getf (i := 61) (ci := 9) (k := 19) (q := (730, 0)) (by decide +kernel) (by decide +kernel) hx,
  fun l0 l1 x S h => zD_op (ins := .iload_n 2) (len := 1) (c := (13, [l0, l1, some (.int x)], (.int x :: S), h)) (by decide +kernel) rfl rfl rfl rfl,
  fun l0 l2 x S h => zD_op (ins := .iload_n 1) (len := 1) (c := (14, [l0, some (.int x), l2], (.int x :: S), h)) (by decide +kernel) rfl rfl rfl rfl,
  fun l0 l1 l2 S h => zD_icst (n := (-1)) (by decide +kernel) (by decide +kernel),
  fun l0 l1 l2 x y r h => zD_if (cnd := .ne) (off := 12) (by decide +kernel) (by decide) rfl,
  fun l1 l2 x S h => zD_op (ins := .aload_n 0) (len := 1) (c := (19, [some (.ref x), l1, l2], (.ref x :: S), h)) (by decide +kernel) rfl rfl rfl rfl,
  fun l0 l1 l2 a r h hx => zD_getf (i := 17) (ci := 9) (k := 2) (q := (713, 0)) (by decide +kernel) (by decide +kernel) hx,
  fun l0 l1 x S h => zD_op (ins := .iload_n 2) (len := 1) (c := (23, [l0, l1, some (.int x)], (.int x :: S), h)) (by decide +kernel) rfl rfl rfl rfl,
  fun l0 l1 l2 i a r h hx => zD_iald (by decide +kernel) hx,
  fun l0 l1 l2 S h => zD_goto (off := 14) (by decide +kernel) (by decide),
  fun l1 l2 x S h => zD_op (ins := .aload_n 0) (len := 1) (c := (28, [some (.ref x), l1, l2], (.ref x :: S), h)) (by decide +kernel) rfl rfl rfl rfl,
  fun l0 l1 l2 a r h hx => zD_getf (i := 49) (ci := 9) (k := 14) (q := (725, 0)) (by decide +kernel) (by decide +kernel) hx,
  fun l0 l1 l2 S h => zD_bip (n := 8) (by decide +kernel) (by decide +kernel),
  fun l0 l2 x S h => zD_op (ins := .iload_n 1) (len := 1) (c := (34, [l0, some (.int x), l2], (.int x :: S), h)) (by decide +kernel) rfl rfl rfl rfl,
  fun l0 l1 l2 x y r h => zD_op (ins := .imul) (len := 1) (c := (35, [l0, l1, l2], (.int (x * y) :: r), h)) (by decide +kernel) rfl rfl rfl rfl,
  fun l0 l1 x S h => zD_op (ins := .iload_n 2) (len := 1) (c := (36, [l0, l1, some (.int x)], (.int x :: S), h)) (by decide +kernel) rfl rfl rfl rfl,
  fun l0 l1 l2 x y r h => zD_op (ins := .iadd) (len := 1) (c := (37, [l0, l1, l2], (.int (x + y) :: r), h)) (by decide +kernel) rfl rfl rfl rfl,
  fun l0 l1 l2 i a r h hx => zD_iald (by decide +kernel) hx,
  fun l0 l1 l2 w i a r h hx => zD_iast (by decide +kernel) hx,
  fun l0 l1 x S h => zD_iinc (k := 2) (x := x) (c := (1 : Int32)) (n := 1) (by decide +kernel) (by decide +kernel) rfl (by decide +kernel) rfl,
  fun l0 l1 l2 S h => zD_goto (off := (-40)) (by decide +kernel) (by decide),
  fun l0 l1 l2 h => zD_vret (by decide +kernel) rfl⟩
set_option maxRecDepth 100000 in
theorem E_X10_lay_h2 : (∀ (l0 l1 : Option Value) (x : Int32) (S : List Value) (h : zH), zD 28 2 [l0, l1, some (.int x)] S h = zD 28 3 [l0, l1, some (.int x)] (.int x :: S) h) :=
  fun l0 l1 x S h => zD_op (ins := .iload_n 2) (len := 1) (c := (3, [l0, l1, some (.int x)], (.int x :: S), h)) (by decide +kernel) rfl rfl rfl rfl
set_option maxRecDepth 100000 in
theorem I_X10_lay : (∀ (a : Nat) (p0 : Int32) (h : zH), zC 28 [.ref a, .int p0] h = zD 28 0 [some (.ref a), some (.int p0), none] [] h) :=
  fun a p0 h => zC_def rfl
