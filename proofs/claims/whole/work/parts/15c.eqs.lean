set_option maxRecDepth 100000 in
theorem E_X3_restart : (∀ (l1 : Option Value) (x : Nat) (S : List Value) (h : zH), zD 49 0 [some (.ref x), l1] S h = zD 49 1 [some (.ref x), l1] (.ref x :: S) h) ∧
  (∀ (l0 l1 : Option Value) (a : Nat) (r : List Value) (h : zH) (hx : zfok (h.2.2 a) 3 0 = true), zD 49 1 [l0, l1] (.ref a :: r) h = zD 49 4 [l0, l1] (zfv (h.2.2 a) 0 :: r) h) ∧
  (∀ (l0 l1 : Option Value) (S : List Value) (h : zH), zD 49 4 [l0, l1] S h = zD 49 5 [l0, l1] (.int (0 : Int32) :: S) h) ∧
  (∀ (l0 l1 : Option Value) (p0 : Nat) (p1 : Int32) (r : List Value) (h : zH) (hcat : zcat r ≤ 8) (hC : (zC 41 [.ref p0, .int p1] h).isSome = true), zD 49 5 [l0, l1] (.int p1 :: .ref p0 :: r) h = zD 49 8 [l0, l1] (zgv (zC 41 [.ref p0, .int p1] h) ++ r) (zgh h (zC 41 [.ref p0, .int p1] h))) ∧
  (∀ (l1 : Option Value) (x : Nat) (S : List Value) (h : zH), zD 49 8 [some (.ref x), l1] S h = zD 49 9 [some (.ref x), l1] (.ref x :: S) h) ∧
  (∀ (l0 l1 : Option Value) (a : Nat) (r : List Value) (h : zH) (hx : zfok (h.2.2 a) 3 1 = true), zD 49 9 [l0, l1] (.ref a :: r) h = zD 49 12 [l0, l1] (zfv (h.2.2 a) 1 :: r) h) ∧
  (∀ (l0 l1 : Option Value) (S : List Value) (h : zH), zD 49 12 [l0, l1] S h = zD 49 13 [l0, l1] (.int (0 : Int32) :: S) h) ∧
  (∀ (l0 l1 : Option Value) (p0 : Nat) (p1 : Int32) (r : List Value) (h : zH) (hcat : zcat r ≤ 8) (hC : (zC 41 [.ref p0, .int p1] h).isSome = true), zD 49 13 [l0, l1] (.int p1 :: .ref p0 :: r) h = zD 49 16 [l0, l1] (zgv (zC 41 [.ref p0, .int p1] h) ++ r) (zgh h (zC 41 [.ref p0, .int p1] h))) ∧
  (∀ (l1 : Option Value) (x : Nat) (S : List Value) (h : zH), zD 49 16 [some (.ref x), l1] S h = zD 49 17 [some (.ref x), l1] (.ref x :: S) h) ∧
  (∀ (l0 l1 : Option Value) (a : Nat) (r : List Value) (h : zH) (hx : zfok (h.2.2 a) 3 0 = true), zD 49 17 [l0, l1] (.ref a :: r) h = zD 49 20 [l0, l1] (zfv (h.2.2 a) 0 :: r) h) ∧
  (∀ (l0 l1 : Option Value) (S : List Value) (h : zH), zD 49 20 [l0, l1] S h = zD 49 21 [l0, l1] (.int (0 : Int32) :: S) h) ∧
  (∀ (l0 l1 : Option Value) (S : List Value) (h : zH), zD 49 21 [l0, l1] S h = zD 49 23 [l0, l1] (.int (10 : Int32) :: S) h) ∧
  (∀ (l0 l1 : Option Value) (w i : Int32) (a : Nat) (r : List Value) (h : zH) (hx : zpok (h.2.2 a) i = true), zD 49 23 [l0, l1] (.int w :: .int i :: .ref a :: r) h = zD 49 24 [l0, l1] r (zw h a (zis' (h.2.2 a) i w))) ∧
  (∀ (l1 : Option Value) (x : Nat) (S : List Value) (h : zH), zD 49 24 [some (.ref x), l1] S h = zD 49 25 [some (.ref x), l1] (.ref x :: S) h) ∧
  (∀ (l0 : Option Value) (x : Int32) (S : List Value) (h : zH), zD 49 25 [l0, some (.int x)] S h = zD 49 26 [l0, some (.int x)] (.int x :: S) h) ∧
  (∀ (l0 l1 : Option Value) (v : Int32) (a : Nat) (r : List Value) (h : zH) (hx : zfok (h.2.2 a) 3 2 = true), zD 49 26 [l0, l1] (.int v :: .ref a :: r) h = zD 49 29 [l0, l1] r (zw h a (zfs' (h.2.2 a) 2 (.int v)))) ∧
  (∀ (l0 l1 : Option Value) (h : zH), zD 49 29 [l0, l1] [] h = some (none, h)) :=
  ⟨fun l1 x S h => zD_op (ins := .aload_n 0) (len := 1) (c := (1, [some (.ref x), l1], (.ref x :: S), h)) (by decide +kernel) rfl rfl rfl rfl,
  fun l0 l1 a r h hx => zD_getf (i := 9) (ci := 3) (k := 0) (q := (77, 0)) (by decide +kernel) (by decide +kernel) hx,
  fun l0 l1 S h => zD_icst (n := 0) (by decide +kernel) (by decide +kernel),
  fun l0 l1 p0 p1 r h hcat hC => zD_calls (i := 22) (y := 41) (n := 2) (as := [.ref p0, .int p1]) (by decide +kernel) (by decide +kernel) rfl (by decide +kernel) (Nat.le_of_ble_eq_true rfl) hcat hC,
  fun l1 x S h => zD_op (ins := .aload_n 0) (len := 1) (c := (9, [some (.ref x), l1], (.ref x :: S), h)) (by decide +kernel) rfl rfl rfl rfl,
  fun l0 l1 a r h hx => zD_getf (i := 15) (ci := 3) (k := 1) (q := (81, 0)) (by decide +kernel) (by decide +kernel) hx,
  fun l0 l1 S h => zD_icst (n := 0) (by decide +kernel) (by decide +kernel),
  fun l0 l1 p0 p1 r h hcat hC => zD_calls (i := 22) (y := 41) (n := 2) (as := [.ref p0, .int p1]) (by decide +kernel) (by decide +kernel) rfl (by decide +kernel) (Nat.le_of_ble_eq_true rfl) hcat hC,
  fun l1 x S h => zD_op (ins := .aload_n 0) (len := 1) (c := (17, [some (.ref x), l1], (.ref x :: S), h)) (by decide +kernel) rfl rfl rfl rfl,
  fun l0 l1 a r h hx => zD_getf (i := 9) (ci := 3) (k := 0) (q := (77, 0)) (by decide +kernel) (by decide +kernel) hx,
  fun l0 l1 S h => zD_icst (n := 0) (by decide +kernel) (by decide +kernel),
  fun l0 l1 S h => zD_bip (n := 10) (by decide +kernel) (by decide +kernel),
  fun l0 l1 w i a r h hx => zD_iast (by decide +kernel) hx,
  fun l1 x S h => zD_op (ins := .aload_n 0) (len := 1) (c := (25, [some (.ref x), l1], (.ref x :: S), h)) (by decide +kernel) rfl rfl rfl rfl,
  fun l0 x S h => zD_op (ins := .iload_n 1) (len := 1) (c := (26, [l0, some (.int x)], (.int x :: S), h)) (by decide +kernel) rfl rfl rfl rfl,
  fun l0 l1 v a r h hx => zD_putf (i := 28) (ci := 3) (k := 2) (q := (86, 0)) (by decide +kernel) (by decide +kernel) (by decide +kernel) hx rfl rfl,
  fun l0 l1 h => zD_vret (by decide +kernel) rfl⟩
set_option maxRecDepth 100000 in
theorem I_X3_restart : (∀ (a : Nat) (p0 : Int32) (h : zH), zC 49 [.ref a, .int p0] h = zD 49 0 [some (.ref a), some (.int p0)] [] h) :=
  fun a p0 h => zC_def rfl
set_option maxRecDepth 100000 in
theorem E_X3_copyFrom : (∀ (l0 : Option Value) (x : Nat) (S : List Value) (h : zH), zD 50 0 [l0, some (.ref x)] S h = zD 50 1 [l0, some (.ref x)] (.ref x :: S) h) ∧
  (∀ (l0 : Option Value) (S : List Value) (h : zH), zD 50 0 [l0, some .null] S h = zD 50 1 [l0, some .null] (.null :: S) h) ∧
  (∀ (l0 l1 : Option Value) (a : Nat) (r : List Value) (h : zH) (hx : zfok (h.2.2 a) 3 0 = true), zD 50 1 [l0, l1] (.ref a :: r) h = zD 50 4 [l0, l1] (zfv (h.2.2 a) 0 :: r) h) ∧
  (∀ (l0 l1 : Option Value) (S : List Value) (h : zH), zD 50 4 [l0, l1] S h = zD 50 5 [l0, l1] (.int (0 : Int32) :: S) h) ∧
  (∀ (l1 : Option Value) (x : Nat) (S : List Value) (h : zH), zD 50 5 [some (.ref x), l1] S h = zD 50 6 [some (.ref x), l1] (.ref x :: S) h) ∧
  (∀ (l0 l1 : Option Value) (a : Nat) (r : List Value) (h : zH) (hx : zfok (h.2.2 a) 3 0 = true), zD 50 6 [l0, l1] (.ref a :: r) h = zD 50 9 [l0, l1] (zfv (h.2.2 a) 0 :: r) h) ∧
  (∀ (l0 l1 : Option Value) (S : List Value) (h : zH), zD 50 9 [l0, l1] S h = zD 50 10 [l0, l1] (.int (0 : Int32) :: S) h) ∧
  (∀ (l0 l1 : Option Value) (S : List Value) (h : zH), zD 50 10 [l0, l1] S h = zD 50 12 [l0, l1] (.int (8 : Int32) :: S) h) ∧
  (∀ (l0 l1 : Option Value) (n sp dp : Int32) (a a0 : Nat) (r : List Value) (h : zH) (hcat : zcat r ≤ 8) (hx : zcok (h.2.2 a0) (h.2.2 a) sp dp n = true), zD 50 12 [l0, l1] (.int n :: .int dp :: .ref a :: .int sp :: .ref a0 :: r) h = zD 50 15 [l0, l1] r (zw h a (zcs' (h.2.2 a0) (h.2.2 a) sp dp n))) ∧
  (∀ (l0 : Option Value) (x : Nat) (S : List Value) (h : zH), zD 50 15 [l0, some (.ref x)] S h = zD 50 16 [l0, some (.ref x)] (.ref x :: S) h) ∧
  (∀ (l0 : Option Value) (S : List Value) (h : zH), zD 50 15 [l0, some .null] S h = zD 50 16 [l0, some .null] (.null :: S) h) ∧
  (∀ (l0 l1 : Option Value) (a : Nat) (r : List Value) (h : zH) (hx : zfok (h.2.2 a) 3 1 = true), zD 50 16 [l0, l1] (.ref a :: r) h = zD 50 19 [l0, l1] (zfv (h.2.2 a) 1 :: r) h) ∧
  (∀ (l0 l1 : Option Value) (S : List Value) (h : zH), zD 50 19 [l0, l1] S h = zD 50 20 [l0, l1] (.int (0 : Int32) :: S) h) ∧
  (∀ (l1 : Option Value) (x : Nat) (S : List Value) (h : zH), zD 50 20 [some (.ref x), l1] S h = zD 50 21 [some (.ref x), l1] (.ref x :: S) h) ∧
  (∀ (l0 l1 : Option Value) (a : Nat) (r : List Value) (h : zH) (hx : zfok (h.2.2 a) 3 1 = true), zD 50 21 [l0, l1] (.ref a :: r) h = zD 50 24 [l0, l1] (zfv (h.2.2 a) 1 :: r) h) ∧
  (∀ (l0 l1 : Option Value) (S : List Value) (h : zH), zD 50 24 [l0, l1] S h = zD 50 25 [l0, l1] (.int (0 : Int32) :: S) h) ∧
  (∀ (l0 l1 : Option Value) (S : List Value) (h : zH), zD 50 25 [l0, l1] S h = zD 50 27 [l0, l1] (.int (8 : Int32) :: S) h) ∧
  (∀ (l0 l1 : Option Value) (n sp dp : Int32) (a a0 : Nat) (r : List Value) (h : zH) (hcat : zcat r ≤ 8) (hx : zcok (h.2.2 a0) (h.2.2 a) sp dp n = true), zD 50 27 [l0, l1] (.int n :: .int dp :: .ref a :: .int sp :: .ref a0 :: r) h = zD 50 30 [l0, l1] r (zw h a (zcs' (h.2.2 a0) (h.2.2 a) sp dp n))) ∧
  (∀ (l1 : Option Value) (x : Nat) (S : List Value) (h : zH), zD 50 30 [some (.ref x), l1] S h = zD 50 31 [some (.ref x), l1] (.ref x :: S) h) ∧
  (∀ (l0 : Option Value) (x : Nat) (S : List Value) (h : zH), zD 50 31 [l0, some (.ref x)] S h = zD 50 32 [l0, some (.ref x)] (.ref x :: S) h) ∧
  (∀ (l0 : Option Value) (S : List Value) (h : zH), zD 50 31 [l0, some .null] S h = zD 50 32 [l0, some .null] (.null :: S) h) ∧
  (∀ (l0 l1 : Option Value) (a : Nat) (r : List Value) (h : zH) (hx : zfok (h.2.2 a) 3 2 = true), zD 50 32 [l0, l1] (.ref a :: r) h = zD 50 35 [l0, l1] (zfv (h.2.2 a) 2 :: r) h) ∧
  (∀ (l0 l1 : Option Value) (v : Int32) (a : Nat) (r : List Value) (h : zH) (hx : zfok (h.2.2 a) 3 2 = true), zD 50 35 [l0, l1] (.int v :: .ref a :: r) h = zD 50 38 [l0, l1] r (zw h a (zfs' (h.2.2 a) 2 (.int v)))) ∧
  (∀ (l0 l1 : Option Value) (h : zH), zD 50 38 [l0, l1] [] h = some (none, h)) :=
  ⟨fun l0 x S h => zD_op (ins := .aload_n 1) (len := 1) (c := (1, [l0, some (.ref x)], (.ref x :: S), h)) (by decide +kernel) rfl rfl rfl rfl,
  fun l0 S h => zD_op (ins := .aload_n 1) (len := 1) (c := (1, [l0, some .null], (.null :: S), h)) (by decide +kernel) rfl rfl rfl rfl,
  fun l0 l1 a r h hx => zD_getf (i := 9) (ci := 3) (k := 0) (q := (77, 0)) (by decide +kernel) (by decide +kernel) hx,
  fun l0 l1 S h => zD_icst (n := 0) (by decide +kernel) (by decide +kernel),
  fun l1 x S h => zD_op (ins := .aload_n 0) (len := 1) (c := (6, [some (.ref x), l1], (.ref x :: S), h)) (by decide +kernel) rfl rfl rfl rfl,
  fun l0 l1 a r h hx => zD_getf (i := 9) (ci := 3) (k := 0) (q := (77, 0)) (by decide +kernel) (by decide +kernel) hx,
  fun l0 l1 S h => zD_icst (n := 0) (by decide +kernel) (by decide +kernel),
  fun l0 l1 S h => zD_bip (n := 8) (by decide +kernel) (by decide +kernel),
  fun l0 l1 n sp dp a a0 r h hcat hx => zD_copy (i := 32) (q := 550) (by decide +kernel) (by decide +kernel) (by decide +kernel) (by decide +kernel) hcat hx,
  fun l0 x S h => zD_op (ins := .aload_n 1) (len := 1) (c := (16, [l0, some (.ref x)], (.ref x :: S), h)) (by decide +kernel) rfl rfl rfl rfl,
  fun l0 S h => zD_op (ins := .aload_n 1) (len := 1) (c := (16, [l0, some .null], (.null :: S), h)) (by decide +kernel) rfl rfl rfl rfl,
  fun l0 l1 a r h hx => zD_getf (i := 15) (ci := 3) (k := 1) (q := (81, 0)) (by decide +kernel) (by decide +kernel) hx,
  fun l0 l1 S h => zD_icst (n := 0) (by decide +kernel) (by decide +kernel),
  fun l1 x S h => zD_op (ins := .aload_n 0) (len := 1) (c := (21, [some (.ref x), l1], (.ref x :: S), h)) (by decide +kernel) rfl rfl rfl rfl,
  fun l0 l1 a r h hx => zD_getf (i := 15) (ci := 3) (k := 1) (q := (81, 0)) (by decide +kernel) (by decide +kernel) hx,
  fun l0 l1 S h => zD_icst (n := 0) (by decide +kernel) (by decide +kernel),
  fun l0 l1 S h => zD_bip (n := 8) (by decide +kernel) (by decide +kernel),
  fun l0 l1 n sp dp a a0 r h hcat hx => zD_copy (i := 32) (q := 550) (by decide +kernel) (by decide +kernel) (by decide +kernel) (by decide +kernel) hcat hx,
  fun l1 x S h => zD_op (ins := .aload_n 0) (len := 1) (c := (31, [some (.ref x), l1], (.ref x :: S), h)) (by decide +kernel) rfl rfl rfl rfl,
  fun l0 x S h => zD_op (ins := .aload_n 1) (len := 1) (c := (32, [l0, some (.ref x)], (.ref x :: S), h)) (by decide +kernel) rfl rfl rfl rfl,
  fun l0 S h => zD_op (ins := .aload_n 1) (len := 1) (c := (32, [l0, some .null], (.null :: S), h)) (by decide +kernel) rfl rfl rfl rfl,
  fun l0 l1 a r h hx => zD_getf (i := 28) (ci := 3) (k := 2) (q := (86, 0)) (by decide +kernel) (by decide +kernel) hx,
  fun l0 l1 v a r h hx => zD_putf (i := 28) (ci := 3) (k := 2) (q := (86, 0)) (by decide +kernel) (by decide +kernel) (by decide +kernel) hx rfl rfl,
  fun l0 l1 h => zD_vret (by decide +kernel) rfl⟩
set_option maxRecDepth 100000 in
theorem I_X3_copyFrom : (∀ (a : Nat) (p0 : Nat) (h : zH), zC 50 [.ref a, .ref p0] h = zD 50 0 [some (.ref a), some (.ref p0)] [] h) :=
  fun a p0 h => zC_def rfl
set_option maxRecDepth 100000 in
theorem E_X3_hasArc : (∀ (l1 l2 : Option Value) (x : Nat) (S : List Value) (h : zH), zD 51 0 [some (.ref x), l1, l2] S h = zD 51 1 [some (.ref x), l1, l2] (.ref x :: S) h) ∧
  (∀ (l0 l2 : Option Value) (x : Int32) (S : List Value) (h : zH), zD 51 1 [l0, some (.int x), l2] S h = zD 51 2 [l0, some (.int x), l2] (.int x :: S) h) ∧
  (∀ (l0 l1 l2 : Option Value) (p0 : Int32) (a : Nat) (r : List Value) (h : zH) (hcat : zcat r ≤ 8) (hr : zis (h.2.2 a) 3 = true) (hC : (zC 6 (.ref a :: [.int p0]) h).isSome = true), zD 51 2 [l0, l1, l2] (.int p0 :: .ref a :: r) h = zD 51 5 [l0, l1, l2] (zgv (zC 6 (.ref a :: [.int p0]) h) ++ r) (zgh h (zC 6 (.ref a :: [.int p0]) h))) ∧
  (∀ (l0 l1 l2 : Option Value) (x : Int32) (r : List Value) (h : zH), zD 51 5 [l0, l1, l2] (.int x :: r) h = if x = 0 then zD 51 25 [l0, l1, l2] r h else zD 51 8 [l0, l1, l2] r h) ∧
  (∀ (l1 l2 : Option Value) (x : Nat) (S : List Value) (h : zH), zD 51 8 [some (.ref x), l1, l2] S h = zD 51 9 [some (.ref x), l1, l2] (.ref x :: S) h) ∧
  (∀ (l0 l1 : Option Value) (x : Int32) (S : List Value) (h : zH), zD 51 9 [l0, l1, some (.int x)] S h = zD 51 10 [l0, l1, some (.int x)] (.int x :: S) h) ∧
  (∀ (l0 l1 l2 : Option Value) (p0 : Int32) (a : Nat) (r : List Value) (h : zH) (hcat : zcat r ≤ 8) (hr : zis (h.2.2 a) 3 = true) (hC : (zC 5 (.ref a :: [.int p0]) h).isSome = true), zD 51 10 [l0, l1, l2] (.int p0 :: .ref a :: r) h = zD 51 13 [l0, l1, l2] (zgv (zC 5 (.ref a :: [.int p0]) h) ++ r) (zgh h (zC 5 (.ref a :: [.int p0]) h))) ∧
  (∀ (l0 l1 l2 : Option Value) (x : Int32) (r : List Value) (h : zH), zD 51 13 [l0, l1, l2] (.int x :: r) h = if x = 0 then zD 51 25 [l0, l1, l2] r h else zD 51 16 [l0, l1, l2] r h) ∧
  (∀ (l0 l2 : Option Value) (x : Int32) (S : List Value) (h : zH), zD 51 16 [l0, some (.int x), l2] S h = zD 51 17 [l0, some (.int x), l2] (.int x :: S) h) ∧
  (∀ (l0 l1 : Option Value) (x : Int32) (S : List Value) (h : zH), zD 51 17 [l0, l1, some (.int x)] S h = zD 51 18 [l0, l1, some (.int x)] (.int x :: S) h) ∧
  (∀ (l0 l1 l2 : Option Value) (x y : Int32) (r : List Value) (h : zH), zD 51 18 [l0, l1, l2] (.int y :: .int x :: r) h = if x = y then zD 51 25 [l0, l1, l2] r h else zD 51 21 [l0, l1, l2] r h) ∧
  (∀ (l0 l1 l2 : Option Value) (S : List Value) (h : zH), zD 51 21 [l0, l1, l2] S h = zD 51 22 [l0, l1, l2] (.int (1 : Int32) :: S) h) ∧
  (∀ (l0 l1 l2 : Option Value) (S : List Value) (h : zH), zD 51 22 [l0, l1, l2] S h = zD 51 26 [l0, l1, l2] S h) ∧
  (∀ (l0 l1 l2 : Option Value) (S : List Value) (h : zH), zD 51 25 [l0, l1, l2] S h = zD 51 26 [l0, l1, l2] (.int (0 : Int32) :: S) h) ∧
  (∀ (l0 l1 l2 : Option Value) (v : Int32) (h : zH) (hv : zbv v), zD 51 26 [l0, l1, l2] [.int v] h = some (some (.int v), h)) :=
  ⟨fun l1 l2 x S h => zD_op (ins := .aload_n 0) (len := 1) (c := (1, [some (.ref x), l1, l2], (.ref x :: S), h)) (by decide +kernel) rfl rfl rfl rfl,
  fun l0 l2 x S h => zD_op (ins := .iload_n 1) (len := 1) (c := (2, [l0, some (.int x), l2], (.int x :: S), h)) (by decide +kernel) rfl rfl rfl rfl,
  fun l0 l1 l2 p0 a r h hcat hr hC => zD_callv (i := 44) (y := 6) (n := 1) (as := [.int p0]) (ci := 3) (by decide +kernel) (by decide +kernel) rfl (by decide +kernel) (Nat.le_of_ble_eq_true rfl) (by decide +kernel) hcat hr hC,
  fun l0 l1 l2 x r h => zD_if0 (cnd := .eq) (off := 20) (by decide +kernel) (by decide) rfl,
  fun l1 l2 x S h => zD_op (ins := .aload_n 0) (len := 1) (c := (9, [some (.ref x), l1, l2], (.ref x :: S), h)) (by decide +kernel) rfl rfl rfl rfl,
  fun l0 l1 x S h => zD_op (ins := .iload_n 2) (len := 1) (c := (10, [l0, l1, some (.int x)], (.int x :: S), h)) (by decide +kernel) rfl rfl rfl rfl,
  fun l0 l1 l2 p0 a r h hcat hr hC => zD_callv (i := 48) (y := 5) (n := 1) (as := [.int p0]) (ci := 3) (by decide +kernel) (by decide +kernel) rfl (by decide +kernel) (Nat.le_of_ble_eq_true rfl) (by decide +kernel) hcat hr hC,
  fun l0 l1 l2 x r h => zD_if0 (cnd := .eq) (off := 12) (by decide +kernel) (by decide) rfl,
  fun l0 l2 x S h => zD_op (ins := .iload_n 1) (len := 1) (c := (17, [l0, some (.int x), l2], (.int x :: S), h)) (by decide +kernel) rfl rfl rfl rfl,
  fun l0 l1 x S h => zD_op (ins := .iload_n 2) (len := 1) (c := (18, [l0, l1, some (.int x)], (.int x :: S), h)) (by decide +kernel) rfl rfl rfl rfl,
  fun l0 l1 l2 x y r h => zD_if (cnd := .eq) (off := 7) (by decide +kernel) (by decide) rfl,
  fun l0 l1 l2 S h => zD_icst (n := 1) (by decide +kernel) (by decide +kernel),
  fun l0 l1 l2 S h => zD_goto (off := 4) (by decide +kernel) (by decide),
  fun l0 l1 l2 S h => zD_icst (n := 0) (by decide +kernel) (by decide +kernel),
  fun l0 l1 l2 v h hv => zD_iretz (by decide +kernel) rfl hv⟩
set_option maxRecDepth 100000 in
theorem I_X3_hasArc : (∀ (a : Nat) (p0 : Int32) (p1 : Int32) (h : zH), zC 51 [.ref a, .int p0, .int p1] h = zD 51 0 [some (.ref a), some (.int p0), some (.int p1)] [] h) :=
  fun a p0 p1 h => zC_def rfl
set_option maxRecDepth 100000 in
theorem E_X3_isAbove : (∀ (l1 l2 : Option Value) (x : Nat) (S : List Value) (h : zH), zD 52 0 [some (.ref x), l1, l2] S h = zD 52 1 [some (.ref x), l1, l2] (.ref x :: S) h) ∧
  (∀ (l0 l1 : Option Value) (x : Int32) (S : List Value) (h : zH), zD 52 1 [l0, l1, some (.int x)] S h = zD 52 2 [l0, l1, some (.int x)] (.int x :: S) h) ∧
  (∀ (l0 l1 l2 : Option Value) (p0 : Int32) (a : Nat) (r : List Value) (h : zH) (hcat : zcat r ≤ 8) (hr : zis (h.2.2 a) 3 = true) (hC : (zC 8 (.ref a :: [.int p0]) h).isSome = true), zD 52 2 [l0, l1, l2] (.int p0 :: .ref a :: r) h = zD 52 5 [l0, l1, l2] (zgv (zC 8 (.ref a :: [.int p0]) h) ++ r) (zgh h (zC 8 (.ref a :: [.int p0]) h))) ∧
  (∀ (l0 l2 : Option Value) (x : Int32) (S : List Value) (h : zH), zD 52 5 [l0, some (.int x), l2] S h = zD 52 6 [l0, some (.int x), l2] (.int x :: S) h) ∧
  (∀ (l0 l1 l2 : Option Value) (x y : Int32) (r : List Value) (h : zH), zD 52 6 [l0, l1, l2] (.int y :: .int x :: r) h = zD 52 7 [l0, l1, l2] (.int (x >>> (y &&& 31)) :: r) h) ∧
  (∀ (l0 l1 l2 : Option Value) (S : List Value) (h : zH), zD 52 7 [l0, l1, l2] S h = zD 52 8 [l0, l1, l2] (.int (1 : Int32) :: S) h) ∧
  (∀ (l0 l1 l2 : Option Value) (x y : Int32) (r : List Value) (h : zH), zD 52 8 [l0, l1, l2] (.int y :: .int x :: r) h = zD 52 9 [l0, l1, l2] (.int (x &&& y) :: r) h) ∧
  (∀ (l0 l1 l2 : Option Value) (x : Int32) (r : List Value) (h : zH), zD 52 9 [l0, l1, l2] (.int x :: r) h = if x = 0 then zD 52 16 [l0, l1, l2] r h else zD 52 12 [l0, l1, l2] r h) ∧
  (∀ (l0 l1 l2 : Option Value) (S : List Value) (h : zH), zD 52 12 [l0, l1, l2] S h = zD 52 13 [l0, l1, l2] (.int (1 : Int32) :: S) h) ∧
  (∀ (l0 l1 l2 : Option Value) (S : List Value) (h : zH), zD 52 13 [l0, l1, l2] S h = zD 52 17 [l0, l1, l2] S h) ∧
  (∀ (l0 l1 l2 : Option Value) (S : List Value) (h : zH), zD 52 16 [l0, l1, l2] S h = zD 52 17 [l0, l1, l2] (.int (0 : Int32) :: S) h) ∧
  (∀ (l0 l1 l2 : Option Value) (v : Int32) (h : zH) (hv : zbv v), zD 52 17 [l0, l1, l2] [.int v] h = some (some (.int v), h)) :=
  ⟨fun l1 l2 x S h => zD_op (ins := .aload_n 0) (len := 1) (c := (1, [some (.ref x), l1, l2], (.ref x :: S), h)) (by decide +kernel) rfl rfl rfl rfl,
  fun l0 l1 x S h => zD_op (ins := .iload_n 2) (len := 1) (c := (2, [l0, l1, some (.int x)], (.int x :: S), h)) (by decide +kernel) rfl rfl rfl rfl,
  fun l0 l1 l2 p0 a r h hcat hr hC => zD_callv (i := 51) (y := 8) (n := 1) (as := [.int p0]) (ci := 3) (by decide +kernel) (by decide +kernel) rfl (by decide +kernel) (Nat.le_of_ble_eq_true rfl) (by decide +kernel) hcat hr hC,
  fun l0 l2 x S h => zD_op (ins := .iload_n 1) (len := 1) (c := (6, [l0, some (.int x), l2], (.int x :: S), h)) (by decide +kernel) rfl rfl rfl rfl,
  fun l0 l1 l2 x y r h => zD_op (ins := .ishr) (len := 1) (c := (7, [l0, l1, l2], (.int (x >>> (y &&& 31)) :: r), h)) (by decide +kernel) rfl rfl rfl rfl,
  fun l0 l1 l2 S h => zD_icst (n := 1) (by decide +kernel) (by decide +kernel),
  fun l0 l1 l2 x y r h => zD_op (ins := .iand) (len := 1) (c := (9, [l0, l1, l2], (.int (x &&& y) :: r), h)) (by decide +kernel) rfl rfl rfl rfl,
  fun l0 l1 l2 x r h => zD_if0 (cnd := .eq) (off := 7) (by decide +kernel) (by decide) rfl,
  fun l0 l1 l2 S h => zD_icst (n := 1) (by decide +kernel) (by decide +kernel),
  fun l0 l1 l2 S h => zD_goto (off := 4) (by decide +kernel) (by decide),
  fun l0 l1 l2 S h => zD_icst (n := 0) (by decide +kernel) (by decide +kernel),
  fun l0 l1 l2 v h hv => zD_iretz (by decide +kernel) rfl hv⟩
set_option maxRecDepth 100000 in
theorem I_X3_isAbove : (∀ (a : Nat) (p0 : Int32) (p1 : Int32) (h : zH), zC 52 [.ref a, .int p0, .int p1] h = zD 52 0 [some (.ref a), some (.int p0), some (.int p1)] [] h) :=
  fun a p0 p1 h => zC_def rfl
set_option maxRecDepth 100000 in
theorem E_X3_headsBeforeRoot : (∀ (l1 : Option Value) (x : Nat) (S : List Value) (h : zH), zD 53 0 [some (.ref x), l1] S h = zD 53 1 [some (.ref x), l1] (.ref x :: S) h) ∧
  (∀ (l0 : Option Value) (x : Int32) (S : List Value) (h : zH), zD 53 1 [l0, some (.int x)] S h = zD 53 2 [l0, some (.int x)] (.int x :: S) h) ∧
  (∀ (l0 l1 : Option Value) (p0 : Int32) (a : Nat) (r : List Value) (h : zH) (hcat : zcat r ≤ 8) (hr : zis (h.2.2 a) 3 = true) (hC : (zC 8 (.ref a :: [.int p0]) h).isSome = true), zD 53 2 [l0, l1] (.int p0 :: .ref a :: r) h = zD 53 5 [l0, l1] (zgv (zC 8 (.ref a :: [.int p0]) h) ++ r) (zgh h (zC 8 (.ref a :: [.int p0]) h))) ∧
  (∀ (l0 l1 : Option Value) (p0 : Int32) (r : List Value) (h : zH) (hcat : zcat r ≤ 8) (hC : (zC 40 [.int p0] h).isSome = true), zD 53 5 [l0, l1] (.int p0 :: r) h = zD 53 8 [l0, l1] (zgv (zC 40 [.int p0] h) ++ r) (zgh h (zC 40 [.int p0] h))) ∧
  (∀ (l0 l1 : Option Value) (S : List Value) (h : zH), zD 53 8 [l0, l1] S h = zD 53 9 [l0, l1] (.int (1 : Int32) :: S) h) ∧
  (∀ (l0 l1 : Option Value) (x y : Int32) (r : List Value) (h : zH), zD 53 9 [l0, l1] (.int y :: .int x :: r) h = zD 53 10 [l0, l1] (.int (x - y) :: r) h) ∧
  (∀ (l0 l1 : Option Value) (v : Int32) (h : zH), zD 53 10 [l0, l1] [.int v] h = some (some (.int v), h)) :=
  ⟨fun l1 x S h => zD_op (ins := .aload_n 0) (len := 1) (c := (1, [some (.ref x), l1], (.ref x :: S), h)) (by decide +kernel) rfl rfl rfl rfl,
  fun l0 x S h => zD_op (ins := .iload_n 1) (len := 1) (c := (2, [l0, some (.int x)], (.int x :: S), h)) (by decide +kernel) rfl rfl rfl rfl,
  fun l0 l1 p0 a r h hcat hr hC => zD_callv (i := 51) (y := 8) (n := 1) (as := [.int p0]) (ci := 3) (by decide +kernel) (by decide +kernel) rfl (by decide +kernel) (Nat.le_of_ble_eq_true rfl) (by decide +kernel) hcat hr hC,
  fun l0 l1 p0 r h hcat hC => zD_calls (i := 68) (y := 40) (n := 1) (as := [.int p0]) (by decide +kernel) (by decide +kernel) rfl (by decide +kernel) (Nat.le_of_ble_eq_true rfl) hcat hC,
  fun l0 l1 S h => zD_icst (n := 1) (by decide +kernel) (by decide +kernel),
  fun l0 l1 x y r h => zD_op (ins := .isub) (len := 1) (c := (10, [l0, l1], (.int (x - y) :: r), h)) (by decide +kernel) rfl rfl rfl rfl,
  fun l0 l1 v h => zD_ireti (by decide +kernel) rfl⟩
set_option maxRecDepth 100000 in
theorem I_X3_headsBeforeRoot : (∀ (a : Nat) (p0 : Int32) (h : zH), zC 53 [.ref a, .int p0] h = zD 53 0 [some (.ref a), some (.int p0)] [] h) :=
  fun a p0 h => zC_def rfl
set_option maxRecDepth 100000 in
theorem E_X4_ofArc : (∀ (l1 l2 : Option Value) (x : Int32) (S : List Value) (h : zH), zD 54 0 [some (.int x), l1, l2] S h = zD 54 1 [some (.int x), l1, l2] (.int x :: S) h) ∧
  (∀ (l0 l1 l2 : Option Value) (x : Int32) (r : List Value) (h : zH), zD 54 1 [l0, l1, l2] (.int x :: r) h = zD 54 2 [l0, l1, l2] (.long x.toInt64 :: r) h) ∧
  (∀ (l0 l1 l2 : Option Value) (S : List Value) (h : zH), zD 54 2 [l0, l1, l2] S h = zD 54 4 [l0, l1, l2] (.int (21 : Int32) :: S) h) ∧
  (∀ (l0 l1 l2 : Option Value) (x : Int64) (y : Int32) (r : List Value) (h : zH), zD 54 4 [l0, l1, l2] (.int y :: .long x :: r) h = zD 54 5 [l0, l1, l2] (.long (x <<< (y.toInt64 &&& 63)) :: r) h) ∧
  (∀ (l0 l2 : Option Value) (x : Int32) (S : List Value) (h : zH), zD 54 5 [l0, some (.int x), l2] S h = zD 54 6 [l0, some (.int x), l2] (.int x :: S) h) ∧
  (∀ (l0 l1 l2 : Option Value) (x : Int32) (r : List Value) (h : zH), zD 54 6 [l0, l1, l2] (.int x :: r) h = zD 54 7 [l0, l1, l2] (.long x.toInt64 :: r) h) ∧
  (∀ (l0 l1 : Option Value) (x : Int32) (S : List Value) (h : zH), zD 54 7 [l0, l1, some (.int x)] S h = zD 54 8 [l0, l1, some (.int x)] (.int x :: S) h) ∧
  (∀ (l0 l1 l2 : Option Value) (p0 : Int32) (r : List Value) (h : zH) (hcat : zcat r ≤ 8) (hC : (zC 11 [.int p0] h).isSome = true), zD 54 8 [l0, l1, l2] (.int p0 :: r) h = zD 54 11 [l0, l1, l2] (zgv (zC 11 [.int p0] h) ++ r) (zgh h (zC 11 [.int p0] h))) ∧
  (∀ (l0 l1 l2 : Option Value) (x : Int64) (y : Int32) (r : List Value) (h : zH), zD 54 11 [l0, l1, l2] (.int y :: .long x :: r) h = zD 54 12 [l0, l1, l2] (.long (x <<< (y.toInt64 &&& 63)) :: r) h) ∧
  (∀ (l0 l1 l2 : Option Value) (x y : Int64) (r : List Value) (h : zH), zD 54 12 [l0, l1, l2] (.long y :: .long x :: r) h = zD 54 13 [l0, l1, l2] (.long (x - y) :: r) h) ∧
  (∀ (l0 l1 l2 : Option Value) (v : Int64) (h : zH), zD 54 13 [l0, l1, l2] [.long v] h = some (some (.long v), h)) :=
  ⟨fun l1 l2 x S h => zD_op (ins := .iload_n 0) (len := 1) (c := (1, [some (.int x), l1, l2], (.int x :: S), h)) (by decide +kernel) rfl rfl rfl rfl,
  fun l0 l1 l2 x r h => zD_op (ins := .i2l) (len := 1) (c := (2, [l0, l1, l2], (.long x.toInt64 :: r), h)) (by decide +kernel) rfl rfl rfl rfl,
  fun l0 l1 l2 S h => zD_bip (n := 21) (by decide +kernel) (by decide +kernel),
  fun l0 l1 l2 x y r h => zD_op (ins := .lshl) (len := 1) (c := (5, [l0, l1, l2], (.long (x <<< (y.toInt64 &&& 63)) :: r), h)) (by decide +kernel) rfl rfl rfl rfl,
  fun l0 l2 x S h => zD_op (ins := .iload_n 1) (len := 1) (c := (6, [l0, some (.int x), l2], (.int x :: S), h)) (by decide +kernel) rfl rfl rfl rfl,
  fun l0 l1 l2 x r h => zD_op (ins := .i2l) (len := 1) (c := (7, [l0, l1, l2], (.long x.toInt64 :: r), h)) (by decide +kernel) rfl rfl rfl rfl,
  fun l0 l1 x S h => zD_op (ins := .iload_n 2) (len := 1) (c := (8, [l0, l1, some (.int x)], (.int x :: S), h)) (by decide +kernel) rfl rfl rfl rfl,
  fun l0 l1 l2 p0 r h hcat hC => zD_calls (i := 11) (y := 11) (n := 1) (as := [.int p0]) (by decide +kernel) (by decide +kernel) rfl (by decide +kernel) (Nat.le_of_ble_eq_true rfl) hcat hC,
  fun l0 l1 l2 x y r h => zD_op (ins := .lshl) (len := 1) (c := (12, [l0, l1, l2], (.long (x <<< (y.toInt64 &&& 63)) :: r), h)) (by decide +kernel) rfl rfl rfl rfl,
  fun l0 l1 l2 x y r h => zD_op (ins := .lsub) (len := 1) (c := (13, [l0, l1, l2], (.long (x - y) :: r), h)) (by decide +kernel) rfl rfl rfl rfl,
  fun l0 l1 l2 v h => zD_lret (by decide +kernel) rfl⟩
set_option maxRecDepth 100000 in
theorem I_X4_ofArc : (∀ (p0 : Int32) (p1 : Int32) (p2 : Int32) (h : zH), zC 54 [.int p0, .int p1, .int p2] h = zD 54 0 [some (.int p0), some (.int p1), some (.int p2)] [] h) :=
  fun p0 p1 p2 h => zC_def rfl
set_option maxRecDepth 100000 in
theorem E_X4_headIn : (∀ (l1 l2 : Option Value) (x : Int64) (S : List Value) (h : zH), zD 55 0 [some (.long x), l1, l2] S h = zD 55 1 [some (.long x), l1, l2] (.long x :: S) h) ∧
  (∀ (l0 l1 l2 : Option Value) (x : Int64) (r : List Value) (h : zH), zD 55 1 [l0, l1, l2] (.long x :: r) h = zD 55 2 [l0, l1, l2] (.long (-x) :: r) h) ∧
  (∀ (l0 l1 : Option Value) (x : Int32) (S : List Value) (h : zH), zD 55 2 [l0, l1, some (.int x)] S h = zD 55 3 [l0, l1, some (.int x)] (.int x :: S) h) ∧
  (∀ (l0 l1 l2 : Option Value) (p0 : Int32) (r : List Value) (h : zH) (hcat : zcat r ≤ 8) (hC : (zC 11 [.int p0] h).isSome = true), zD 55 3 [l0, l1, l2] (.int p0 :: r) h = zD 55 6 [l0, l1, l2] (zgv (zC 11 [.int p0] h) ++ r) (zgh h (zC 11 [.int p0] h))) ∧
  (∀ (l0 l1 l2 : Option Value) (x : Int64) (y : Int32) (r : List Value) (h : zH), zD 55 6 [l0, l1, l2] (.int y :: .long x :: r) h = zD 55 7 [l0, l1, l2] (.long (x >>> (y.toInt64 &&& 63)) :: r) h) ∧
  (∀ (l0 l1 l2 : Option Value) (x : Int64) (r : List Value) (h : zH), zD 55 7 [l0, l1, l2] (.long x :: r) h = zD 55 8 [l0, l1, l2] (.int x.toInt32 :: r) h) ∧
  (∀ (l0 l1 l2 : Option Value) (S : List Value) (h : zH), zD 55 8 [l0, l1, l2] S h = zD 55 10 [l0, l1, l2] (.int (7 : Int32) :: S) h) ∧
  (∀ (l0 l1 l2 : Option Value) (x y : Int32) (r : List Value) (h : zH), zD 55 10 [l0, l1, l2] (.int y :: .int x :: r) h = zD 55 11 [l0, l1, l2] (.int (x &&& y) :: r) h) ∧
  (∀ (l0 l1 l2 : Option Value) (v : Int32) (h : zH), zD 55 11 [l0, l1, l2] [.int v] h = some (some (.int v), h)) :=
  ⟨fun l1 l2 x S h => zD_op (ins := .lload_n 0) (len := 1) (c := (1, [some (.long x), l1, l2], (.long x :: S), h)) (by decide +kernel) rfl rfl rfl rfl,
  fun l0 l1 l2 x r h => zD_op (ins := .lneg) (len := 1) (c := (2, [l0, l1, l2], (.long (-x) :: r), h)) (by decide +kernel) rfl rfl rfl rfl,
  fun l0 l1 x S h => zD_op (ins := .iload_n 2) (len := 1) (c := (3, [l0, l1, some (.int x)], (.int x :: S), h)) (by decide +kernel) rfl rfl rfl rfl,
  fun l0 l1 l2 p0 r h hcat hC => zD_calls (i := 11) (y := 11) (n := 1) (as := [.int p0]) (by decide +kernel) (by decide +kernel) rfl (by decide +kernel) (Nat.le_of_ble_eq_true rfl) hcat hC,
  fun l0 l1 l2 x y r h => zD_op (ins := .lshr) (len := 1) (c := (7, [l0, l1, l2], (.long (x >>> (y.toInt64 &&& 63)) :: r), h)) (by decide +kernel) rfl rfl rfl rfl,
  fun l0 l1 l2 x r h => zD_op (ins := .l2i) (len := 1) (c := (8, [l0, l1, l2], (.int x.toInt32 :: r), h)) (by decide +kernel) rfl rfl rfl rfl,
  fun l0 l1 l2 S h => zD_bip (n := 7) (by decide +kernel) (by decide +kernel),
  fun l0 l1 l2 x y r h => zD_op (ins := .iand) (len := 1) (c := (11, [l0, l1, l2], (.int (x &&& y) :: r), h)) (by decide +kernel) rfl rfl rfl rfl,
  fun l0 l1 l2 v h => zD_ireti (by decide +kernel) rfl⟩
set_option maxRecDepth 100000 in
theorem I_X4_headIn : (∀ (p0 : Int64) (p1 : Int32) (h : zH), zC 55 [.long p0, .int p1] h = zD 55 0 [some (.long p0), none, some (.int p1)] [] h) :=
  fun p0 p1 h => zC_def rfl
set_option maxRecDepth 100000 in
theorem E_X5_init : (∀ (x : Nat) (S : List Value) (h : zH), zD 56 0 [some (.ref x)] S h = zD 56 1 [some (.ref x)] (.ref x :: S) h) ∧
  (∀ (l0 : Option Value) (a : Nat) (r : List Value) (h : zH) (hcat : zcat r ≤ 8), zD 56 1 [l0] (.ref a :: r) h = zD 56 4 [l0] r h) ∧
  (∀ (x : Nat) (S : List Value) (h : zH), zD 56 4 [some (.ref x)] S h = zD 56 5 [some (.ref x)] (.ref x :: S) h) ∧
  (∀ (l0 : Option Value) (S : List Value) (h : zH), zD 56 5 [l0] S h = zD 56 7 [l0] (.int (6 : Int32) :: S) h) ∧
  (∀ (l0 : Option Value) (n : Int32) (r : List Value) (h : zH) (hx : znok n = true), zD 56 7 [l0] (.int n :: r) h = zD 56 9 [l0] (.ref h.1 :: r) (znew h n.toNatClampNeg (.inl (0, n.toNatClampNeg, .inl (fun _ => 0))))) ∧
  (∀ (l0 : Option Value) (v : Nat) (a : Nat) (r : List Value) (h : zH) (hx : zfok (h.2.2 a) 4 0 = true), zD 56 9 [l0] (.ref v :: .ref a :: r) h = zD 56 12 [l0] r (zw h a (zfs' (h.2.2 a) 0 (.ref v)))) ∧
  (∀ (x : Nat) (S : List Value) (h : zH), zD 56 12 [some (.ref x)] S h = zD 56 13 [some (.ref x)] (.ref x :: S) h) ∧
  (∀ (l0 : Option Value) (S : List Value) (h : zH), zD 56 13 [l0] S h = zD 56 15 [l0] (.int (6 : Int32) :: S) h) ∧
  (∀ (l0 : Option Value) (n : Int32) (r : List Value) (h : zH) (hx : znok n = true), zD 56 15 [l0] (.int n :: r) h = zD 56 17 [l0] (.ref h.1 :: r) (znew h n.toNatClampNeg (.inl (0, n.toNatClampNeg, .inl (fun _ => 0))))) ∧
  (∀ (l0 : Option Value) (v : Nat) (a : Nat) (r : List Value) (h : zH) (hx : zfok (h.2.2 a) 4 1 = true), zD 56 17 [l0] (.ref v :: .ref a :: r) h = zD 56 20 [l0] r (zw h a (zfs' (h.2.2 a) 1 (.ref v)))) ∧
  (∀ (x : Nat) (S : List Value) (h : zH), zD 56 20 [some (.ref x)] S h = zD 56 21 [some (.ref x)] (.ref x :: S) h) ∧
  (∀ (l0 : Option Value) (S : List Value) (h : zH), zD 56 21 [l0] S h = zD 56 23 [l0] (.int (6 : Int32) :: S) h) ∧
  (∀ (l0 : Option Value) (n : Int32) (r : List Value) (h : zH) (hx : znok n = true), zD 56 23 [l0] (.int n :: r) h = zD 56 25 [l0] (.ref h.1 :: r) (znew h n.toNatClampNeg (.inl (0, n.toNatClampNeg, .inl (fun _ => 0))))) ∧
  (∀ (l0 : Option Value) (v : Nat) (a : Nat) (r : List Value) (h : zH) (hx : zfok (h.2.2 a) 4 2 = true), zD 56 25 [l0] (.ref v :: .ref a :: r) h = zD 56 28 [l0] r (zw h a (zfs' (h.2.2 a) 2 (.ref v)))) ∧
  (∀ (x : Nat) (S : List Value) (h : zH), zD 56 28 [some (.ref x)] S h = zD 56 29 [some (.ref x)] (.ref x :: S) h) ∧
  (∀ (l0 : Option Value) (S : List Value) (h : zH), zD 56 29 [l0] S h = zD 56 30 [l0] (.int (4 : Int32) :: S) h) ∧
  (∀ (l0 : Option Value) (n : Int32) (r : List Value) (h : zH) (hx : znok n = true), zD 56 30 [l0] (.int n :: r) h = zD 56 32 [l0] (.ref h.1 :: r) (znew h n.toNatClampNeg (.inl (0, n.toNatClampNeg, .inl (fun _ => 0))))) ∧
  (∀ (l0 : Option Value) (v : Nat) (a : Nat) (r : List Value) (h : zH) (hx : zfok (h.2.2 a) 4 4 = true), zD 56 32 [l0] (.ref v :: .ref a :: r) h = zD 56 35 [l0] r (zw h a (zfs' (h.2.2 a) 4 (.ref v)))) ∧
  (∀ (x : Nat) (S : List Value) (h : zH), zD 56 35 [some (.ref x)] S h = zD 56 36 [some (.ref x)] (.ref x :: S) h) ∧
  (∀ (l0 : Option Value) (S : List Value) (h : zH), zD 56 36 [l0] S h = zD 56 37 [l0] (.int (4 : Int32) :: S) h) ∧
  (∀ (l0 : Option Value) (n : Int32) (r : List Value) (h : zH) (hx : znok n = true), zD 56 37 [l0] (.int n :: r) h = zD 56 39 [l0] (.ref h.1 :: r) (znew h n.toNatClampNeg (.inl (0, n.toNatClampNeg, .inl (fun _ => 0))))) ∧
  (∀ (l0 : Option Value) (v : Nat) (a : Nat) (r : List Value) (h : zH) (hx : zfok (h.2.2 a) 4 5 = true), zD 56 39 [l0] (.ref v :: .ref a :: r) h = zD 56 42 [l0] r (zw h a (zfs' (h.2.2 a) 5 (.ref v)))) ∧
  (∀ (x : Nat) (S : List Value) (h : zH), zD 56 42 [some (.ref x)] S h = zD 56 43 [some (.ref x)] (.ref x :: S) h) ∧
  (∀ (l0 : Option Value) (S : List Value) (h : zH), zD 56 43 [l0] S h = zD 56 44 [l0] (.int (4 : Int32) :: S) h) ∧
  (∀ (l0 : Option Value) (n : Int32) (r : List Value) (h : zH) (hx : znok n = true), zD 56 44 [l0] (.int n :: r) h = zD 56 46 [l0] (.ref h.1 :: r) (znew h n.toNatClampNeg (.inl (0, n.toNatClampNeg, .inl (fun _ => 0))))) ∧
  (∀ (l0 : Option Value) (v : Nat) (a : Nat) (r : List Value) (h : zH) (hx : zfok (h.2.2 a) 4 6 = true), zD 56 46 [l0] (.ref v :: .ref a :: r) h = zD 56 49 [l0] r (zw h a (zfs' (h.2.2 a) 6 (.ref v)))) ∧
  (∀ (x : Nat) (S : List Value) (h : zH), zD 56 49 [some (.ref x)] S h = zD 56 50 [some (.ref x)] (.ref x :: S) h) ∧
  (∀ (l0 : Option Value) (S : List Value) (h : zH), zD 56 50 [l0] S h = zD 56 52 [l0] (.int (8 : Int32) :: S) h) ∧
  (∀ (l0 : Option Value) (n : Int32) (r : List Value) (h : zH) (hx : znok n = true), zD 56 52 [l0] (.int n :: r) h = zD 56 54 [l0] (.ref h.1 :: r) (znew h n.toNatClampNeg (.inl (0, n.toNatClampNeg, .inl (fun _ => 0))))) ∧
  (∀ (l0 : Option Value) (v : Nat) (a : Nat) (r : List Value) (h : zH) (hx : zfok (h.2.2 a) 4 7 = true), zD 56 54 [l0] (.ref v :: .ref a :: r) h = zD 56 57 [l0] r (zw h a (zfs' (h.2.2 a) 7 (.ref v)))) ∧
  (∀ (l0 : Option Value) (h : zH), zD 56 57 [l0] [] h = some (none, h)) :=
  ⟨fun x S h => zD_op (ins := .aload_n 0) (len := 1) (c := (1, [some (.ref x)], (.ref x :: S), h)) (by decide +kernel) rfl rfl rfl rfl,
  fun l0 a r h hcat => zD_obj (i := 3) (q := 211) (by decide +kernel) (by decide +kernel) (by decide +kernel) (by decide +kernel) hcat,
  fun x S h => zD_op (ins := .aload_n 0) (len := 1) (c := (5, [some (.ref x)], (.ref x :: S), h)) (by decide +kernel) rfl rfl rfl rfl,
  fun l0 S h => zD_bip (n := 6) (by decide +kernel) (by decide +kernel),
  fun l0 n r h hx => zD_newi (by decide +kernel) hx,
  fun l0 v a r h hx => zD_putf (i := 9) (ci := 4) (k := 0) (q := (212, 0)) (by decide +kernel) (by decide +kernel) (by decide +kernel) hx rfl rfl,
  fun x S h => zD_op (ins := .aload_n 0) (len := 1) (c := (13, [some (.ref x)], (.ref x :: S), h)) (by decide +kernel) rfl rfl rfl rfl,
  fun l0 S h => zD_bip (n := 6) (by decide +kernel) (by decide +kernel),
  fun l0 n r h hx => zD_newi (by decide +kernel) hx,
  fun l0 v a r h hx => zD_putf (i := 15) (ci := 4) (k := 1) (q := (214, 0)) (by decide +kernel) (by decide +kernel) (by decide +kernel) hx rfl rfl,
  fun x S h => zD_op (ins := .aload_n 0) (len := 1) (c := (21, [some (.ref x)], (.ref x :: S), h)) (by decide +kernel) rfl rfl rfl rfl,
  fun l0 S h => zD_bip (n := 6) (by decide +kernel) (by decide +kernel),
  fun l0 n r h hx => zD_newi (by decide +kernel) hx,
  fun l0 v a r h hx => zD_putf (i := 18) (ci := 4) (k := 2) (q := (216, 0)) (by decide +kernel) (by decide +kernel) (by decide +kernel) hx rfl rfl,
  fun x S h => zD_op (ins := .aload_n 0) (len := 1) (c := (29, [some (.ref x)], (.ref x :: S), h)) (by decide +kernel) rfl rfl rfl rfl,
  fun l0 S h => zD_icst (n := 4) (by decide +kernel) (by decide +kernel),
  fun l0 n r h hx => zD_newi (by decide +kernel) hx,
  fun l0 v a r h hx => zD_putf (i := 21) (ci := 4) (k := 4) (q := (220, 0)) (by decide +kernel) (by decide +kernel) (by decide +kernel) hx rfl rfl,
  fun x S h => zD_op (ins := .aload_n 0) (len := 1) (c := (36, [some (.ref x)], (.ref x :: S), h)) (by decide +kernel) rfl rfl rfl rfl,
  fun l0 S h => zD_icst (n := 4) (by decide +kernel) (by decide +kernel),
  fun l0 n r h hx => zD_newi (by decide +kernel) hx,
  fun l0 v a r h hx => zD_putf (i := 24) (ci := 4) (k := 5) (q := (221, 0)) (by decide +kernel) (by decide +kernel) (by decide +kernel) hx rfl rfl,
  fun x S h => zD_op (ins := .aload_n 0) (len := 1) (c := (43, [some (.ref x)], (.ref x :: S), h)) (by decide +kernel) rfl rfl rfl rfl,
  fun l0 S h => zD_icst (n := 4) (by decide +kernel) (by decide +kernel),
  fun l0 n r h hx => zD_newi (by decide +kernel) hx,
  fun l0 v a r h hx => zD_putf (i := 27) (ci := 4) (k := 6) (q := (222, 0)) (by decide +kernel) (by decide +kernel) (by decide +kernel) hx rfl rfl,
  fun x S h => zD_op (ins := .aload_n 0) (len := 1) (c := (50, [some (.ref x)], (.ref x :: S), h)) (by decide +kernel) rfl rfl rfl rfl,
  fun l0 S h => zD_bip (n := 8) (by decide +kernel) (by decide +kernel),
  fun l0 n r h hx => zD_newi (by decide +kernel) hx,
  fun l0 v a r h hx => zD_putf (i := 30) (ci := 4) (k := 7) (q := (223, 0)) (by decide +kernel) (by decide +kernel) (by decide +kernel) hx rfl rfl,
  fun l0 h => zD_vret (by decide +kernel) rfl⟩
set_option maxRecDepth 100000 in
theorem I_X5_init : (∀ (a : Nat) (h : zH), zC 56 [.ref a] h = zD 56 0 [some (.ref a)] [] h) :=
  fun a h => zC_def rfl
set_option maxRecDepth 100000 in
theorem E_X5_prepare : (∀ (l1 l2 l3 : Option Value) (x : Nat) (S : List Value) (h : zH), zD 57 0 [some (.ref x), l1, l2, l3] S h = zD 57 1 [some (.ref x), l1, l2, l3] (.ref x :: S) h) ∧
  (∀ (l0 l1 l2 l3 : Option Value) (S : List Value) (h : zH), zD 57 1 [l0, l1, l2, l3] S h = zD 57 2 [l0, l1, l2, l3] (.int (0 : Int32) :: S) h) ∧
  (∀ (l0 l1 l2 l3 : Option Value) (v : Int32) (a : Nat) (r : List Value) (h : zH) (hx : zfok (h.2.2 a) 4 8 = true), zD 57 2 [l0, l1, l2, l3] (.int v :: .ref a :: r) h = zD 57 5 [l0, l1, l2, l3] r (zw h a (zfs' (h.2.2 a) 8 (.int v)))) ∧
  (∀ (l1 l2 l3 : Option Value) (x : Nat) (S : List Value) (h : zH), zD 57 5 [some (.ref x), l1, l2, l3] S h = zD 57 6 [some (.ref x), l1, l2, l3] (.ref x :: S) h) ∧
  (∀ (l0 l1 l2 l3 : Option Value) (S : List Value) (h : zH), zD 57 6 [l0, l1, l2, l3] S h = zD 57 7 [l0, l1, l2, l3] (.int (-1 : Int32) :: S) h) ∧
  (∀ (l0 l1 l2 l3 : Option Value) (v : Int32) (a : Nat) (r : List Value) (h : zH) (hx : zfok (h.2.2 a) 4 9 = true), zD 57 7 [l0, l1, l2, l3] (.int v :: .ref a :: r) h = zD 57 10 [l0, l1, l2, l3] r (zw h a (zfs' (h.2.2 a) 9 (.int v)))) ∧
  (∀ (l0 l1 l2 l3 : Option Value) (S : List Value) (h : zH), zD 57 10 [l0, l1, l2, l3] S h = zD 57 11 [l0, l1, l2, l3] (.int (1 : Int32) :: S) h) ∧
  (∀ (l0 l1 l2 l3 : Option Value) (x : Int32) (r : List Value) (h : zH), zD 57 11 [l0, l1, l2, l3] (.int x :: r) h = zD 57 12 [l0, zclr l1, some (.int x), l3] r h) ∧
  (∀ (l0 l2 l3 : Option Value) (x : Nat) (S : List Value) (h : zH), zD 57 13 [l0, some (.ref x), l2, l3] S h = zD 57 14 [l0, some (.ref x), l2, l3] (.ref x :: S) h) ∧
  (∀ (l0 l2 l3 : Option Value) (S : List Value) (h : zH), zD 57 13 [l0, some .null, l2, l3] S h = zD 57 14 [l0, some .null, l2, l3] (.null :: S) h) ∧
  (∀ (l0 l1 l2 l3 : Option Value) (a : Nat) (r : List Value) (h : zH) (hx : zfok (h.2.2 a) 3 2 = true), zD 57 14 [l0, l1, l2, l3] (.ref a :: r) h = zD 57 17 [l0, l1, l2, l3] (zfv (h.2.2 a) 2 :: r) h) ∧
  (∀ (l0 l1 l2 l3 : Option Value) (x y : Int32) (r : List Value) (h : zH), zD 57 17 [l0, l1, l2, l3] (.int y :: .int x :: r) h = if y < x then zD 57 37 [l0, l1, l2, l3] r h else zD 57 20 [l0, l1, l2, l3] r h) ∧
  (∀ (l1 l2 l3 : Option Value) (x : Nat) (S : List Value) (h : zH), zD 57 20 [some (.ref x), l1, l2, l3] S h = zD 57 21 [some (.ref x), l1, l2, l3] (.ref x :: S) h) ∧
  (∀ (l0 l1 l2 l3 : Option Value) (a : Nat) (r : List Value) (h : zH) (hx : zfok (h.2.2 a) 4 7 = true), zD 57 21 [l0, l1, l2, l3] (.ref a :: r) h = zD 57 24 [l0, l1, l2, l3] (zfv (h.2.2 a) 7 :: r) h) ∧
  (∀ (l0 l1 l3 : Option Value) (x : Int32) (S : List Value) (h : zH), zD 57 24 [l0, l1, some (.int x), l3] S h = zD 57 25 [l0, l1, some (.int x), l3] (.int x :: S) h) ∧
  (∀ (l0 l2 l3 : Option Value) (x : Nat) (S : List Value) (h : zH), zD 57 25 [l0, some (.ref x), l2, l3] S h = zD 57 26 [l0, some (.ref x), l2, l3] (.ref x :: S) h) ∧
  (∀ (l0 l2 l3 : Option Value) (S : List Value) (h : zH), zD 57 25 [l0, some .null, l2, l3] S h = zD 57 26 [l0, some .null, l2, l3] (.null :: S) h) ∧
  (∀ (l0 l1 l3 : Option Value) (x : Int32) (S : List Value) (h : zH), zD 57 26 [l0, l1, some (.int x), l3] S h = zD 57 27 [l0, l1, some (.int x), l3] (.int x :: S) h) ∧
  (∀ (l0 l1 l2 l3 : Option Value) (p0 : Int32) (a : Nat) (r : List Value) (h : zH) (hcat : zcat r ≤ 8) (hr : zis (h.2.2 a) 3 = true) (hC : (zC 8 (.ref a :: [.int p0]) h).isSome = true), zD 57 27 [l0, l1, l2, l3] (.int p0 :: .ref a :: r) h = zD 57 30 [l0, l1, l2, l3] (zgv (zC 8 (.ref a :: [.int p0]) h) ++ r) (zgh h (zC 8 (.ref a :: [.int p0]) h))) ∧
  (∀ (l0 l1 l2 l3 : Option Value) (w i : Int32) (a : Nat) (r : List Value) (h : zH) (hx : zpok (h.2.2 a) i = true), zD 57 30 [l0, l1, l2, l3] (.int w :: .int i :: .ref a :: r) h = zD 57 31 [l0, l1, l2, l3] r (zw h a (zis' (h.2.2 a) i w))) ∧
  (∀ (l0 l1 l3 : Option Value) (x : Int32) (S : List Value) (h : zH), zD 57 31 [l0, l1, some (.int x), l3] S h = zD 57 34 [l0, zclr l1, some (.int (x + (1 : Int32))), l3] S h) ∧
  (∀ (l0 l1 l2 l3 : Option Value) (S : List Value) (h : zH), zD 57 34 [l0, l1, l2, l3] S h = zD 57 12 [l0, l1, l2, l3] S h) ∧
  (∀ (l0 l1 l2 l3 : Option Value) (S : List Value) (h : zH), zD 57 37 [l0, l1, l2, l3] S h = zD 57 38 [l0, l1, l2, l3] (.int (0 : Int32) :: S) h) ∧
  (∀ (l0 l1 l2 l3 : Option Value) (x : Int32) (r : List Value) (h : zH), zD 57 38 [l0, l1, l2, l3] (.int x :: r) h = zD 57 39 [l0, zclr l1, some (.int x), l3] r h) ∧
  (∀ (l0 l1 l2 l3 : Option Value) (S : List Value) (h : zH), zD 57 40 [l0, l1, l2, l3] S h = zD 57 41 [l0, l1, l2, l3] (.int (4 : Int32) :: S) h) ∧
  (∀ (l0 l1 l2 l3 : Option Value) (x y : Int32) (r : List Value) (h : zH), zD 57 41 [l0, l1, l2, l3] (.int y :: .int x :: r) h = if y ≤ x then zD 57 89 [l0, l1, l2, l3] r h else zD 57 44 [l0, l1, l2, l3] r h) ∧
  (∀ (l1 l2 l3 : Option Value) (x : Nat) (S : List Value) (h : zH), zD 57 44 [some (.ref x), l1, l2, l3] S h = zD 57 45 [some (.ref x), l1, l2, l3] (.ref x :: S) h) ∧
  (∀ (l0 l1 l3 : Option Value) (x : Int32) (S : List Value) (h : zH), zD 57 45 [l0, l1, some (.int x), l3] S h = zD 57 46 [l0, l1, some (.int x), l3] (.int x :: S) h) ∧
  (∀ (l0 l1 l2 l3 : Option Value) (p0 : Int32) (a : Nat) (r : List Value) (h : zH) (hcat : zcat r ≤ 8) (hr : zis (h.2.2 a) 4 = true) (hC : (zC 14 (.ref a :: [.int p0]) h).isSome = true), zD 57 46 [l0, l1, l2, l3] (.int p0 :: .ref a :: r) h = zD 57 49 [l0, l1, l2, l3] (zgv (zC 14 (.ref a :: [.int p0]) h) ++ r) (zgh h (zC 14 (.ref a :: [.int p0]) h))) ∧
  (∀ (l0 l1 l2 l3 : Option Value) (x : Int32) (r : List Value) (h : zH), zD 57 49 [l0, l1, l2, l3] (.int x :: r) h = zD 57 50 [l0, l1, zclr l2, some (.int x)] r h) ∧
  (∀ (l1 l2 l3 : Option Value) (x : Nat) (S : List Value) (h : zH), zD 57 50 [some (.ref x), l1, l2, l3] S h = zD 57 51 [some (.ref x), l1, l2, l3] (.ref x :: S) h) ∧
  (∀ (l0 l1 l2 l3 : Option Value) (a : Nat) (r : List Value) (h : zH) (hx : zfok (h.2.2 a) 4 5 = true), zD 57 51 [l0, l1, l2, l3] (.ref a :: r) h = zD 57 54 [l0, l1, l2, l3] (zfv (h.2.2 a) 5 :: r) h) ∧
  (∀ (l0 l1 l3 : Option Value) (x : Int32) (S : List Value) (h : zH), zD 57 54 [l0, l1, some (.int x), l3] S h = zD 57 55 [l0, l1, some (.int x), l3] (.int x :: S) h) ∧
  (∀ (l0 l1 l2 : Option Value) (x : Int32) (S : List Value) (h : zH), zD 57 55 [l0, l1, l2, some (.int x)] S h = zD 57 56 [l0, l1, l2, some (.int x)] (.int x :: S) h) ∧
  (∀ (l0 l1 l2 l3 : Option Value) (x : Int32) (r : List Value) (h : zH), zD 57 56 [l0, l1, l2, l3] (.int x :: r) h = if x = 0 then zD 57 63 [l0, l1, l2, l3] r h else zD 57 59 [l0, l1, l2, l3] r h) ∧
  (∀ (l0 l1 l2 l3 : Option Value) (S : List Value) (h : zH), zD 57 59 [l0, l1, l2, l3] S h = zD 57 60 [l0, l1, l2, l3] (.int (1 : Int32) :: S) h) ∧
  (∀ (l0 l1 l2 l3 : Option Value) (S : List Value) (h : zH), zD 57 60 [l0, l1, l2, l3] S h = zD 57 64 [l0, l1, l2, l3] S h) ∧
  (∀ (l0 l1 l2 l3 : Option Value) (S : List Value) (h : zH), zD 57 63 [l0, l1, l2, l3] S h = zD 57 64 [l0, l1, l2, l3] (.int (0 : Int32) :: S) h) ∧
  (∀ (l0 l1 l2 l3 : Option Value) (w i : Int32) (a : Nat) (r : List Value) (h : zH) (hx : zpok (h.2.2 a) i = true), zD 57 64 [l0, l1, l2, l3] (.int w :: .int i :: .ref a :: r) h = zD 57 65 [l0, l1, l2, l3] r (zw h a (zis' (h.2.2 a) i w))) ∧
  (∀ (l1 l2 l3 : Option Value) (x : Nat) (S : List Value) (h : zH), zD 57 65 [some (.ref x), l1, l2, l3] S h = zD 57 66 [some (.ref x), l1, l2, l3] (.ref x :: S) h) ∧
  (∀ (l0 l1 l2 l3 : Option Value) (a : Nat) (r : List Value) (h : zH) (hx : zfok (h.2.2 a) 4 6 = true), zD 57 66 [l0, l1, l2, l3] (.ref a :: r) h = zD 57 69 [l0, l1, l2, l3] (zfv (h.2.2 a) 6 :: r) h) ∧
  (∀ (l0 l1 l3 : Option Value) (x : Int32) (S : List Value) (h : zH), zD 57 69 [l0, l1, some (.int x), l3] S h = zD 57 70 [l0, l1, some (.int x), l3] (.int x :: S) h) ∧
  (∀ (l0 l1 l2 : Option Value) (x : Int32) (S : List Value) (h : zH), zD 57 70 [l0, l1, l2, some (.int x)] S h = zD 57 71 [l0, l1, l2, some (.int x)] (.int x :: S) h) ∧
  (∀ (l0 l1 l2 l3 : Option Value) (x : Int32) (r : List Value) (h : zH), zD 57 71 [l0, l1, l2, l3] (.int x :: r) h = if x = 0 then zD 57 81 [l0, l1, l2, l3] r h else zD 57 74 [l0, l1, l2, l3] r h) ∧
  (∀ (l0 l2 l3 : Option Value) (x : Nat) (S : List Value) (h : zH), zD 57 74 [l0, some (.ref x), l2, l3] S h = zD 57 75 [l0, some (.ref x), l2, l3] (.ref x :: S) h) ∧
  (∀ (l0 l2 l3 : Option Value) (S : List Value) (h : zH), zD 57 74 [l0, some .null, l2, l3] S h = zD 57 75 [l0, some .null, l2, l3] (.null :: S) h) ∧
  (∀ (l0 l1 l2 l3 : Option Value) (a : Nat) (r : List Value) (h : zH) (hx : zfok (h.2.2 a) 3 2 = true), zD 57 75 [l0, l1, l2, l3] (.ref a :: r) h = zD 57 78 [l0, l1, l2, l3] (zfv (h.2.2 a) 2 :: r) h) ∧
  (∀ (l0 l1 l2 l3 : Option Value) (S : List Value) (h : zH), zD 57 78 [l0, l1, l2, l3] S h = zD 57 82 [l0, l1, l2, l3] S h) ∧
  (∀ (l0 l1 l2 l3 : Option Value) (S : List Value) (h : zH), zD 57 81 [l0, l1, l2, l3] S h = zD 57 82 [l0, l1, l2, l3] (.int (0 : Int32) :: S) h) ∧
  (∀ (l0 l1 l2 l3 : Option Value) (w i : Int32) (a : Nat) (r : List Value) (h : zH) (hx : zpok (h.2.2 a) i = true), zD 57 82 [l0, l1, l2, l3] (.int w :: .int i :: .ref a :: r) h = zD 57 83 [l0, l1, l2, l3] r (zw h a (zis' (h.2.2 a) i w))) ∧
  (∀ (l0 l1 l3 : Option Value) (x : Int32) (S : List Value) (h : zH), zD 57 83 [l0, l1, some (.int x), l3] S h = zD 57 86 [l0, zclr l1, some (.int (x + (1 : Int32))), l3] S h) ∧
  (∀ (l0 l1 l2 l3 : Option Value) (S : List Value) (h : zH), zD 57 86 [l0, l1, l2, l3] S h = zD 57 39 [l0, l1, l2, l3] S h) ∧
  (∀ (l0 l1 l2 l3 : Option Value) (h : zH), zD 57 89 [l0, l1, l2, l3] [] h = some (none, h)) :=
  ⟨fun l1 l2 l3 x S h => zD_op (ins := .aload_n 0) (len := 1) (c := (1, [some (.ref x), l1, l2, l3], (.ref x :: S), h)) (by decide +kernel) rfl rfl rfl rfl,
  fun l0 l1 l2 l3 S h => zD_icst (n := 0) (by decide +kernel) (by decide +kernel),
  fun l0 l1 l2 l3 v a r h hx => zD_putf (i := 49) (ci := 4) (k := 8) (q := (224, 0)) (by decide +kernel) (by decide +kernel) (by decide +kernel) hx rfl rfl,
  fun l1 l2 l3 x S h => zD_op (ins := .aload_n 0) (len := 1) (c := (6, [some (.ref x), l1, l2, l3], (.ref x :: S), h)) (by decide +kernel) rfl rfl rfl rfl,
  fun l0 l1 l2 l3 S h => zD_icst (n := (-1)) (by decide +kernel) (by decide +kernel),
  fun l0 l1 l2 l3 v a r h hx => zD_putf (i := 56) (ci := 4) (k := 9) (q := (225, 0)) (by decide +kernel) (by decide +kernel) (by decide +kernel) hx rfl rfl,
  fun l0 l1 l2 l3 S h => zD_icst (n := 1) (by decide +kernel) (by decide +kernel),
  fun l0 l1 l2 l3 x r h => zD_st1 (k := 2) (ins := .istore_n 2) (len := 1) (by decide +kernel) rfl rfl rfl (by decide +kernel) rfl rfl,
  fun l0 l2 l3 x S h => zD_op (ins := .aload_n 1) (len := 1) (c := (14, [l0, some (.ref x), l2, l3], (.ref x :: S), h)) (by decide +kernel) rfl rfl rfl rfl,
  fun l0 l2 l3 S h => zD_op (ins := .aload_n 1) (len := 1) (c := (14, [l0, some .null, l2, l3], (.null :: S), h)) (by decide +kernel) rfl rfl rfl rfl,
  fun l0 l1 l2 l3 a r h hx => zD_getf (i := 59) (ci := 3) (k := 2) (q := (89, 1)) (by decide +kernel) (by decide +kernel) hx,
  fun l0 l1 l2 l3 x y r h => zD_if (cnd := .gt) (off := 20) (by decide +kernel) (by decide) rfl,
  fun l1 l2 l3 x S h => zD_op (ins := .aload_n 0) (len := 1) (c := (21, [some (.ref x), l1, l2, l3], (.ref x :: S), h)) (by decide +kernel) rfl rfl rfl rfl,
  fun l0 l1 l2 l3 a r h hx => zD_getf (i := 30) (ci := 4) (k := 7) (q := (223, 0)) (by decide +kernel) (by decide +kernel) hx,
  fun l0 l1 l3 x S h => zD_op (ins := .iload_n 2) (len := 1) (c := (25, [l0, l1, some (.int x), l3], (.int x :: S), h)) (by decide +kernel) rfl rfl rfl rfl,
  fun l0 l2 l3 x S h => zD_op (ins := .aload_n 1) (len := 1) (c := (26, [l0, some (.ref x), l2, l3], (.ref x :: S), h)) (by decide +kernel) rfl rfl rfl rfl,
  fun l0 l2 l3 S h => zD_op (ins := .aload_n 1) (len := 1) (c := (26, [l0, some .null, l2, l3], (.null :: S), h)) (by decide +kernel) rfl rfl rfl rfl,
  fun l0 l1 l3 x S h => zD_op (ins := .iload_n 2) (len := 1) (c := (27, [l0, l1, some (.int x), l3], (.int x :: S), h)) (by decide +kernel) rfl rfl rfl rfl,
  fun l0 l1 l2 l3 p0 a r h hcat hr hC => zD_callv (i := 62) (y := 8) (n := 1) (as := [.int p0]) (ci := 3) (by decide +kernel) (by decide +kernel) rfl (by decide +kernel) (Nat.le_of_ble_eq_true rfl) (by decide +kernel) hcat hr hC,
  fun l0 l1 l2 l3 w i a r h hx => zD_iast (by decide +kernel) hx,
  fun l0 l1 l3 x S h => zD_iinc (k := 2) (x := x) (c := (1 : Int32)) (n := 1) (by decide +kernel) (by decide +kernel) rfl (by decide +kernel) rfl,
  fun l0 l1 l2 l3 S h => zD_goto (off := (-22)) (by decide +kernel) (by decide),
  fun l0 l1 l2 l3 S h => zD_icst (n := 0) (by decide +kernel) (by decide +kernel),
  fun l0 l1 l2 l3 x r h => zD_st1 (k := 2) (ins := .istore_n 2) (len := 1) (by decide +kernel) rfl rfl rfl (by decide +kernel) rfl rfl,
  fun l0 l1 l2 l3 S h => zD_icst (n := 4) (by decide +kernel) (by decide +kernel),
  fun l0 l1 l2 l3 x y r h => zD_if (cnd := .ge) (off := 48) (by decide +kernel) (by decide) rfl,
  fun l1 l2 l3 x S h => zD_op (ins := .aload_n 0) (len := 1) (c := (45, [some (.ref x), l1, l2, l3], (.ref x :: S), h)) (by decide +kernel) rfl rfl rfl rfl,
  fun l0 l1 l3 x S h => zD_op (ins := .iload_n 2) (len := 1) (c := (46, [l0, l1, some (.int x), l3], (.int x :: S), h)) (by decide +kernel) rfl rfl rfl rfl,
  fun l0 l1 l2 l3 p0 a r h hcat hr hC => zD_callv (i := 66) (y := 14) (n := 1) (as := [.int p0]) (ci := 4) (by decide +kernel) (by decide +kernel) rfl (by decide +kernel) (Nat.le_of_ble_eq_true rfl) (by decide +kernel) hcat hr hC,
  fun l0 l1 l2 l3 x r h => zD_st1 (k := 3) (ins := .istore_n 3) (len := 1) (by decide +kernel) rfl rfl rfl (by decide +kernel) rfl rfl,
  fun l1 l2 l3 x S h => zD_op (ins := .aload_n 0) (len := 1) (c := (51, [some (.ref x), l1, l2, l3], (.ref x :: S), h)) (by decide +kernel) rfl rfl rfl rfl,
  fun l0 l1 l2 l3 a r h hx => zD_getf (i := 24) (ci := 4) (k := 5) (q := (221, 0)) (by decide +kernel) (by decide +kernel) hx,
  fun l0 l1 l3 x S h => zD_op (ins := .iload_n 2) (len := 1) (c := (55, [l0, l1, some (.int x), l3], (.int x :: S), h)) (by decide +kernel) rfl rfl rfl rfl,
  fun l0 l1 l2 x S h => zD_op (ins := .iload_n 3) (len := 1) (c := (56, [l0, l1, l2, some (.int x)], (.int x :: S), h)) (by decide +kernel) rfl rfl rfl rfl,
  fun l0 l1 l2 l3 x r h => zD_if0 (cnd := .eq) (off := 7) (by decide +kernel) (by decide) rfl,
  fun l0 l1 l2 l3 S h => zD_icst (n := 1) (by decide +kernel) (by decide +kernel),
  fun l0 l1 l2 l3 S h => zD_goto (off := 4) (by decide +kernel) (by decide),
  fun l0 l1 l2 l3 S h => zD_icst (n := 0) (by decide +kernel) (by decide +kernel),
  fun l0 l1 l2 l3 w i a r h hx => zD_iast (by decide +kernel) hx,
  fun l1 l2 l3 x S h => zD_op (ins := .aload_n 0) (len := 1) (c := (66, [some (.ref x), l1, l2, l3], (.ref x :: S), h)) (by decide +kernel) rfl rfl rfl rfl,
  fun l0 l1 l2 l3 a r h hx => zD_getf (i := 27) (ci := 4) (k := 6) (q := (222, 0)) (by decide +kernel) (by decide +kernel) hx,
  fun l0 l1 l3 x S h => zD_op (ins := .iload_n 2) (len := 1) (c := (70, [l0, l1, some (.int x), l3], (.int x :: S), h)) (by decide +kernel) rfl rfl rfl rfl,
  fun l0 l1 l2 x S h => zD_op (ins := .iload_n 3) (len := 1) (c := (71, [l0, l1, l2, some (.int x)], (.int x :: S), h)) (by decide +kernel) rfl rfl rfl rfl,
  fun l0 l1 l2 l3 x r h => zD_if0 (cnd := .eq) (off := 10) (by decide +kernel) (by decide) rfl,
  fun l0 l2 l3 x S h => zD_op (ins := .aload_n 1) (len := 1) (c := (75, [l0, some (.ref x), l2, l3], (.ref x :: S), h)) (by decide +kernel) rfl rfl rfl rfl,
  fun l0 l2 l3 S h => zD_op (ins := .aload_n 1) (len := 1) (c := (75, [l0, some .null, l2, l3], (.null :: S), h)) (by decide +kernel) rfl rfl rfl rfl,
  fun l0 l1 l2 l3 a r h hx => zD_getf (i := 59) (ci := 3) (k := 2) (q := (89, 1)) (by decide +kernel) (by decide +kernel) hx,
  fun l0 l1 l2 l3 S h => zD_goto (off := 4) (by decide +kernel) (by decide),
  fun l0 l1 l2 l3 S h => zD_icst (n := 0) (by decide +kernel) (by decide +kernel),
  fun l0 l1 l2 l3 w i a r h hx => zD_iast (by decide +kernel) hx,
  fun l0 l1 l3 x S h => zD_iinc (k := 2) (x := x) (c := (1 : Int32)) (n := 1) (by decide +kernel) (by decide +kernel) rfl (by decide +kernel) rfl,
  fun l0 l1 l2 l3 S h => zD_goto (off := (-47)) (by decide +kernel) (by decide),
  fun l0 l1 l2 l3 h => zD_vret (by decide +kernel) rfl⟩
set_option maxRecDepth 100000 in
theorem E_X5_prepare_h12 : (∀ (l0 l1 l3 : Option Value) (x : Int32) (S : List Value) (h : zH), zD 57 12 [l0, l1, some (.int x), l3] S h = zD 57 13 [l0, l1, some (.int x), l3] (.int x :: S) h) :=
  fun l0 l1 l3 x S h => zD_op (ins := .iload_n 2) (len := 1) (c := (13, [l0, l1, some (.int x), l3], (.int x :: S), h)) (by decide +kernel) rfl rfl rfl rfl
set_option maxRecDepth 100000 in
theorem E_X5_prepare_h39 : (∀ (l0 l1 l3 : Option Value) (x : Int32) (S : List Value) (h : zH), zD 57 39 [l0, l1, some (.int x), l3] S h = zD 57 40 [l0, l1, some (.int x), l3] (.int x :: S) h) :=
  fun l0 l1 l3 x S h => zD_op (ins := .iload_n 2) (len := 1) (c := (40, [l0, l1, some (.int x), l3], (.int x :: S), h)) (by decide +kernel) rfl rfl rfl rfl
set_option maxRecDepth 100000 in
theorem I_X5_prepare : (∀ (a : Nat) (p0 : Nat) (h : zH), zC 57 [.ref a, .ref p0] h = zD 57 0 [some (.ref a), some (.ref p0), none, none] [] h) :=
  fun a p0 h => zC_def rfl
set_option maxRecDepth 100000 in
theorem E_X5_lastVariable : (∀ (l1 : Option Value) (x : Nat) (S : List Value) (h : zH), zD 58 0 [some (.ref x), l1] S h = zD 58 1 [some (.ref x), l1] (.ref x :: S) h) ∧
  (∀ (l0 l1 : Option Value) (a : Nat) (r : List Value) (h : zH) (hx : zfok (h.2.2 a) 4 0 = true), zD 58 1 [l0, l1] (.ref a :: r) h = zD 58 4 [l0, l1] (zfv (h.2.2 a) 0 :: r) h) ∧
  (∀ (l0 : Option Value) (x : Int32) (S : List Value) (h : zH), zD 58 4 [l0, some (.int x)] S h = zD 58 5 [l0, some (.int x)] (.int x :: S) h) ∧
  (∀ (l0 l1 : Option Value) (i : Int32) (a : Nat) (r : List Value) (h : zH) (hx : ziok a (h.2.2 a) i = true), zD 58 5 [l0, l1] (.int i :: .ref a :: r) h = zD 58 6 [l0, l1] (.int (ziv (h.2.2 a) i) :: r) h) ∧
  (∀ (l0 l1 : Option Value) (S : List Value) (h : zH), zD 58 6 [l0, l1] S h = zD 58 7 [l0, l1] (.int (3 : Int32) :: S) h) ∧
  (∀ (l0 l1 : Option Value) (x y : Int32) (r : List Value) (h : zH), zD 58 7 [l0, l1] (.int y :: .int x :: r) h = if ¬ x = y then zD 58 19 [l0, l1] r h else zD 58 10 [l0, l1] r h) ∧
  (∀ (l1 : Option Value) (x : Nat) (S : List Value) (h : zH), zD 58 10 [some (.ref x), l1] S h = zD 58 11 [some (.ref x), l1] (.ref x :: S) h) ∧
  (∀ (l0 l1 : Option Value) (a : Nat) (r : List Value) (h : zH) (hx : zfok (h.2.2 a) 4 1 = true), zD 58 11 [l0, l1] (.ref a :: r) h = zD 58 14 [l0, l1] (zfv (h.2.2 a) 1 :: r) h) ∧
  (∀ (l0 : Option Value) (x : Int32) (S : List Value) (h : zH), zD 58 14 [l0, some (.int x)] S h = zD 58 15 [l0, some (.int x)] (.int x :: S) h) ∧
  (∀ (l0 l1 : Option Value) (i : Int32) (a : Nat) (r : List Value) (h : zH) (hx : ziok a (h.2.2 a) i = true), zD 58 15 [l0, l1] (.int i :: .ref a :: r) h = zD 58 16 [l0, l1] (.int (ziv (h.2.2 a) i) :: r) h) ∧
  (∀ (l0 l1 : Option Value) (S : List Value) (h : zH), zD 58 16 [l0, l1] S h = zD 58 34 [l0, l1] S h) ∧
  (∀ (l1 : Option Value) (x : Nat) (S : List Value) (h : zH), zD 58 19 [some (.ref x), l1] S h = zD 58 20 [some (.ref x), l1] (.ref x :: S) h) ∧
  (∀ (l0 l1 : Option Value) (a : Nat) (r : List Value) (h : zH) (hx : zfok (h.2.2 a) 4 1 = true), zD 58 20 [l0, l1] (.ref a :: r) h = zD 58 23 [l0, l1] (zfv (h.2.2 a) 1 :: r) h) ∧
  (∀ (l0 : Option Value) (x : Int32) (S : List Value) (h : zH), zD 58 23 [l0, some (.int x)] S h = zD 58 24 [l0, some (.int x)] (.int x :: S) h) ∧
  (∀ (l0 l1 : Option Value) (i : Int32) (a : Nat) (r : List Value) (h : zH) (hx : ziok a (h.2.2 a) i = true), zD 58 24 [l0, l1] (.int i :: .ref a :: r) h = zD 58 25 [l0, l1] (.int (ziv (h.2.2 a) i) :: r) h) ∧
  (∀ (l1 : Option Value) (x : Nat) (S : List Value) (h : zH), zD 58 25 [some (.ref x), l1] S h = zD 58 26 [some (.ref x), l1] (.ref x :: S) h) ∧
  (∀ (l0 l1 : Option Value) (a : Nat) (r : List Value) (h : zH) (hx : zfok (h.2.2 a) 4 2 = true), zD 58 26 [l0, l1] (.ref a :: r) h = zD 58 29 [l0, l1] (zfv (h.2.2 a) 2 :: r) h) ∧
  (∀ (l0 : Option Value) (x : Int32) (S : List Value) (h : zH), zD 58 29 [l0, some (.int x)] S h = zD 58 30 [l0, some (.int x)] (.int x :: S) h) ∧
  (∀ (l0 l1 : Option Value) (i : Int32) (a : Nat) (r : List Value) (h : zH) (hx : ziok a (h.2.2 a) i = true), zD 58 30 [l0, l1] (.int i :: .ref a :: r) h = zD 58 31 [l0, l1] (.int (ziv (h.2.2 a) i) :: r) h) ∧
  (∀ (l0 l1 : Option Value) (x y : Int32) (r : List Value) (h : zH) (hcat : zcat r ≤ 8), zD 58 31 [l0, l1] (.int y :: .int x :: r) h = zD 58 34 [l0, l1] (.int (if x < y then y else x) :: r) h) ∧
  (∀ (l0 l1 : Option Value) (v : Int32) (h : zH), zD 58 34 [l0, l1] [.int v] h = some (some (.int v), h)) :=
  ⟨fun l1 x S h => zD_op (ins := .aload_n 0) (len := 1) (c := (1, [some (.ref x), l1], (.ref x :: S), h)) (by decide +kernel) rfl rfl rfl rfl,
  fun l0 l1 a r h hx => zD_getf (i := 9) (ci := 4) (k := 0) (q := (212, 0)) (by decide +kernel) (by decide +kernel) hx,
  fun l0 x S h => zD_op (ins := .iload_n 1) (len := 1) (c := (5, [l0, some (.int x)], (.int x :: S), h)) (by decide +kernel) rfl rfl rfl rfl,
  fun l0 l1 i a r h hx => zD_iald (by decide +kernel) hx,
  fun l0 l1 S h => zD_icst (n := 3) (by decide +kernel) (by decide +kernel),
  fun l0 l1 x y r h => zD_if (cnd := .ne) (off := 12) (by decide +kernel) (by decide) rfl,
  fun l1 x S h => zD_op (ins := .aload_n 0) (len := 1) (c := (11, [some (.ref x), l1], (.ref x :: S), h)) (by decide +kernel) rfl rfl rfl rfl,
  fun l0 l1 a r h hx => zD_getf (i := 15) (ci := 4) (k := 1) (q := (214, 0)) (by decide +kernel) (by decide +kernel) hx,
  fun l0 x S h => zD_op (ins := .iload_n 1) (len := 1) (c := (15, [l0, some (.int x)], (.int x :: S), h)) (by decide +kernel) rfl rfl rfl rfl,
  fun l0 l1 i a r h hx => zD_iald (by decide +kernel) hx,
  fun l0 l1 S h => zD_goto (off := 18) (by decide +kernel) (by decide),
  fun l1 x S h => zD_op (ins := .aload_n 0) (len := 1) (c := (20, [some (.ref x), l1], (.ref x :: S), h)) (by decide +kernel) rfl rfl rfl rfl,
  fun l0 l1 a r h hx => zD_getf (i := 15) (ci := 4) (k := 1) (q := (214, 0)) (by decide +kernel) (by decide +kernel) hx,
  fun l0 x S h => zD_op (ins := .iload_n 1) (len := 1) (c := (24, [l0, some (.int x)], (.int x :: S), h)) (by decide +kernel) rfl rfl rfl rfl,
  fun l0 l1 i a r h hx => zD_iald (by decide +kernel) hx,
  fun l1 x S h => zD_op (ins := .aload_n 0) (len := 1) (c := (26, [some (.ref x), l1], (.ref x :: S), h)) (by decide +kernel) rfl rfl rfl rfl,
  fun l0 l1 a r h hx => zD_getf (i := 18) (ci := 4) (k := 2) (q := (216, 0)) (by decide +kernel) (by decide +kernel) hx,
  fun l0 x S h => zD_op (ins := .iload_n 1) (len := 1) (c := (30, [l0, some (.int x)], (.int x :: S), h)) (by decide +kernel) rfl rfl rfl rfl,
  fun l0 l1 i a r h hx => zD_iald (by decide +kernel) hx,
  fun l0 l1 x y r h hcat => zD_max (i := 77) (q := 643) (by decide +kernel) (by decide +kernel) (by decide +kernel) (by decide +kernel) hcat,
  fun l0 l1 v h => zD_ireti (by decide +kernel) rfl⟩
set_option maxRecDepth 100000 in
theorem I_X5_lastVariable : (∀ (a : Nat) (p0 : Int32) (h : zH), zC 58 [.ref a, .int p0] h = zD 58 0 [some (.ref a), some (.int p0)] [] h) :=
  fun a p0 h => zC_def rfl
set_option maxRecDepth 100000 in
theorem E_X6_init : (∀ (l1 : Option Value) (x : Nat) (S : List Value) (h : zH), zD 59 0 [some (.ref x), l1] S h = zD 59 1 [some (.ref x), l1] (.ref x :: S) h) ∧
  (∀ (l0 l1 : Option Value) (a : Nat) (r : List Value) (h : zH) (hcat : zcat r ≤ 8), zD 59 1 [l0, l1] (.ref a :: r) h = zD 59 4 [l0, l1] r h) ∧
  (∀ (l1 : Option Value) (x : Nat) (S : List Value) (h : zH), zD 59 4 [some (.ref x), l1] S h = zD 59 5 [some (.ref x), l1] (.ref x :: S) h) ∧
  (∀ (l0 : Option Value) (x : Nat) (S : List Value) (h : zH), zD 59 5 [l0, some (.ref x)] S h = zD 59 6 [l0, some (.ref x)] (.ref x :: S) h) ∧
  (∀ (l0 : Option Value) (S : List Value) (h : zH), zD 59 5 [l0, some .null] S h = zD 59 6 [l0, some .null] (.null :: S) h) ∧
  (∀ (l0 l1 : Option Value) (v : Nat) (a : Nat) (r : List Value) (h : zH) (hx : zfok (h.2.2 a) 5 0 = true), zD 59 6 [l0, l1] (.ref v :: .ref a :: r) h = zD 59 9 [l0, l1] r (zw h a (zfs' (h.2.2 a) 0 (.ref v)))) ∧
  (∀ (l1 : Option Value) (x : Nat) (S : List Value) (h : zH), zD 59 9 [some (.ref x), l1] S h = zD 59 10 [some (.ref x), l1] (.ref x :: S) h) ∧
  (∀ (l0 l1 : Option Value) (S : List Value) (h : zH), zD 59 10 [l0, l1] S h = zD 59 12 [l0, l1] (.int (64 : Int32) :: S) h) ∧
  (∀ (l0 l1 : Option Value) (n : Int32) (r : List Value) (h : zH) (hx : znok n = true), zD 59 12 [l0, l1] (.int n :: r) h = zD 59 14 [l0, l1] (.ref h.1 :: r) (znew h n.toNatClampNeg (.inl (1, n.toNatClampNeg, .inr (.inl (fun _ => 0)))))) ∧
  (∀ (l0 l1 : Option Value) (v : Nat) (a : Nat) (r : List Value) (h : zH) (hx : zfok (h.2.2 a) 5 1 = true), zD 59 14 [l0, l1] (.ref v :: .ref a :: r) h = zD 59 17 [l0, l1] r (zw h a (zfs' (h.2.2 a) 1 (.ref v)))) ∧
  (∀ (l1 : Option Value) (x : Nat) (S : List Value) (h : zH), zD 59 17 [some (.ref x), l1] S h = zD 59 18 [some (.ref x), l1] (.ref x :: S) h) ∧
  (∀ (l0 l1 : Option Value) (S : List Value) (h : zH), zD 59 18 [l0, l1] S h = zD 59 20 [l0, l1] (.int (64 : Int32) :: S) h) ∧
  (∀ (l0 l1 : Option Value) (n : Int32) (r : List Value) (h : zH) (hx : znok n = true), zD 59 20 [l0, l1] (.int n :: r) h = zD 59 22 [l0, l1] (.ref h.1 :: r) (znew h n.toNatClampNeg (.inl (1, n.toNatClampNeg, .inr (.inl (fun _ => 0)))))) ∧
  (∀ (l0 l1 : Option Value) (v : Nat) (a : Nat) (r : List Value) (h : zH) (hx : zfok (h.2.2 a) 5 2 = true), zD 59 22 [l0, l1] (.ref v :: .ref a :: r) h = zD 59 25 [l0, l1] r (zw h a (zfs' (h.2.2 a) 2 (.ref v)))) ∧
  (∀ (l0 l1 : Option Value) (h : zH), zD 59 25 [l0, l1] [] h = some (none, h)) :=
  ⟨fun l1 x S h => zD_op (ins := .aload_n 0) (len := 1) (c := (1, [some (.ref x), l1], (.ref x :: S), h)) (by decide +kernel) rfl rfl rfl rfl,
  fun l0 l1 a r h hcat => zD_obj (i := 3) (q := 165) (by decide +kernel) (by decide +kernel) (by decide +kernel) (by decide +kernel) hcat,
  fun l1 x S h => zD_op (ins := .aload_n 0) (len := 1) (c := (5, [some (.ref x), l1], (.ref x :: S), h)) (by decide +kernel) rfl rfl rfl rfl,
  fun l0 x S h => zD_op (ins := .aload_n 1) (len := 1) (c := (6, [l0, some (.ref x)], (.ref x :: S), h)) (by decide +kernel) rfl rfl rfl rfl,
  fun l0 S h => zD_op (ins := .aload_n 1) (len := 1) (c := (6, [l0, some .null], (.null :: S), h)) (by decide +kernel) rfl rfl rfl rfl,
  fun l0 l1 v a r h hx => zD_putf (i := 9) (ci := 5) (k := 0) (q := (166, 0)) (by decide +kernel) (by decide +kernel) (by decide +kernel) hx rfl rfl,
  fun l1 x S h => zD_op (ins := .aload_n 0) (len := 1) (c := (10, [some (.ref x), l1], (.ref x :: S), h)) (by decide +kernel) rfl rfl rfl rfl,
  fun l0 l1 S h => zD_bip (n := 64) (by decide +kernel) (by decide +kernel),
  fun l0 l1 n r h hx => zD_newl (by decide +kernel) hx,
  fun l0 l1 v a r h hx => zD_putf (i := 15) (ci := 5) (k := 1) (q := (167, 0)) (by decide +kernel) (by decide +kernel) (by decide +kernel) hx rfl rfl,
  fun l1 x S h => zD_op (ins := .aload_n 0) (len := 1) (c := (18, [some (.ref x), l1], (.ref x :: S), h)) (by decide +kernel) rfl rfl rfl rfl,
  fun l0 l1 S h => zD_bip (n := 64) (by decide +kernel) (by decide +kernel),
  fun l0 l1 n r h hx => zD_newl (by decide +kernel) hx,
  fun l0 l1 v a r h hx => zD_putf (i := 19) (ci := 5) (k := 2) (q := (168, 0)) (by decide +kernel) (by decide +kernel) (by decide +kernel) hx rfl rfl,
  fun l0 l1 h => zD_vret (by decide +kernel) rfl⟩
set_option maxRecDepth 100000 in
theorem I_X6_init : (∀ (a : Nat) (p0 : Nat) (h : zH), zC 59 [.ref a, .ref p0] h = zD 59 0 [some (.ref a), some (.ref p0)] [] h) :=
  fun a p0 h => zC_def rfl
set_option maxRecDepth 100000 in
theorem E_X6_waysToMeet : (∀ (l0 l1 l2 l3 l4 l5 : Option Value) (S : List Value) (h : zH), zD 60 0 [l0, l1, l2, l3, l4, l5] S h = zD 60 1 [l0, l1, l2, l3, l4, l5] (.long (0 : Int64) :: S) h) ∧
  (∀ (l0 l1 l2 l3 l4 l5 : Option Value) (x : Int64) (r : List Value) (h : zH), zD 60 1 [l0, l1, l2, l3, l4, l5] (.long x :: r) h = zD 60 2 [l0, l1, zclr l2, some (.long x), none, l5] r h) ∧
  (∀ (l0 l2 l3 l4 l5 : Option Value) (x : Int32) (S : List Value) (h : zH), zD 60 2 [l0, some (.int x), l2, l3, l4, l5] S h = zD 60 3 [l0, some (.int x), l2, l3, l4, l5] (.int x :: S) h) ∧
  (∀ (l0 l1 l2 l3 l4 l5 : Option Value) (x : Int32) (r : List Value) (h : zH), zD 60 3 [l0, l1, l2, l3, l4, l5] (.int x :: r) h = zD 60 5 [l0, l1, l2, l3, zclr l4, some (.int x)] r h) ∧
  (∀ (l0 l1 l3 l4 l5 : Option Value) (x : Int32) (S : List Value) (h : zH), zD 60 7 [l0, l1, some (.int x), l3, l4, l5] S h = zD 60 8 [l0, l1, some (.int x), l3, l4, l5] (.int x :: S) h) ∧
  (∀ (l0 l1 l2 l3 l4 l5 : Option Value) (x y : Int32) (r : List Value) (h : zH), zD 60 8 [l0, l1, l2, l3, l4, l5] (.int y :: .int x :: r) h = if y ≤ x then zD 60 45 [l0, l1, l2, l3, l4, l5] r h else zD 60 11 [l0, l1, l2, l3, l4, l5] r h) ∧
  (∀ (l0 l1 l2 l4 l5 : Option Value) (x : Int64) (S : List Value) (h : zH), zD 60 11 [l0, l1, l2, some (.long x), l4, l5] S h = zD 60 12 [l0, l1, l2, some (.long x), l4, l5] (.long x :: S) h) ∧
  (∀ (l1 l2 l3 l4 l5 : Option Value) (x : Nat) (S : List Value) (h : zH), zD 60 12 [some (.ref x), l1, l2, l3, l4, l5] S h = zD 60 13 [some (.ref x), l1, l2, l3, l4, l5] (.ref x :: S) h) ∧
  (∀ (l0 l1 l2 l3 l4 l5 : Option Value) (a : Nat) (r : List Value) (h : zH) (hx : zfok (h.2.2 a) 5 1 = true), zD 60 13 [l0, l1, l2, l3, l4, l5] (.ref a :: r) h = zD 60 16 [l0, l1, l2, l3, l4, l5] (zfv (h.2.2 a) 1 :: r) h) ∧
  (∀ (l0 l2 l3 l4 l5 : Option Value) (x : Int32) (S : List Value) (h : zH), zD 60 16 [l0, some (.int x), l2, l3, l4, l5] S h = zD 60 17 [l0, some (.int x), l2, l3, l4, l5] (.int x :: S) h) ∧
  (∀ (l0 l1 l2 l3 l4 : Option Value) (x : Int32) (S : List Value) (h : zH), zD 60 17 [l0, l1, l2, l3, l4, some (.int x)] S h = zD 60 19 [l0, l1, l2, l3, l4, some (.int x)] (.int x :: S) h) ∧
  (∀ (l0 l1 l2 l3 l4 l5 : Option Value) (p0 : Int32) (p1 : Int32) (r : List Value) (h : zH) (hcat : zcat r ≤ 8) (hC : (zC 17 [.int p0, .int p1] h).isSome = true), zD 60 19 [l0, l1, l2, l3, l4, l5] (.int p1 :: .int p0 :: r) h = zD 60 22 [l0, l1, l2, l3, l4, l5] (zgv (zC 17 [.int p0, .int p1] h) ++ r) (zgh h (zC 17 [.int p0, .int p1] h))) ∧
  (∀ (l0 l1 l2 l3 l4 l5 : Option Value) (i : Int32) (a : Nat) (r : List Value) (h : zH) (hx : zlok (h.2.2 a) i = true), zD 60 22 [l0, l1, l2, l3, l4, l5] (.int i :: .ref a :: r) h = zD 60 23 [l0, l1, l2, l3, l4, l5] (.long (zlv' (h.2.2 a) i) :: r) h) ∧
  (∀ (l1 l2 l3 l4 l5 : Option Value) (x : Nat) (S : List Value) (h : zH), zD 60 23 [some (.ref x), l1, l2, l3, l4, l5] S h = zD 60 24 [some (.ref x), l1, l2, l3, l4, l5] (.ref x :: S) h) ∧
  (∀ (l0 l1 l2 l3 l4 l5 : Option Value) (a : Nat) (r : List Value) (h : zH) (hx : zfok (h.2.2 a) 5 1 = true), zD 60 24 [l0, l1, l2, l3, l4, l5] (.ref a :: r) h = zD 60 27 [l0, l1, l2, l3, l4, l5] (zfv (h.2.2 a) 1 :: r) h) ∧
  (∀ (l0 l1 l3 l4 l5 : Option Value) (x : Int32) (S : List Value) (h : zH), zD 60 27 [l0, l1, some (.int x), l3, l4, l5] S h = zD 60 28 [l0, l1, some (.int x), l3, l4, l5] (.int x :: S) h) ∧
  (∀ (l0 l1 l2 l3 l4 : Option Value) (x : Int32) (S : List Value) (h : zH), zD 60 28 [l0, l1, l2, l3, l4, some (.int x)] S h = zD 60 30 [l0, l1, l2, l3, l4, some (.int x)] (.int x :: S) h) ∧
  (∀ (l0 l1 l2 l3 l4 l5 : Option Value) (S : List Value) (h : zH), zD 60 30 [l0, l1, l2, l3, l4, l5] S h = zD 60 31 [l0, l1, l2, l3, l4, l5] (.int (1 : Int32) :: S) h) ∧
  (∀ (l0 l1 l2 l3 l4 l5 : Option Value) (x y : Int32) (r : List Value) (h : zH), zD 60 31 [l0, l1, l2, l3, l4, l5] (.int y :: .int x :: r) h = zD 60 32 [l0, l1, l2, l3, l4, l5] (.int (x + y) :: r) h) ∧
  (∀ (l0 l1 l2 l3 l4 l5 : Option Value) (p0 : Int32) (p1 : Int32) (r : List Value) (h : zH) (hcat : zcat r ≤ 8) (hC : (zC 17 [.int p0, .int p1] h).isSome = true), zD 60 32 [l0, l1, l2, l3, l4, l5] (.int p1 :: .int p0 :: r) h = zD 60 35 [l0, l1, l2, l3, l4, l5] (zgv (zC 17 [.int p0, .int p1] h) ++ r) (zgh h (zC 17 [.int p0, .int p1] h))) ∧
  (∀ (l0 l1 l2 l3 l4 l5 : Option Value) (i : Int32) (a : Nat) (r : List Value) (h : zH) (hx : zlok (h.2.2 a) i = true), zD 60 35 [l0, l1, l2, l3, l4, l5] (.int i :: .ref a :: r) h = zD 60 36 [l0, l1, l2, l3, l4, l5] (.long (zlv' (h.2.2 a) i) :: r) h) ∧
  (∀ (l0 l1 l2 l3 l4 l5 : Option Value) (x y : Int64) (r : List Value) (h : zH), zD 60 36 [l0, l1, l2, l3, l4, l5] (.long y :: .long x :: r) h = zD 60 37 [l0, l1, l2, l3, l4, l5] (.long (x * y) :: r) h) ∧
  (∀ (l0 l1 l2 l3 l4 l5 : Option Value) (x y : Int64) (r : List Value) (h : zH), zD 60 37 [l0, l1, l2, l3, l4, l5] (.long y :: .long x :: r) h = zD 60 38 [l0, l1, l2, l3, l4, l5] (.long (x + y) :: r) h) ∧
  (∀ (l0 l1 l2 l3 l4 l5 : Option Value) (x : Int64) (r : List Value) (h : zH), zD 60 38 [l0, l1, l2, l3, l4, l5] (.long x :: r) h = zD 60 39 [l0, l1, zclr l2, some (.long x), none, l5] r h) ∧
  (∀ (l0 l1 l2 l3 l4 : Option Value) (x : Int32) (S : List Value) (h : zH), zD 60 39 [l0, l1, l2, l3, l4, some (.int x)] S h = zD 60 42 [l0, l1, l2, l3, zclr l4, some (.int (x + (1 : Int32)))] S h) ∧
  (∀ (l0 l1 l2 l3 l4 l5 : Option Value) (S : List Value) (h : zH), zD 60 42 [l0, l1, l2, l3, l4, l5] S h = zD 60 5 [l0, l1, l2, l3, l4, l5] S h) ∧
  (∀ (l0 l1 l2 l4 l5 : Option Value) (x : Int64) (S : List Value) (h : zH), zD 60 45 [l0, l1, l2, some (.long x), l4, l5] S h = zD 60 46 [l0, l1, l2, some (.long x), l4, l5] (.long x :: S) h) ∧
  (∀ (l0 l1 l2 l3 l4 l5 : Option Value) (v : Int64) (h : zH), zD 60 46 [l0, l1, l2, l3, l4, l5] [.long v] h = some (some (.long v), h)) :=
  ⟨fun l0 l1 l2 l3 l4 l5 S h => zD_op (ins := .lconst 0) (len := 1) (c := (1, [l0, l1, l2, l3, l4, l5], (.long (0 : Int64) :: S), h)) (by decide +kernel) rfl rfl rfl rfl,
  fun l0 l1 l2 l3 l4 l5 x r h => zD_st2 (k := 3) (ins := .lstore_n 3) (len := 1) (by decide +kernel) rfl rfl rfl (by decide +kernel) rfl rfl,
  fun l0 l2 l3 l4 l5 x S h => zD_op (ins := .iload_n 1) (len := 1) (c := (3, [l0, some (.int x), l2, l3, l4, l5], (.int x :: S), h)) (by decide +kernel) rfl rfl rfl rfl,
  fun l0 l1 l2 l3 l4 l5 x r h => zD_st1 (k := 5) (ins := .istore 5) (len := 2) (by decide +kernel) rfl rfl rfl (by decide +kernel) rfl rfl,
  fun l0 l1 l3 l4 l5 x S h => zD_op (ins := .iload_n 2) (len := 1) (c := (8, [l0, l1, some (.int x), l3, l4, l5], (.int x :: S), h)) (by decide +kernel) rfl rfl rfl rfl,
  fun l0 l1 l2 l3 l4 l5 x y r h => zD_if (cnd := .ge) (off := 37) (by decide +kernel) (by decide) rfl,
  fun l0 l1 l2 l4 l5 x S h => zD_op (ins := .lload_n 3) (len := 1) (c := (12, [l0, l1, l2, some (.long x), l4, l5], (.long x :: S), h)) (by decide +kernel) rfl rfl rfl rfl,
  fun l1 l2 l3 l4 l5 x S h => zD_op (ins := .aload_n 0) (len := 1) (c := (13, [some (.ref x), l1, l2, l3, l4, l5], (.ref x :: S), h)) (by decide +kernel) rfl rfl rfl rfl,
  fun l0 l1 l2 l3 l4 l5 a r h hx => zD_getf (i := 15) (ci := 5) (k := 1) (q := (167, 0)) (by decide +kernel) (by decide +kernel) hx,
  fun l0 l2 l3 l4 l5 x S h => zD_op (ins := .iload_n 1) (len := 1) (c := (17, [l0, some (.int x), l2, l3, l4, l5], (.int x :: S), h)) (by decide +kernel) rfl rfl rfl rfl,
  fun l0 l1 l2 l3 l4 x S h => zD_op (ins := .iload 5) (len := 2) (c := (19, [l0, l1, l2, l3, l4, some (.int x)], (.int x :: S), h)) (by decide +kernel) rfl rfl rfl rfl,
  fun l0 l1 l2 l3 l4 l5 p0 p1 r h hcat hC => zD_calls (i := 70) (y := 17) (n := 2) (as := [.int p0, .int p1]) (by decide +kernel) (by decide +kernel) rfl (by decide +kernel) (Nat.le_of_ble_eq_true rfl) hcat hC,
  fun l0 l1 l2 l3 l4 l5 i a r h hx => zD_lald (by decide +kernel) hx,
  fun l1 l2 l3 l4 l5 x S h => zD_op (ins := .aload_n 0) (len := 1) (c := (24, [some (.ref x), l1, l2, l3, l4, l5], (.ref x :: S), h)) (by decide +kernel) rfl rfl rfl rfl,
  fun l0 l1 l2 l3 l4 l5 a r h hx => zD_getf (i := 15) (ci := 5) (k := 1) (q := (167, 0)) (by decide +kernel) (by decide +kernel) hx,
  fun l0 l1 l3 l4 l5 x S h => zD_op (ins := .iload_n 2) (len := 1) (c := (28, [l0, l1, some (.int x), l3, l4, l5], (.int x :: S), h)) (by decide +kernel) rfl rfl rfl rfl,
  fun l0 l1 l2 l3 l4 x S h => zD_op (ins := .iload 5) (len := 2) (c := (30, [l0, l1, l2, l3, l4, some (.int x)], (.int x :: S), h)) (by decide +kernel) rfl rfl rfl rfl,
  fun l0 l1 l2 l3 l4 l5 S h => zD_icst (n := 1) (by decide +kernel) (by decide +kernel),
  fun l0 l1 l2 l3 l4 l5 x y r h => zD_op (ins := .iadd) (len := 1) (c := (32, [l0, l1, l2, l3, l4, l5], (.int (x + y) :: r), h)) (by decide +kernel) rfl rfl rfl rfl,
  fun l0 l1 l2 l3 l4 l5 p0 p1 r h hcat hC => zD_calls (i := 70) (y := 17) (n := 2) (as := [.int p0, .int p1]) (by decide +kernel) (by decide +kernel) rfl (by decide +kernel) (Nat.le_of_ble_eq_true rfl) hcat hC,
  fun l0 l1 l2 l3 l4 l5 i a r h hx => zD_lald (by decide +kernel) hx,
  fun l0 l1 l2 l3 l4 l5 x y r h => zD_op (ins := .lmul) (len := 1) (c := (37, [l0, l1, l2, l3, l4, l5], (.long (x * y) :: r), h)) (by decide +kernel) rfl rfl rfl rfl,
  fun l0 l1 l2 l3 l4 l5 x y r h => zD_op (ins := .ladd) (len := 1) (c := (38, [l0, l1, l2, l3, l4, l5], (.long (x + y) :: r), h)) (by decide +kernel) rfl rfl rfl rfl,
  fun l0 l1 l2 l3 l4 l5 x r h => zD_st2 (k := 3) (ins := .lstore_n 3) (len := 1) (by decide +kernel) rfl rfl rfl (by decide +kernel) rfl rfl,
  fun l0 l1 l2 l3 l4 x S h => zD_iinc (k := 5) (x := x) (c := (1 : Int32)) (n := 1) (by decide +kernel) (by decide +kernel) rfl (by decide +kernel) rfl,
  fun l0 l1 l2 l3 l4 l5 S h => zD_goto (off := (-37)) (by decide +kernel) (by decide),
  fun l0 l1 l2 l4 l5 x S h => zD_op (ins := .lload_n 3) (len := 1) (c := (46, [l0, l1, l2, some (.long x), l4, l5], (.long x :: S), h)) (by decide +kernel) rfl rfl rfl rfl,
  fun l0 l1 l2 l3 l4 l5 v h => zD_lret (by decide +kernel) rfl⟩
set_option maxRecDepth 100000 in
theorem E_X6_waysToMeet_h5 : (∀ (l0 l1 l2 l3 l4 : Option Value) (x : Int32) (S : List Value) (h : zH), zD 60 5 [l0, l1, l2, l3, l4, some (.int x)] S h = zD 60 7 [l0, l1, l2, l3, l4, some (.int x)] (.int x :: S) h) :=
  fun l0 l1 l2 l3 l4 x S h => zD_op (ins := .iload 5) (len := 2) (c := (7, [l0, l1, l2, l3, l4, some (.int x)], (.int x :: S), h)) (by decide +kernel) rfl rfl rfl rfl
set_option maxRecDepth 100000 in
theorem I_X6_waysToMeet : (∀ (a : Nat) (p0 : Int32) (p1 : Int32) (h : zH), zC 60 [.ref a, .int p0, .int p1] h = zD 60 0 [some (.ref a), some (.int p0), some (.int p1), none, none, none] [] h) :=
  fun a p0 p1 h => zC_def rfl
set_option maxRecDepth 100000 in
theorem E_X6_span : (∀ (l1 l2 : Option Value) (x : Nat) (S : List Value) (h : zH), zD 61 0 [some (.ref x), l1, l2] S h = zD 61 1 [some (.ref x), l1, l2] (.ref x :: S) h) ∧
  (∀ (l0 l1 l2 : Option Value) (a : Nat) (r : List Value) (h : zH) (hx : zfok (h.2.2 a) 5 0 = true), zD 61 1 [l0, l1, l2] (.ref a :: r) h = zD 61 4 [l0, l1, l2] (zfv (h.2.2 a) 0 :: r) h) ∧
  (∀ (l0 l2 : Option Value) (x : Int32) (S : List Value) (h : zH), zD 61 4 [l0, some (.int x), l2] S h = zD 61 5 [l0, some (.int x), l2] (.int x :: S) h) ∧
  (∀ (l0 l1 : Option Value) (x : Int32) (S : List Value) (h : zH), zD 61 5 [l0, l1, some (.int x)] S h = zD 61 6 [l0, l1, some (.int x)] (.int x :: S) h) ∧
  (∀ (l0 l1 l2 : Option Value) (p0 : Int32) (p1 : Int32) (r : List Value) (h : zH) (hcat : zcat r ≤ 8) (hC : (zC 17 [.int p0, .int p1] h).isSome = true), zD 61 6 [l0, l1, l2] (.int p1 :: .int p0 :: r) h = zD 61 9 [l0, l1, l2] (zgv (zC 17 [.int p0, .int p1] h) ++ r) (zgh h (zC 17 [.int p0, .int p1] h))) ∧
  (∀ (l0 l1 l2 : Option Value) (i : Int32) (a : Nat) (r : List Value) (h : zH) (hx : zrok (h.2.2 a) i = true), zD 61 9 [l0, l1, l2] (.int i :: .ref a :: r) h = zD 61 10 [l0, l1, l2] (zrv' (h.2.2 a) i :: r) h) ∧
  (∀ (l0 l1 l2 : Option Value) (v : Nat) (h : zH), zD 61 10 [l0, l1, l2] [.ref v] h = some (some (.ref v), h)) ∧
  (∀ (l0 l1 l2 : Option Value) (h : zH), zD 61 10 [l0, l1, l2] [.null] h = some (some .null, h)) :=
  ⟨fun l1 l2 x S h => zD_op (ins := .aload_n 0) (len := 1) (c := (1, [some (.ref x), l1, l2], (.ref x :: S), h)) (by decide +kernel) rfl rfl rfl rfl,
  fun l0 l1 l2 a r h hx => zD_getf (i := 9) (ci := 5) (k := 0) (q := (166, 0)) (by decide +kernel) (by decide +kernel) hx,
  fun l0 l2 x S h => zD_op (ins := .iload_n 1) (len := 1) (c := (5, [l0, some (.int x), l2], (.int x :: S), h)) (by decide +kernel) rfl rfl rfl rfl,
  fun l0 l1 x S h => zD_op (ins := .iload_n 2) (len := 1) (c := (6, [l0, l1, some (.int x)], (.int x :: S), h)) (by decide +kernel) rfl rfl rfl rfl,
  fun l0 l1 l2 p0 p1 r h hcat hC => zD_calls (i := 70) (y := 17) (n := 2) (as := [.int p0, .int p1]) (by decide +kernel) (by decide +kernel) rfl (by decide +kernel) (Nat.le_of_ble_eq_true rfl) hcat hC,
  fun l0 l1 l2 i a r h hx => zD_aald (by decide +kernel) hx,
  fun l0 l1 l2 v h => zD_aret (by decide +kernel) rfl,
  fun l0 l1 l2 h => zD_aretn (by decide +kernel) rfl⟩
set_option maxRecDepth 100000 in
theorem I_X6_span : (∀ (a : Nat) (p0 : Int32) (p1 : Int32) (h : zH), zC 61 [.ref a, .int p0, .int p1] h = zD 61 0 [some (.ref a), some (.int p0), some (.int p1)] [] h) :=
  fun a p0 p1 h => zC_def rfl
set_option maxRecDepth 100000 in
theorem E_X6_meetingCell : (∀ (l1 : Option Value) (x : Int32) (S : List Value) (h : zH), zD 62 0 [some (.int x), l1] S h = zD 62 1 [some (.int x), l1] (.int x :: S) h) ∧
  (∀ (l0 : Option Value) (x : Int32) (S : List Value) (h : zH), zD 62 1 [l0, some (.int x)] S h = zD 62 2 [l0, some (.int x)] (.int x :: S) h) ∧
  (∀ (l0 l1 : Option Value) (x y : Int32) (r : List Value) (h : zH) (hcat : zcat r ≤ 8), zD 62 2 [l0, l1] (.int y :: .int x :: r) h = zD 62 5 [l0, l1] (.int (if y < x then y else x) :: r) h) ∧
  (∀ (l1 : Option Value) (x : Int32) (S : List Value) (h : zH), zD 62 5 [some (.int x), l1] S h = zD 62 6 [some (.int x), l1] (.int x :: S) h) ∧
  (∀ (l0 : Option Value) (x : Int32) (S : List Value) (h : zH), zD 62 6 [l0, some (.int x)] S h = zD 62 7 [l0, some (.int x)] (.int x :: S) h) ∧
  (∀ (l0 l1 : Option Value) (x y : Int32) (r : List Value) (h : zH) (hcat : zcat r ≤ 8), zD 62 7 [l0, l1] (.int y :: .int x :: r) h = zD 62 10 [l0, l1] (.int (if x < y then y else x) :: r) h) ∧
  (∀ (l0 l1 : Option Value) (p0 : Int32) (p1 : Int32) (r : List Value) (h : zH) (hcat : zcat r ≤ 8) (hC : (zC 17 [.int p0, .int p1] h).isSome = true), zD 62 10 [l0, l1] (.int p1 :: .int p0 :: r) h = zD 62 13 [l0, l1] (zgv (zC 17 [.int p0, .int p1] h) ++ r) (zgh h (zC 17 [.int p0, .int p1] h))) ∧
  (∀ (l0 l1 : Option Value) (v : Int32) (h : zH), zD 62 13 [l0, l1] [.int v] h = some (some (.int v), h)) :=
  ⟨fun l1 x S h => zD_op (ins := .iload_n 0) (len := 1) (c := (1, [some (.int x), l1], (.int x :: S), h)) (by decide +kernel) rfl rfl rfl rfl,
  fun l0 x S h => zD_op (ins := .iload_n 1) (len := 1) (c := (2, [l0, some (.int x)], (.int x :: S), h)) (by decide +kernel) rfl rfl rfl rfl,
  fun l0 l1 x y r h hcat => zD_min (i := 84) (q := 452) (by decide +kernel) (by decide +kernel) (by decide +kernel) (by decide +kernel) hcat,
  fun l1 x S h => zD_op (ins := .iload_n 0) (len := 1) (c := (6, [some (.int x), l1], (.int x :: S), h)) (by decide +kernel) rfl rfl rfl rfl,
  fun l0 x S h => zD_op (ins := .iload_n 1) (len := 1) (c := (7, [l0, some (.int x)], (.int x :: S), h)) (by decide +kernel) rfl rfl rfl rfl,
  fun l0 l1 x y r h hcat => zD_max (i := 87) (q := 453) (by decide +kernel) (by decide +kernel) (by decide +kernel) (by decide +kernel) hcat,
  fun l0 l1 p0 p1 r h hcat hC => zD_calls (i := 70) (y := 17) (n := 2) (as := [.int p0, .int p1]) (by decide +kernel) (by decide +kernel) rfl (by decide +kernel) (Nat.le_of_ble_eq_true rfl) hcat hC,
  fun l0 l1 v h => zD_ireti (by decide +kernel) rfl⟩
set_option maxRecDepth 100000 in
theorem I_X6_meetingCell : (∀ (p0 : Int32) (p1 : Int32) (h : zH), zC 62 [.int p0, .int p1] h = zD 62 0 [some (.int p0), some (.int p1)] [] h) :=
  fun p0 p1 h => zC_def rfl
set_option maxRecDepth 100000 in
theorem E_X7_init : (∀ (x : Nat) (S : List Value) (h : zH), zD 63 0 [some (.ref x)] S h = zD 63 1 [some (.ref x)] (.ref x :: S) h) ∧
  (∀ (l0 : Option Value) (a : Nat) (r : List Value) (h : zH) (hcat : zcat r ≤ 8), zD 63 1 [l0] (.ref a :: r) h = zD 63 4 [l0] r h) ∧
  (∀ (x : Nat) (S : List Value) (h : zH), zD 63 4 [some (.ref x)] S h = zD 63 5 [some (.ref x)] (.ref x :: S) h) ∧
  (∀ (l0 : Option Value) (S : List Value) (h : zH), zD 63 5 [l0] S h = zD 63 8 [l0] (.int (220 : Int32) :: S) h) ∧
  (∀ (l0 : Option Value) (n : Int32) (r : List Value) (h : zH) (hx : znok n = true), zD 63 8 [l0] (.int n :: r) h = zD 63 10 [l0] (.ref h.1 :: r) (znew h n.toNatClampNeg (.inl (0, n.toNatClampNeg, .inl (fun _ => 0))))) ∧
  (∀ (l0 : Option Value) (v : Nat) (a : Nat) (r : List Value) (h : zH) (hx : zfok (h.2.2 a) 6 0 = true), zD 63 10 [l0] (.ref v :: .ref a :: r) h = zD 63 13 [l0] r (zw h a (zfs' (h.2.2 a) 0 (.ref v)))) ∧
  (∀ (x : Nat) (S : List Value) (h : zH), zD 63 13 [some (.ref x)] S h = zD 63 14 [some (.ref x)] (.ref x :: S) h) ∧
  (∀ (l0 : Option Value) (S : List Value) (h : zH), zD 63 14 [l0] S h = zD 63 16 [l0] (.int (10 : Int32) :: S) h) ∧
  (∀ (l0 : Option Value) (n : Int32) (r : List Value) (h : zH) (hx : znok n = true), zD 63 16 [l0] (.int n :: r) h = zD 63 18 [l0] (.ref h.1 :: r) (znew h n.toNatClampNeg (.inl (0, n.toNatClampNeg, .inl (fun _ => 0))))) ∧
  (∀ (l0 : Option Value) (v : Nat) (a : Nat) (r : List Value) (h : zH) (hx : zfok (h.2.2 a) 6 1 = true), zD 63 18 [l0] (.ref v :: .ref a :: r) h = zD 63 21 [l0] r (zw h a (zfs' (h.2.2 a) 1 (.ref v)))) ∧
  (∀ (l0 : Option Value) (h : zH), zD 63 21 [l0] [] h = some (none, h)) :=
  ⟨fun x S h => zD_op (ins := .aload_n 0) (len := 1) (c := (1, [some (.ref x)], (.ref x :: S), h)) (by decide +kernel) rfl rfl rfl rfl,
  fun l0 a r h hcat => zD_obj (i := 3) (q := 197) (by decide +kernel) (by decide +kernel) (by decide +kernel) (by decide +kernel) hcat,
  fun x S h => zD_op (ins := .aload_n 0) (len := 1) (c := (5, [some (.ref x)], (.ref x :: S), h)) (by decide +kernel) rfl rfl rfl rfl,
  fun l0 S h => zD_sip (n := 220) (by decide +kernel) (by decide +kernel),
  fun l0 n r h hx => zD_newi (by decide +kernel) hx,
  fun l0 v a r h hx => zD_putf (i := 9) (ci := 6) (k := 0) (q := (198, 0)) (by decide +kernel) (by decide +kernel) (by decide +kernel) hx rfl rfl,
  fun x S h => zD_op (ins := .aload_n 0) (len := 1) (c := (14, [some (.ref x)], (.ref x :: S), h)) (by decide +kernel) rfl rfl rfl rfl,
  fun l0 S h => zD_bip (n := 10) (by decide +kernel) (by decide +kernel),
  fun l0 n r h hx => zD_newi (by decide +kernel) hx,
  fun l0 v a r h hx => zD_putf (i := 15) (ci := 6) (k := 1) (q := (200, 0)) (by decide +kernel) (by decide +kernel) (by decide +kernel) hx rfl rfl,
  fun l0 h => zD_vret (by decide +kernel) rfl⟩
set_option maxRecDepth 100000 in
theorem I_X7_init : (∀ (a : Nat) (h : zH), zC 63 [.ref a] h = zD 63 0 [some (.ref a)] [] h) :=
  fun a h => zC_def rfl
set_option maxRecDepth 100000 in
theorem E_X7_record : (∀ (l0 l1 l2 l3 l4 : Option Value) (S : List Value) (h : zH), zD 64 0 [l0, l1, l2, l3, l4] S h = zD 64 1 [l0, l1, l2, l3, l4] (.int (1 : Int32) :: S) h) ∧
  (∀ (l0 l1 l2 l3 l4 : Option Value) (x : Int32) (r : List Value) (h : zH), zD 64 1 [l0, l1, l2, l3, l4] (.int x :: r) h = zD 64 2 [l0, l1, zclr l2, some (.int x), l4] r h) ∧
  (∀ (l0 l2 l3 l4 : Option Value) (x : Nat) (S : List Value) (h : zH), zD 64 3 [l0, some (.ref x), l2, l3, l4] S h = zD 64 4 [l0, some (.ref x), l2, l3, l4] (.ref x :: S) h) ∧
  (∀ (l0 l2 l3 l4 : Option Value) (S : List Value) (h : zH), zD 64 3 [l0, some .null, l2, l3, l4] S h = zD 64 4 [l0, some .null, l2, l3, l4] (.null :: S) h) ∧
  (∀ (l0 l1 l2 l3 l4 : Option Value) (a : Nat) (r : List Value) (h : zH) (hx : zfok (h.2.2 a) 3 2 = true), zD 64 4 [l0, l1, l2, l3, l4] (.ref a :: r) h = zD 64 7 [l0, l1, l2, l3, l4] (zfv (h.2.2 a) 2 :: r) h) ∧
  (∀ (l0 l1 l2 l3 l4 : Option Value) (x y : Int32) (r : List Value) (h : zH), zD 64 7 [l0, l1, l2, l3, l4] (.int y :: .int x :: r) h = if y < x then zD 64 70 [l0, l1, l2, l3, l4] r h else zD 64 10 [l0, l1, l2, l3, l4] r h) ∧
  (∀ (l0 l2 l3 l4 : Option Value) (x : Nat) (S : List Value) (h : zH), zD 64 10 [l0, some (.ref x), l2, l3, l4] S h = zD 64 11 [l0, some (.ref x), l2, l3, l4] (.ref x :: S) h) ∧
  (∀ (l0 l2 l3 l4 : Option Value) (S : List Value) (h : zH), zD 64 10 [l0, some .null, l2, l3, l4] S h = zD 64 11 [l0, some .null, l2, l3, l4] (.null :: S) h) ∧
  (∀ (l0 l1 l2 l3 l4 : Option Value) (a : Nat) (r : List Value) (h : zH) (hx : zfok (h.2.2 a) 3 1 = true), zD 64 11 [l0, l1, l2, l3, l4] (.ref a :: r) h = zD 64 14 [l0, l1, l2, l3, l4] (zfv (h.2.2 a) 1 :: r) h) ∧
  (∀ (l0 l1 l2 l4 : Option Value) (x : Int32) (S : List Value) (h : zH), zD 64 14 [l0, l1, l2, some (.int x), l4] S h = zD 64 15 [l0, l1, l2, some (.int x), l4] (.int x :: S) h) ∧
  (∀ (l0 l1 l2 l3 l4 : Option Value) (i : Int32) (a : Nat) (r : List Value) (h : zH) (hx : ziok a (h.2.2 a) i = true), zD 64 15 [l0, l1, l2, l3, l4] (.int i :: .ref a :: r) h = zD 64 16 [l0, l1, l2, l3, l4] (.int (ziv (h.2.2 a) i) :: r) h) ∧
  (∀ (l0 l1 l2 l3 l4 : Option Value) (x : Int32) (r : List Value) (h : zH), zD 64 16 [l0, l1, l2, l3, l4] (.int x :: r) h = zD 64 18 [l0, l1, l2, zclr l3, some (.int x)] r h) ∧
  (∀ (l1 l2 l3 l4 : Option Value) (x : Nat) (S : List Value) (h : zH), zD 64 18 [some (.ref x), l1, l2, l3, l4] S h = zD 64 19 [some (.ref x), l1, l2, l3, l4] (.ref x :: S) h) ∧
  (∀ (l0 l1 l2 l3 l4 : Option Value) (a : Nat) (r : List Value) (h : zH) (hx : zfok (h.2.2 a) 6 0 = true), zD 64 19 [l0, l1, l2, l3, l4] (.ref a :: r) h = zD 64 22 [l0, l1, l2, l3, l4] (zfv (h.2.2 a) 0 :: r) h) ∧
  (∀ (l0 l2 l3 l4 : Option Value) (x : Nat) (S : List Value) (h : zH), zD 64 22 [l0, some (.ref x), l2, l3, l4] S h = zD 64 23 [l0, some (.ref x), l2, l3, l4] (.ref x :: S) h) ∧
  (∀ (l0 l2 l3 l4 : Option Value) (S : List Value) (h : zH), zD 64 22 [l0, some .null, l2, l3, l4] S h = zD 64 23 [l0, some .null, l2, l3, l4] (.null :: S) h) ∧
  (∀ (l0 l1 l2 l3 l4 : Option Value) (a : Nat) (r : List Value) (h : zH) (hx : zfok (h.2.2 a) 3 0 = true), zD 64 23 [l0, l1, l2, l3, l4] (.ref a :: r) h = zD 64 26 [l0, l1, l2, l3, l4] (zfv (h.2.2 a) 0 :: r) h) ∧
  (∀ (l0 l1 l2 l3 : Option Value) (x : Int32) (S : List Value) (h : zH), zD 64 26 [l0, l1, l2, l3, some (.int x)] S h = zD 64 28 [l0, l1, l2, l3, some (.int x)] (.int x :: S) h) ∧
  (∀ (l0 l1 l2 l3 l4 : Option Value) (i : Int32) (a : Nat) (r : List Value) (h : zH) (hx : ziok a (h.2.2 a) i = true), zD 64 28 [l0, l1, l2, l3, l4] (.int i :: .ref a :: r) h = zD 64 29 [l0, l1, l2, l3, l4] (.int (ziv (h.2.2 a) i) :: r) h) ∧
  (∀ (l0 l2 l3 l4 : Option Value) (x : Nat) (S : List Value) (h : zH), zD 64 29 [l0, some (.ref x), l2, l3, l4] S h = zD 64 30 [l0, some (.ref x), l2, l3, l4] (.ref x :: S) h) ∧
  (∀ (l0 l2 l3 l4 : Option Value) (S : List Value) (h : zH), zD 64 29 [l0, some .null, l2, l3, l4] S h = zD 64 30 [l0, some .null, l2, l3, l4] (.null :: S) h) ∧
  (∀ (l0 l1 l2 l3 l4 : Option Value) (a : Nat) (r : List Value) (h : zH) (hx : zfok (h.2.2 a) 3 0 = true), zD 64 30 [l0, l1, l2, l3, l4] (.ref a :: r) h = zD 64 33 [l0, l1, l2, l3, l4] (zfv (h.2.2 a) 0 :: r) h) ∧
  (∀ (l0 l1 l2 l4 : Option Value) (x : Int32) (S : List Value) (h : zH), zD 64 33 [l0, l1, l2, some (.int x), l4] S h = zD 64 34 [l0, l1, l2, some (.int x), l4] (.int x :: S) h) ∧
  (∀ (l0 l1 l2 l3 l4 : Option Value) (i : Int32) (a : Nat) (r : List Value) (h : zH) (hx : ziok a (h.2.2 a) i = true), zD 64 34 [l0, l1, l2, l3, l4] (.int i :: .ref a :: r) h = zD 64 35 [l0, l1, l2, l3, l4] (.int (ziv (h.2.2 a) i) :: r) h) ∧
  (∀ (l0 l1 l2 l3 : Option Value) (x : Int32) (S : List Value) (h : zH), zD 64 35 [l0, l1, l2, l3, some (.int x)] S h = zD 64 37 [l0, l1, l2, l3, some (.int x)] (.int x :: S) h) ∧
  (∀ (l0 l1 l2 l4 : Option Value) (x : Int32) (S : List Value) (h : zH), zD 64 37 [l0, l1, l2, some (.int x), l4] S h = zD 64 38 [l0, l1, l2, some (.int x), l4] (.int x :: S) h) ∧
  (∀ (l0 l1 l2 l3 l4 : Option Value) (p0 : Int32) (p1 : Int32) (r : List Value) (h : zH) (hcat : zcat r ≤ 8) (hC : (zC 7 [.int p0, .int p1] h).isSome = true), zD 64 38 [l0, l1, l2, l3, l4] (.int p1 :: .int p0 :: r) h = zD 64 41 [l0, l1, l2, l3, l4] (zgv (zC 7 [.int p0, .int p1] h) ++ r) (zgh h (zC 7 [.int p0, .int p1] h))) ∧
  (∀ (l0 l1 l2 l3 l4 : Option Value) (p0 : Int32) (p1 : Int32) (p2 : Int32) (r : List Value) (h : zH) (hcat : zcat r ≤ 8) (hC : (zC 18 [.int p0, .int p1, .int p2] h).isSome = true), zD 64 41 [l0, l1, l2, l3, l4] (.int p2 :: .int p1 :: .int p0 :: r) h = zD 64 44 [l0, l1, l2, l3, l4] (zgv (zC 18 [.int p0, .int p1, .int p2] h) ++ r) (zgh h (zC 18 [.int p0, .int p1, .int p2] h))) ∧
  (∀ (l0 l1 l2 l3 l4 : Option Value) (x : Int32) (y : Nat) (r : List Value) (h : zH), zD 64 44 [l0, l1, l2, l3, l4] (.int x :: .ref y :: r) h = zD 64 45 [l0, l1, l2, l3, l4] (.int x :: .ref y :: .int x :: .ref y :: r) h) ∧
  (∀ (l0 l1 l2 l3 l4 : Option Value) (i : Int32) (a : Nat) (r : List Value) (h : zH) (hx : ziok a (h.2.2 a) i = true), zD 64 45 [l0, l1, l2, l3, l4] (.int i :: .ref a :: r) h = zD 64 46 [l0, l1, l2, l3, l4] (.int (ziv (h.2.2 a) i) :: r) h) ∧
  (∀ (l0 l1 l3 l4 : Option Value) (x : Int32) (S : List Value) (h : zH), zD 64 46 [l0, l1, some (.int x), l3, l4] S h = zD 64 47 [l0, l1, some (.int x), l3, l4] (.int x :: S) h) ∧
  (∀ (l0 l1 l2 l3 l4 : Option Value) (x y : Int32) (r : List Value) (h : zH), zD 64 47 [l0, l1, l2, l3, l4] (.int y :: .int x :: r) h = zD 64 48 [l0, l1, l2, l3, l4] (.int (x + y) :: r) h) ∧
  (∀ (l0 l1 l2 l3 l4 : Option Value) (w i : Int32) (a : Nat) (r : List Value) (h : zH) (hx : zpok (h.2.2 a) i = true), zD 64 48 [l0, l1, l2, l3, l4] (.int w :: .int i :: .ref a :: r) h = zD 64 49 [l0, l1, l2, l3, l4] r (zw h a (zis' (h.2.2 a) i w))) ∧
  (∀ (l1 l2 l3 l4 : Option Value) (x : Nat) (S : List Value) (h : zH), zD 64 49 [some (.ref x), l1, l2, l3, l4] S h = zD 64 50 [some (.ref x), l1, l2, l3, l4] (.ref x :: S) h) ∧
  (∀ (l0 l1 l2 l3 l4 : Option Value) (a : Nat) (r : List Value) (h : zH) (hx : zfok (h.2.2 a) 6 1 = true), zD 64 50 [l0, l1, l2, l3, l4] (.ref a :: r) h = zD 64 53 [l0, l1, l2, l3, l4] (zfv (h.2.2 a) 1 :: r) h) ∧
  (∀ (l0 l2 l3 l4 : Option Value) (x : Nat) (S : List Value) (h : zH), zD 64 53 [l0, some (.ref x), l2, l3, l4] S h = zD 64 54 [l0, some (.ref x), l2, l3, l4] (.ref x :: S) h) ∧
  (∀ (l0 l2 l3 l4 : Option Value) (S : List Value) (h : zH), zD 64 53 [l0, some .null, l2, l3, l4] S h = zD 64 54 [l0, some .null, l2, l3, l4] (.null :: S) h) ∧
  (∀ (l0 l1 l2 l3 l4 : Option Value) (a : Nat) (r : List Value) (h : zH) (hx : zfok (h.2.2 a) 3 0 = true), zD 64 54 [l0, l1, l2, l3, l4] (.ref a :: r) h = zD 64 57 [l0, l1, l2, l3, l4] (zfv (h.2.2 a) 0 :: r) h) ∧
  (∀ (l0 l1 l2 l4 : Option Value) (x : Int32) (S : List Value) (h : zH), zD 64 57 [l0, l1, l2, some (.int x), l4] S h = zD 64 58 [l0, l1, l2, some (.int x), l4] (.int x :: S) h) ∧
  (∀ (l0 l1 l2 l3 l4 : Option Value) (i : Int32) (a : Nat) (r : List Value) (h : zH) (hx : ziok a (h.2.2 a) i = true), zD 64 58 [l0, l1, l2, l3, l4] (.int i :: .ref a :: r) h = zD 64 59 [l0, l1, l2, l3, l4] (.int (ziv (h.2.2 a) i) :: r) h) ∧
  (∀ (l0 l1 l2 l3 l4 : Option Value) (x : Int32) (y : Nat) (r : List Value) (h : zH), zD 64 59 [l0, l1, l2, l3, l4] (.int x :: .ref y :: r) h = zD 64 60 [l0, l1, l2, l3, l4] (.int x :: .ref y :: .int x :: .ref y :: r) h) ∧
  (∀ (l0 l1 l2 l3 l4 : Option Value) (i : Int32) (a : Nat) (r : List Value) (h : zH) (hx : ziok a (h.2.2 a) i = true), zD 64 60 [l0, l1, l2, l3, l4] (.int i :: .ref a :: r) h = zD 64 61 [l0, l1, l2, l3, l4] (.int (ziv (h.2.2 a) i) :: r) h) ∧
  (∀ (l0 l1 l3 l4 : Option Value) (x : Int32) (S : List Value) (h : zH), zD 64 61 [l0, l1, some (.int x), l3, l4] S h = zD 64 62 [l0, l1, some (.int x), l3, l4] (.int x :: S) h) ∧
  (∀ (l0 l1 l2 l3 l4 : Option Value) (x y : Int32) (r : List Value) (h : zH), zD 64 62 [l0, l1, l2, l3, l4] (.int y :: .int x :: r) h = zD 64 63 [l0, l1, l2, l3, l4] (.int (x + y) :: r) h) ∧
  (∀ (l0 l1 l2 l3 l4 : Option Value) (w i : Int32) (a : Nat) (r : List Value) (h : zH) (hx : zpok (h.2.2 a) i = true), zD 64 63 [l0, l1, l2, l3, l4] (.int w :: .int i :: .ref a :: r) h = zD 64 64 [l0, l1, l2, l3, l4] r (zw h a (zis' (h.2.2 a) i w))) ∧
  (∀ (l0 l1 l2 l4 : Option Value) (x : Int32) (S : List Value) (h : zH), zD 64 64 [l0, l1, l2, some (.int x), l4] S h = zD 64 67 [l0, l1, zclr l2, some (.int (x + (1 : Int32))), l4] S h) ∧
  (∀ (l0 l1 l2 l3 l4 : Option Value) (S : List Value) (h : zH), zD 64 67 [l0, l1, l2, l3, l4] S h = zD 64 2 [l0, l1, l2, l3, l4] S h) ∧
  (∀ (l0 l1 l2 l3 l4 : Option Value) (h : zH), zD 64 70 [l0, l1, l2, l3, l4] [] h = some (none, h)) :=
  ⟨fun l0 l1 l2 l3 l4 S h => zD_icst (n := 1) (by decide +kernel) (by decide +kernel),
  fun l0 l1 l2 l3 l4 x r h => zD_st1 (k := 3) (ins := .istore_n 3) (len := 1) (by decide +kernel) rfl rfl rfl (by decide +kernel) rfl rfl,
  fun l0 l2 l3 l4 x S h => zD_op (ins := .aload_n 1) (len := 1) (c := (4, [l0, some (.ref x), l2, l3, l4], (.ref x :: S), h)) (by decide +kernel) rfl rfl rfl rfl,
  fun l0 l2 l3 l4 S h => zD_op (ins := .aload_n 1) (len := 1) (c := (4, [l0, some .null, l2, l3, l4], (.null :: S), h)) (by decide +kernel) rfl rfl rfl rfl,
  fun l0 l1 l2 l3 l4 a r h hx => zD_getf (i := 18) (ci := 3) (k := 2) (q := (87, 1)) (by decide +kernel) (by decide +kernel) hx,
  fun l0 l1 l2 l3 l4 x y r h => zD_if (cnd := .gt) (off := 63) (by decide +kernel) (by decide) rfl,
  fun l0 l2 l3 l4 x S h => zD_op (ins := .aload_n 1) (len := 1) (c := (11, [l0, some (.ref x), l2, l3, l4], (.ref x :: S), h)) (by decide +kernel) rfl rfl rfl rfl,
  fun l0 l2 l3 l4 S h => zD_op (ins := .aload_n 1) (len := 1) (c := (11, [l0, some .null, l2, l3, l4], (.null :: S), h)) (by decide +kernel) rfl rfl rfl rfl,
  fun l0 l1 l2 l3 l4 a r h hx => zD_getf (i := 24) (ci := 3) (k := 1) (q := (82, 1)) (by decide +kernel) (by decide +kernel) hx,
  fun l0 l1 l2 l4 x S h => zD_op (ins := .iload_n 3) (len := 1) (c := (15, [l0, l1, l2, some (.int x), l4], (.int x :: S), h)) (by decide +kernel) rfl rfl rfl rfl,
  fun l0 l1 l2 l3 l4 i a r h hx => zD_iald (by decide +kernel) hx,
  fun l0 l1 l2 l3 l4 x r h => zD_st1 (k := 4) (ins := .istore 4) (len := 2) (by decide +kernel) rfl rfl rfl (by decide +kernel) rfl rfl,
  fun l1 l2 l3 l4 x S h => zD_op (ins := .aload_n 0) (len := 1) (c := (19, [some (.ref x), l1, l2, l3, l4], (.ref x :: S), h)) (by decide +kernel) rfl rfl rfl rfl,
  fun l0 l1 l2 l3 l4 a r h hx => zD_getf (i := 9) (ci := 6) (k := 0) (q := (198, 0)) (by decide +kernel) (by decide +kernel) hx,
  fun l0 l2 l3 l4 x S h => zD_op (ins := .aload_n 1) (len := 1) (c := (23, [l0, some (.ref x), l2, l3, l4], (.ref x :: S), h)) (by decide +kernel) rfl rfl rfl rfl,
  fun l0 l2 l3 l4 S h => zD_op (ins := .aload_n 1) (len := 1) (c := (23, [l0, some .null, l2, l3, l4], (.null :: S), h)) (by decide +kernel) rfl rfl rfl rfl,
  fun l0 l1 l2 l3 l4 a r h hx => zD_getf (i := 27) (ci := 3) (k := 0) (q := (78, 1)) (by decide +kernel) (by decide +kernel) hx,
  fun l0 l1 l2 l3 x S h => zD_op (ins := .iload 4) (len := 2) (c := (28, [l0, l1, l2, l3, some (.int x)], (.int x :: S), h)) (by decide +kernel) rfl rfl rfl rfl,
  fun l0 l1 l2 l3 l4 i a r h hx => zD_iald (by decide +kernel) hx,
  fun l0 l2 l3 l4 x S h => zD_op (ins := .aload_n 1) (len := 1) (c := (30, [l0, some (.ref x), l2, l3, l4], (.ref x :: S), h)) (by decide +kernel) rfl rfl rfl rfl,
  fun l0 l2 l3 l4 S h => zD_op (ins := .aload_n 1) (len := 1) (c := (30, [l0, some .null, l2, l3, l4], (.null :: S), h)) (by decide +kernel) rfl rfl rfl rfl,
  fun l0 l1 l2 l3 l4 a r h hx => zD_getf (i := 27) (ci := 3) (k := 0) (q := (78, 1)) (by decide +kernel) (by decide +kernel) hx,
  fun l0 l1 l2 l4 x S h => zD_op (ins := .iload_n 3) (len := 1) (c := (34, [l0, l1, l2, some (.int x), l4], (.int x :: S), h)) (by decide +kernel) rfl rfl rfl rfl,
  fun l0 l1 l2 l3 l4 i a r h hx => zD_iald (by decide +kernel) hx,
  fun l0 l1 l2 l3 x S h => zD_op (ins := .iload 4) (len := 2) (c := (37, [l0, l1, l2, l3, some (.int x)], (.int x :: S), h)) (by decide +kernel) rfl rfl rfl rfl,
  fun l0 l1 l2 l4 x S h => zD_op (ins := .iload_n 3) (len := 1) (c := (38, [l0, l1, l2, some (.int x), l4], (.int x :: S), h)) (by decide +kernel) rfl rfl rfl rfl,
  fun l0 l1 l2 l3 l4 p0 p1 r h hcat hC => zD_calls (i := 30) (y := 7) (n := 2) (as := [.int p0, .int p1]) (by decide +kernel) (by decide +kernel) rfl (by decide +kernel) (Nat.le_of_ble_eq_true rfl) hcat hC,
  fun l0 l1 l2 l3 l4 p0 p1 p2 r h hcat hC => zD_calls (i := 34) (y := 18) (n := 3) (as := [.int p0, .int p1, .int p2]) (by decide +kernel) (by decide +kernel) rfl (by decide +kernel) (Nat.le_of_ble_eq_true rfl) hcat hC,
  fun l0 l1 l2 l3 l4 x y r h => zD_op (ins := .dup2) (len := 1) (c := (45, [l0, l1, l2, l3, l4], (.int x :: .ref y :: .int x :: .ref y :: r), h)) (by decide +kernel) rfl rfl rfl rfl,
  fun l0 l1 l2 l3 l4 i a r h hx => zD_iald (by decide +kernel) hx,
  fun l0 l1 l3 l4 x S h => zD_op (ins := .iload_n 2) (len := 1) (c := (47, [l0, l1, some (.int x), l3, l4], (.int x :: S), h)) (by decide +kernel) rfl rfl rfl rfl,
  fun l0 l1 l2 l3 l4 x y r h => zD_op (ins := .iadd) (len := 1) (c := (48, [l0, l1, l2, l3, l4], (.int (x + y) :: r), h)) (by decide +kernel) rfl rfl rfl rfl,
  fun l0 l1 l2 l3 l4 w i a r h hx => zD_iast (by decide +kernel) hx,
  fun l1 l2 l3 l4 x S h => zD_op (ins := .aload_n 0) (len := 1) (c := (50, [some (.ref x), l1, l2, l3, l4], (.ref x :: S), h)) (by decide +kernel) rfl rfl rfl rfl,
  fun l0 l1 l2 l3 l4 a r h hx => zD_getf (i := 15) (ci := 6) (k := 1) (q := (200, 0)) (by decide +kernel) (by decide +kernel) hx,
  fun l0 l2 l3 l4 x S h => zD_op (ins := .aload_n 1) (len := 1) (c := (54, [l0, some (.ref x), l2, l3, l4], (.ref x :: S), h)) (by decide +kernel) rfl rfl rfl rfl,
  fun l0 l2 l3 l4 S h => zD_op (ins := .aload_n 1) (len := 1) (c := (54, [l0, some .null, l2, l3, l4], (.null :: S), h)) (by decide +kernel) rfl rfl rfl rfl,
  fun l0 l1 l2 l3 l4 a r h hx => zD_getf (i := 27) (ci := 3) (k := 0) (q := (78, 1)) (by decide +kernel) (by decide +kernel) hx,
  fun l0 l1 l2 l4 x S h => zD_op (ins := .iload_n 3) (len := 1) (c := (58, [l0, l1, l2, some (.int x), l4], (.int x :: S), h)) (by decide +kernel) rfl rfl rfl rfl,
  fun l0 l1 l2 l3 l4 i a r h hx => zD_iald (by decide +kernel) hx,
  fun l0 l1 l2 l3 l4 x y r h => zD_op (ins := .dup2) (len := 1) (c := (60, [l0, l1, l2, l3, l4], (.int x :: .ref y :: .int x :: .ref y :: r), h)) (by decide +kernel) rfl rfl rfl rfl,
  fun l0 l1 l2 l3 l4 i a r h hx => zD_iald (by decide +kernel) hx,
  fun l0 l1 l3 l4 x S h => zD_op (ins := .iload_n 2) (len := 1) (c := (62, [l0, l1, some (.int x), l3, l4], (.int x :: S), h)) (by decide +kernel) rfl rfl rfl rfl,
  fun l0 l1 l2 l3 l4 x y r h => zD_op (ins := .iadd) (len := 1) (c := (63, [l0, l1, l2, l3, l4], (.int (x + y) :: r), h)) (by decide +kernel) rfl rfl rfl rfl,
  fun l0 l1 l2 l3 l4 w i a r h hx => zD_iast (by decide +kernel) hx,
  fun l0 l1 l2 l4 x S h => zD_iinc (k := 3) (x := x) (c := (1 : Int32)) (n := 1) (by decide +kernel) (by decide +kernel) rfl (by decide +kernel) rfl,
  fun l0 l1 l2 l3 l4 S h => zD_goto (off := (-65)) (by decide +kernel) (by decide),
  fun l0 l1 l2 l3 l4 h => zD_vret (by decide +kernel) rfl⟩
set_option maxRecDepth 100000 in
theorem E_X7_record_h2 : (∀ (l0 l1 l2 l4 : Option Value) (x : Int32) (S : List Value) (h : zH), zD 64 2 [l0, l1, l2, some (.int x), l4] S h = zD 64 3 [l0, l1, l2, some (.int x), l4] (.int x :: S) h) :=
  fun l0 l1 l2 l4 x S h => zD_op (ins := .iload_n 3) (len := 1) (c := (3, [l0, l1, l2, some (.int x), l4], (.int x :: S), h)) (by decide +kernel) rfl rfl rfl rfl
set_option maxRecDepth 100000 in
theorem I_X7_record : (∀ (a : Nat) (p0 : Nat) (p1 : Int32) (h : zH), zC 64 [.ref a, .ref p0, .int p1] h = zD 64 0 [some (.ref a), some (.ref p0), some (.int p1), none, none] [] h) :=
  fun a p0 p1 h => zC_def rfl
set_option maxRecDepth 100000 in
theorem E_X7_learnedWeight : (∀ (l1 l2 l3 l4 : Option Value) (x : Nat) (S : List Value) (h : zH), zD 65 0 [some (.ref x), l1, l2, l3, l4] S h = zD 65 1 [some (.ref x), l1, l2, l3, l4] (.ref x :: S) h) ∧
  (∀ (l0 l1 l2 l3 l4 : Option Value) (a : Nat) (r : List Value) (h : zH) (hx : zfok (h.2.2 a) 6 1 = true), zD 65 1 [l0, l1, l2, l3, l4] (.ref a :: r) h = zD 65 4 [l0, l1, l2, l3, l4] (zfv (h.2.2 a) 1 :: r) h) ∧
  (∀ (l0 l1 l3 l4 : Option Value) (x : Int32) (S : List Value) (h : zH), zD 65 4 [l0, l1, some (.int x), l3, l4] S h = zD 65 5 [l0, l1, some (.int x), l3, l4] (.int x :: S) h) ∧
  (∀ (l0 l1 l2 l3 l4 : Option Value) (i : Int32) (a : Nat) (r : List Value) (h : zH) (hx : ziok a (h.2.2 a) i = true), zD 65 5 [l0, l1, l2, l3, l4] (.int i :: .ref a :: r) h = zD 65 6 [l0, l1, l2, l3, l4] (.int (ziv (h.2.2 a) i) :: r) h) ∧
  (∀ (l0 l1 l2 l3 l4 : Option Value) (S : List Value) (h : zH), zD 65 6 [l0, l1, l2, l3, l4] S h = zD 65 8 [l0, l1, l2, l3, l4] (.int (21 : Int32) :: S) h) ∧
  (∀ (l0 l1 l2 l3 l4 : Option Value) (x y : Int32) (r : List Value) (h : zH), zD 65 8 [l0, l1, l2, l3, l4] (.int y :: .int x :: r) h = zD 65 9 [l0, l1, l2, l3, l4] (.int (x + y) :: r) h) ∧
  (∀ (l0 l1 l2 l3 l4 : Option Value) (x : Int32) (r : List Value) (h : zH), zD 65 9 [l0, l1, l2, l3, l4] (.int x :: r) h = zD 65 11 [l0, l1, l2, zclr l3, some (.int x)] r h) ∧
  (∀ (l0 l1 l2 l3 : Option Value) (x : Int32) (S : List Value) (h : zH), zD 65 11 [l0, l1, l2, l3, some (.int x)] S h = zD 65 13 [l0, l1, l2, l3, some (.int x)] (.int x :: S) h) ∧
  (∀ (l0 l1 l2 l3 l4 : Option Value) (x : Int32) (r : List Value) (h : zH), zD 65 13 [l0, l1, l2, l3, l4] (.int x :: r) h = if x ≤ 0 then zD 65 39 [l0, l1, l2, l3, l4] r h else zD 65 16 [l0, l1, l2, l3, l4] r h) ∧
  (∀ (l0 l1 l2 l3 l4 : Option Value) (S : List Value) (h : zH), zD 65 16 [l0, l1, l2, l3, l4] S h = zD 65 19 [l0, l1, l2, l3, l4] (.int (1000 : Int32) :: S) h) ∧
  (∀ (l1 l2 l3 l4 : Option Value) (x : Nat) (S : List Value) (h : zH), zD 65 19 [some (.ref x), l1, l2, l3, l4] S h = zD 65 20 [some (.ref x), l1, l2, l3, l4] (.ref x :: S) h) ∧
  (∀ (l0 l1 l2 l3 l4 : Option Value) (a : Nat) (r : List Value) (h : zH) (hx : zfok (h.2.2 a) 6 0 = true), zD 65 20 [l0, l1, l2, l3, l4] (.ref a :: r) h = zD 65 23 [l0, l1, l2, l3, l4] (zfv (h.2.2 a) 0 :: r) h) ∧
  (∀ (l0 l2 l3 l4 : Option Value) (x : Int32) (S : List Value) (h : zH), zD 65 23 [l0, some (.int x), l2, l3, l4] S h = zD 65 24 [l0, some (.int x), l2, l3, l4] (.int x :: S) h) ∧
  (∀ (l0 l1 l3 l4 : Option Value) (x : Int32) (S : List Value) (h : zH), zD 65 24 [l0, l1, some (.int x), l3, l4] S h = zD 65 25 [l0, l1, some (.int x), l3, l4] (.int x :: S) h) ∧
  (∀ (l0 l1 l2 l4 : Option Value) (x : Int32) (S : List Value) (h : zH), zD 65 25 [l0, l1, l2, some (.int x), l4] S h = zD 65 26 [l0, l1, l2, some (.int x), l4] (.int x :: S) h) ∧
  (∀ (l0 l1 l2 l3 l4 : Option Value) (p0 : Int32) (p1 : Int32) (p2 : Int32) (r : List Value) (h : zH) (hcat : zcat r ≤ 8) (hC : (zC 18 [.int p0, .int p1, .int p2] h).isSome = true), zD 65 26 [l0, l1, l2, l3, l4] (.int p2 :: .int p1 :: .int p0 :: r) h = zD 65 29 [l0, l1, l2, l3, l4] (zgv (zC 18 [.int p0, .int p1, .int p2] h) ++ r) (zgh h (zC 18 [.int p0, .int p1, .int p2] h))) ∧
  (∀ (l0 l1 l2 l3 l4 : Option Value) (i : Int32) (a : Nat) (r : List Value) (h : zH) (hx : ziok a (h.2.2 a) i = true), zD 65 29 [l0, l1, l2, l3, l4] (.int i :: .ref a :: r) h = zD 65 30 [l0, l1, l2, l3, l4] (.int (ziv (h.2.2 a) i) :: r) h) ∧
  (∀ (l0 l1 l2 l3 l4 : Option Value) (S : List Value) (h : zH), zD 65 30 [l0, l1, l2, l3, l4] S h = zD 65 31 [l0, l1, l2, l3, l4] (.int (1 : Int32) :: S) h) ∧
  (∀ (l0 l1 l2 l3 l4 : Option Value) (x y : Int32) (r : List Value) (h : zH), zD 65 31 [l0, l1, l2, l3, l4] (.int y :: .int x :: r) h = zD 65 32 [l0, l1, l2, l3, l4] (.int (x + y) :: r) h) ∧
  (∀ (l0 l1 l2 l3 l4 : Option Value) (x y : Int32) (r : List Value) (h : zH), zD 65 32 [l0, l1, l2, l3, l4] (.int y :: .int x :: r) h = zD 65 33 [l0, l1, l2, l3, l4] (.int (x * y) :: r) h) ∧
  (∀ (l0 l1 l2 l3 : Option Value) (x : Int32) (S : List Value) (h : zH), zD 65 33 [l0, l1, l2, l3, some (.int x)] S h = zD 65 35 [l0, l1, l2, l3, some (.int x)] (.int x :: S) h) ∧
  (∀ (l0 l1 l2 l3 l4 : Option Value) (x y : Int32) (r : List Value) (h : zH) (hy : ¬ y = 0), zD 65 35 [l0, l1, l2, l3, l4] (.int y :: .int x :: r) h = zD 65 36 [l0, l1, l2, l3, l4] (.int (x / y) :: r) h) ∧
  (∀ (l0 l1 l2 l3 l4 : Option Value) (S : List Value) (h : zH), zD 65 36 [l0, l1, l2, l3, l4] S h = zD 65 40 [l0, l1, l2, l3, l4] S h) ∧
  (∀ (l0 l1 l2 l3 l4 : Option Value) (S : List Value) (h : zH), zD 65 39 [l0, l1, l2, l3, l4] S h = zD 65 40 [l0, l1, l2, l3, l4] (.int (0 : Int32) :: S) h) ∧
  (∀ (l0 l1 l2 l3 l4 : Option Value) (v : Int32) (h : zH), zD 65 40 [l0, l1, l2, l3, l4] [.int v] h = some (some (.int v), h)) :=
  ⟨fun l1 l2 l3 l4 x S h => zD_op (ins := .aload_n 0) (len := 1) (c := (1, [some (.ref x), l1, l2, l3, l4], (.ref x :: S), h)) (by decide +kernel) rfl rfl rfl rfl,
  fun l0 l1 l2 l3 l4 a r h hx => zD_getf (i := 15) (ci := 6) (k := 1) (q := (200, 0)) (by decide +kernel) (by decide +kernel) hx,
  fun l0 l1 l3 l4 x S h => zD_op (ins := .iload_n 2) (len := 1) (c := (5, [l0, l1, some (.int x), l3, l4], (.int x :: S), h)) (by decide +kernel) rfl rfl rfl rfl,
  fun l0 l1 l2 l3 l4 i a r h hx => zD_iald (by decide +kernel) hx,
  fun l0 l1 l2 l3 l4 S h => zD_bip (n := 21) (by decide +kernel) (by decide +kernel),
  fun l0 l1 l2 l3 l4 x y r h => zD_op (ins := .iadd) (len := 1) (c := (9, [l0, l1, l2, l3, l4], (.int (x + y) :: r), h)) (by decide +kernel) rfl rfl rfl rfl,
  fun l0 l1 l2 l3 l4 x r h => zD_st1 (k := 4) (ins := .istore 4) (len := 2) (by decide +kernel) rfl rfl rfl (by decide +kernel) rfl rfl,
  fun l0 l1 l2 l3 x S h => zD_op (ins := .iload 4) (len := 2) (c := (13, [l0, l1, l2, l3, some (.int x)], (.int x :: S), h)) (by decide +kernel) rfl rfl rfl rfl,
  fun l0 l1 l2 l3 l4 x r h => zD_if0 (cnd := .le) (off := 26) (by decide +kernel) (by decide) rfl,
  fun l0 l1 l2 l3 l4 S h => zD_sip (n := 1000) (by decide +kernel) (by decide +kernel),
  fun l1 l2 l3 l4 x S h => zD_op (ins := .aload_n 0) (len := 1) (c := (20, [some (.ref x), l1, l2, l3, l4], (.ref x :: S), h)) (by decide +kernel) rfl rfl rfl rfl,
  fun l0 l1 l2 l3 l4 a r h hx => zD_getf (i := 9) (ci := 6) (k := 0) (q := (198, 0)) (by decide +kernel) (by decide +kernel) hx,
  fun l0 l2 l3 l4 x S h => zD_op (ins := .iload_n 1) (len := 1) (c := (24, [l0, some (.int x), l2, l3, l4], (.int x :: S), h)) (by decide +kernel) rfl rfl rfl rfl,
  fun l0 l1 l3 l4 x S h => zD_op (ins := .iload_n 2) (len := 1) (c := (25, [l0, l1, some (.int x), l3, l4], (.int x :: S), h)) (by decide +kernel) rfl rfl rfl rfl,
  fun l0 l1 l2 l4 x S h => zD_op (ins := .iload_n 3) (len := 1) (c := (26, [l0, l1, l2, some (.int x), l4], (.int x :: S), h)) (by decide +kernel) rfl rfl rfl rfl,
  fun l0 l1 l2 l3 l4 p0 p1 p2 r h hcat hC => zD_calls (i := 34) (y := 18) (n := 3) (as := [.int p0, .int p1, .int p2]) (by decide +kernel) (by decide +kernel) rfl (by decide +kernel) (Nat.le_of_ble_eq_true rfl) hcat hC,
  fun l0 l1 l2 l3 l4 i a r h hx => zD_iald (by decide +kernel) hx,
  fun l0 l1 l2 l3 l4 S h => zD_icst (n := 1) (by decide +kernel) (by decide +kernel),
  fun l0 l1 l2 l3 l4 x y r h => zD_op (ins := .iadd) (len := 1) (c := (32, [l0, l1, l2, l3, l4], (.int (x + y) :: r), h)) (by decide +kernel) rfl rfl rfl rfl,
  fun l0 l1 l2 l3 l4 x y r h => zD_op (ins := .imul) (len := 1) (c := (33, [l0, l1, l2, l3, l4], (.int (x * y) :: r), h)) (by decide +kernel) rfl rfl rfl rfl,
  fun l0 l1 l2 l3 x S h => zD_op (ins := .iload 4) (len := 2) (c := (35, [l0, l1, l2, l3, some (.int x)], (.int x :: S), h)) (by decide +kernel) rfl rfl rfl rfl,
  fun l0 l1 l2 l3 l4 x y r h hy => zD_div (by decide +kernel) hy,
  fun l0 l1 l2 l3 l4 S h => zD_goto (off := 4) (by decide +kernel) (by decide),
  fun l0 l1 l2 l3 l4 S h => zD_icst (n := 0) (by decide +kernel) (by decide +kernel),
  fun l0 l1 l2 l3 l4 v h => zD_ireti (by decide +kernel) rfl⟩
set_option maxRecDepth 100000 in
theorem I_X7_learnedWeight : (∀ (a : Nat) (p0 : Int32) (p1 : Int32) (p2 : Int32) (h : zH), zC 65 [.ref a, .int p0, .int p1, .int p2] h = zD 65 0 [some (.ref a), some (.int p0), some (.int p1), some (.int p2), none] [] h) :=
  fun a p0 p1 p2 h => zC_def rfl
set_option maxRecDepth 100000 in
theorem E_X8_restart : (∀ (l1 : Option Value) (x : Nat) (S : List Value) (h : zH), zD 66 0 [some (.ref x), l1] S h = zD 66 1 [some (.ref x), l1] (.ref x :: S) h) ∧
  (∀ (l0 l1 : Option Value) (S : List Value) (h : zH), zD 66 1 [l0, l1] S h = zD 66 2 [l0, l1] (.int (0 : Int32) :: S) h) ∧
  (∀ (l0 l1 : Option Value) (v : Int32) (a : Nat) (r : List Value) (h : zH) (hx : zfok (h.2.2 a) 7 1 = true), zD 66 2 [l0, l1] (.int v :: .ref a :: r) h = zD 66 5 [l0, l1] r (zw h a (zfs' (h.2.2 a) 1 (.int v)))) ∧
  (∀ (l1 : Option Value) (x : Nat) (S : List Value) (h : zH), zD 66 5 [some (.ref x), l1] S h = zD 66 6 [some (.ref x), l1] (.ref x :: S) h) ∧
  (∀ (l0 l1 : Option Value) (S : List Value) (h : zH), zD 66 6 [l0, l1] S h = zD 66 7 [l0, l1] (.int (1 : Int32) :: S) h) ∧
  (∀ (l0 : Option Value) (x : Int32) (S : List Value) (h : zH), zD 66 7 [l0, some (.int x)] S h = zD 66 8 [l0, some (.int x)] (.int x :: S) h) ∧
  (∀ (l0 l1 : Option Value) (S : List Value) (h : zH), zD 66 8 [l0, l1] S h = zD 66 10 [l0, l1] (.int (31 : Int32) :: S) h) ∧
  (∀ (l0 l1 : Option Value) (x y : Int32) (r : List Value) (h : zH) (hcat : zcat r ≤ 8), zD 66 10 [l0, l1] (.int y :: .int x :: r) h = zD 66 13 [l0, l1] (.int (if y < x then y else x) :: r) h) ∧
  (∀ (l0 l1 : Option Value) (x y : Int32) (r : List Value) (h : zH) (hcat : zcat r ≤ 8), zD 66 13 [l0, l1] (.int y :: .int x :: r) h = zD 66 16 [l0, l1] (.int (if x < y then y else x) :: r) h) ∧
  (∀ (l0 l1 : Option Value) (v : Int32) (a : Nat) (r : List Value) (h : zH) (hx : zfok (h.2.2 a) 7 2 = true), zD 66 16 [l0, l1] (.int v :: .ref a :: r) h = zD 66 19 [l0, l1] r (zw h a (zfs' (h.2.2 a) 2 (.int v)))) ∧
  (∀ (l0 l1 : Option Value) (h : zH), zD 66 19 [l0, l1] [] h = some (none, h)) :=
  ⟨fun l1 x S h => zD_op (ins := .aload_n 0) (len := 1) (c := (1, [some (.ref x), l1], (.ref x :: S), h)) (by decide +kernel) rfl rfl rfl rfl,
  fun l0 l1 S h => zD_icst (n := 0) (by decide +kernel) (by decide +kernel),
  fun l0 l1 v a r h hx => zD_putf (i := 20) (ci := 7) (k := 1) (q := (136, 0)) (by decide +kernel) (by decide +kernel) (by decide +kernel) hx rfl rfl,
  fun l1 x S h => zD_op (ins := .aload_n 0) (len := 1) (c := (6, [some (.ref x), l1], (.ref x :: S), h)) (by decide +kernel) rfl rfl rfl rfl,
  fun l0 l1 S h => zD_icst (n := 1) (by decide +kernel) (by decide +kernel),
  fun l0 x S h => zD_op (ins := .iload_n 1) (len := 1) (c := (8, [l0, some (.int x)], (.int x :: S), h)) (by decide +kernel) rfl rfl rfl rfl,
  fun l0 l1 S h => zD_bip (n := 31) (by decide +kernel) (by decide +kernel),
  fun l0 l1 x y r h hcat => zD_min (i := 24) (q := 128) (by decide +kernel) (by decide +kernel) (by decide +kernel) (by decide +kernel) hcat,
  fun l0 l1 x y r h hcat => zD_max (i := 30) (q := 131) (by decide +kernel) (by decide +kernel) (by decide +kernel) (by decide +kernel) hcat,
  fun l0 l1 v a r h hx => zD_putf (i := 33) (ci := 7) (k := 2) (q := (138, 0)) (by decide +kernel) (by decide +kernel) (by decide +kernel) hx rfl rfl,
  fun l0 l1 h => zD_vret (by decide +kernel) rfl⟩
set_option maxRecDepth 100000 in
theorem I_X8_restart : (∀ (a : Nat) (p0 : Int32) (h : zH), zC 66 [.ref a, .int p0] h = zD 66 0 [some (.ref a), some (.int p0)] [] h) :=
  fun a p0 h => zC_def rfl
set_option maxRecDepth 100000 in
theorem E_X8_offerSome : (∀ (l0 l1 l2 l3 l4 l5 : Option Value) (S : List Value) (h : zH), zD 67 0 [l0, l1, l2, l3, l4, l5] S h = zD 67 1 [l0, l1, l2, l3, l4, l5] (.int (0 : Int32) :: S) h) ∧
  (∀ (l0 l1 l2 l3 l4 l5 : Option Value) (x : Int32) (r : List Value) (h : zH), zD 67 1 [l0, l1, l2, l3, l4, l5] (.int x :: r) h = zD 67 3 [l0, l1, l2, l3, zclr l4, some (.int x)] r h) ∧
  (∀ (l0 l2 l3 l4 l5 : Option Value) (x : Nat) (S : List Value) (h : zH), zD 67 5 [l0, some (.ref x), l2, l3, l4, l5] S h = zD 67 6 [l0, some (.ref x), l2, l3, l4, l5] (.ref x :: S) h) ∧
  (∀ (l0 l2 l3 l4 l5 : Option Value) (S : List Value) (h : zH), zD 67 5 [l0, some .null, l2, l3, l4, l5] S h = zD 67 6 [l0, some .null, l2, l3, l4, l5] (.null :: S) h) ∧
  (∀ (l0 l1 l2 l3 l4 l5 : Option Value) (a : Nat) (r : List Value) (h : zH) (hx : zfok (h.2.2 a) 7 1 = true), zD 67 6 [l0, l1, l2, l3, l4, l5] (.ref a :: r) h = zD 67 9 [l0, l1, l2, l3, l4, l5] (zfv (h.2.2 a) 1 :: r) h) ∧
  (∀ (l0 l1 l2 l3 l4 l5 : Option Value) (x y : Int32) (r : List Value) (h : zH), zD 67 9 [l0, l1, l2, l3, l4, l5] (.int y :: .int x :: r) h = if y ≤ x then zD 67 40 [l0, l1, l2, l3, l4, l5] r h else zD 67 12 [l0, l1, l2, l3, l4, l5] r h) ∧
  (∀ (l0 l1 l2 l3 l4 : Option Value) (x : Int32) (S : List Value) (h : zH), zD 67 12 [l0, l1, l2, l3, l4, some (.int x)] S h = zD 67 14 [l0, l1, l2, l3, l4, some (.int x)] (.int x :: S) h) ∧
  (∀ (l0 l1 l3 l4 l5 : Option Value) (x : Int32) (S : List Value) (h : zH), zD 67 14 [l0, l1, some (.int x), l3, l4, l5] S h = zD 67 15 [l0, l1, some (.int x), l3, l4, l5] (.int x :: S) h) ∧
  (∀ (l0 l1 l2 l3 l4 l5 : Option Value) (x y : Int32) (r : List Value) (h : zH), zD 67 15 [l0, l1, l2, l3, l4, l5] (.int y :: .int x :: r) h = if y ≤ x then zD 67 40 [l0, l1, l2, l3, l4, l5] r h else zD 67 18 [l0, l1, l2, l3, l4, l5] r h) ∧
  (∀ (l1 l2 l3 l4 l5 : Option Value) (x : Nat) (S : List Value) (h : zH), zD 67 18 [some (.ref x), l1, l2, l3, l4, l5] S h = zD 67 19 [some (.ref x), l1, l2, l3, l4, l5] (.ref x :: S) h) ∧
  (∀ (l0 l2 l3 l4 l5 : Option Value) (x : Nat) (S : List Value) (h : zH), zD 67 19 [l0, some (.ref x), l2, l3, l4, l5] S h = zD 67 20 [l0, some (.ref x), l2, l3, l4, l5] (.ref x :: S) h) ∧
  (∀ (l0 l2 l3 l4 l5 : Option Value) (S : List Value) (h : zH), zD 67 19 [l0, some .null, l2, l3, l4, l5] S h = zD 67 20 [l0, some .null, l2, l3, l4, l5] (.null :: S) h) ∧
  (∀ (l0 l1 l2 l3 l4 l5 : Option Value) (a : Nat) (r : List Value) (h : zH) (hx : zfok (h.2.2 a) 7 0 = true), zD 67 20 [l0, l1, l2, l3, l4, l5] (.ref a :: r) h = zD 67 23 [l0, l1, l2, l3, l4, l5] (zfv (h.2.2 a) 0 :: r) h) ∧
  (∀ (l0 l1 l2 l3 l4 : Option Value) (x : Int32) (S : List Value) (h : zH), zD 67 23 [l0, l1, l2, l3, l4, some (.int x)] S h = zD 67 25 [l0, l1, l2, l3, l4, some (.int x)] (.int x :: S) h) ∧
  (∀ (l0 l1 l2 l3 l4 l5 : Option Value) (i : Int32) (a : Nat) (r : List Value) (h : zH) (hx : zlok (h.2.2 a) i = true), zD 67 25 [l0, l1, l2, l3, l4, l5] (.int i :: .ref a :: r) h = zD 67 26 [l0, l1, l2, l3, l4, l5] (.long (zlv' (h.2.2 a) i) :: r) h) ∧
  (∀ (l0 l1 l2 l4 l5 : Option Value) (x : Int64) (S : List Value) (h : zH), zD 67 26 [l0, l1, l2, some (.long x), l4, l5] S h = zD 67 27 [l0, l1, l2, some (.long x), l4, l5] (.long x :: S) h) ∧
  (∀ (l0 l1 l2 l3 l4 l5 : Option Value) (x y : Int64) (r : List Value) (h : zH), zD 67 27 [l0, l1, l2, l3, l4, l5] (.long y :: .long x :: r) h = zD 67 28 [l0, l1, l2, l3, l4, l5] (.long (x + y) :: r) h) ∧
  (∀ (l0 l1 l2 l3 l4 l5 : Option Value) (p0 : Int64) (a : Nat) (r : List Value) (h : zH) (hcat : zcat r ≤ 8) (hr : zis (h.2.2 a) 7 = true) (hC : (zC 20 (.ref a :: [.long p0]) h).isSome = true), zD 67 28 [l0, l1, l2, l3, l4, l5] (.long p0 :: .ref a :: r) h = zD 67 31 [l0, l1, l2, l3, l4, l5] (zgv (zC 20 (.ref a :: [.long p0]) h) ++ r) (zgh h (zC 20 (.ref a :: [.long p0]) h))) ∧
  (∀ (l0 l1 l2 l3 l4 l5 : Option Value) (x : Int32) (r : List Value) (h : zH), zD 67 31 [l0, l1, l2, l3, l4, l5] (.int x :: r) h = if x = 0 then zD 67 40 [l0, l1, l2, l3, l4, l5] r h else zD 67 34 [l0, l1, l2, l3, l4, l5] r h) ∧
  (∀ (l0 l1 l2 l3 l4 : Option Value) (x : Int32) (S : List Value) (h : zH), zD 67 34 [l0, l1, l2, l3, l4, some (.int x)] S h = zD 67 37 [l0, l1, l2, l3, zclr l4, some (.int (x + (1 : Int32)))] S h) ∧
  (∀ (l0 l1 l2 l3 l4 l5 : Option Value) (S : List Value) (h : zH), zD 67 37 [l0, l1, l2, l3, l4, l5] S h = zD 67 3 [l0, l1, l2, l3, l4, l5] S h) ∧
  (∀ (l0 l1 l2 l3 l4 : Option Value) (x : Int32) (S : List Value) (h : zH), zD 67 40 [l0, l1, l2, l3, l4, some (.int x)] S h = zD 67 42 [l0, l1, l2, l3, l4, some (.int x)] (.int x :: S) h) ∧
  (∀ (l0 l1 l2 l3 l4 l5 : Option Value) (x : Int32) (r : List Value) (h : zH), zD 67 42 [l0, l1, l2, l3, l4, l5] (.int x :: r) h = if x ≤ 0 then zD 67 49 [l0, l1, l2, l3, l4, l5] r h else zD 67 45 [l0, l1, l2, l3, l4, l5] r h) ∧
  (∀ (l0 l1 l2 l3 l4 l5 : Option Value) (S : List Value) (h : zH), zD 67 45 [l0, l1, l2, l3, l4, l5] S h = zD 67 46 [l0, l1, l2, l3, l4, l5] (.int (1 : Int32) :: S) h) ∧
  (∀ (l0 l1 l2 l3 l4 l5 : Option Value) (S : List Value) (h : zH), zD 67 46 [l0, l1, l2, l3, l4, l5] S h = zD 67 50 [l0, l1, l2, l3, l4, l5] S h) ∧
  (∀ (l0 l1 l2 l3 l4 l5 : Option Value) (S : List Value) (h : zH), zD 67 49 [l0, l1, l2, l3, l4, l5] S h = zD 67 50 [l0, l1, l2, l3, l4, l5] (.int (0 : Int32) :: S) h) ∧
  (∀ (l0 l1 l2 l3 l4 l5 : Option Value) (v : Int32) (h : zH) (hv : zbv v), zD 67 50 [l0, l1, l2, l3, l4, l5] [.int v] h = some (some (.int v), h)) :=
  ⟨fun l0 l1 l2 l3 l4 l5 S h => zD_icst (n := 0) (by decide +kernel) (by decide +kernel),
  fun l0 l1 l2 l3 l4 l5 x r h => zD_st1 (k := 5) (ins := .istore 5) (len := 2) (by decide +kernel) rfl rfl rfl (by decide +kernel) rfl rfl,
  fun l0 l2 l3 l4 l5 x S h => zD_op (ins := .aload_n 1) (len := 1) (c := (6, [l0, some (.ref x), l2, l3, l4, l5], (.ref x :: S), h)) (by decide +kernel) rfl rfl rfl rfl,
  fun l0 l2 l3 l4 l5 S h => zD_op (ins := .aload_n 1) (len := 1) (c := (6, [l0, some .null, l2, l3, l4, l5], (.null :: S), h)) (by decide +kernel) rfl rfl rfl rfl,
  fun l0 l1 l2 l3 l4 l5 a r h hx => zD_getf (i := 20) (ci := 7) (k := 1) (q := (136, 0)) (by decide +kernel) (by decide +kernel) hx,
  fun l0 l1 l2 l3 l4 l5 x y r h => zD_if (cnd := .ge) (off := 31) (by decide +kernel) (by decide) rfl,
  fun l0 l1 l2 l3 l4 x S h => zD_op (ins := .iload 5) (len := 2) (c := (14, [l0, l1, l2, l3, l4, some (.int x)], (.int x :: S), h)) (by decide +kernel) rfl rfl rfl rfl,
  fun l0 l1 l3 l4 l5 x S h => zD_op (ins := .iload_n 2) (len := 1) (c := (15, [l0, l1, some (.int x), l3, l4, l5], (.int x :: S), h)) (by decide +kernel) rfl rfl rfl rfl,
  fun l0 l1 l2 l3 l4 l5 x y r h => zD_if (cnd := .ge) (off := 25) (by decide +kernel) (by decide) rfl,
  fun l1 l2 l3 l4 l5 x S h => zD_op (ins := .aload_n 0) (len := 1) (c := (19, [some (.ref x), l1, l2, l3, l4, l5], (.ref x :: S), h)) (by decide +kernel) rfl rfl rfl rfl,
  fun l0 l2 l3 l4 l5 x S h => zD_op (ins := .aload_n 1) (len := 1) (c := (20, [l0, some (.ref x), l2, l3, l4, l5], (.ref x :: S), h)) (by decide +kernel) rfl rfl rfl rfl,
  fun l0 l2 l3 l4 l5 S h => zD_op (ins := .aload_n 1) (len := 1) (c := (20, [l0, some .null, l2, l3, l4, l5], (.null :: S), h)) (by decide +kernel) rfl rfl rfl rfl,
  fun l0 l1 l2 l3 l4 l5 a r h hx => zD_getf (i := 9) (ci := 7) (k := 0) (q := (134, 0)) (by decide +kernel) (by decide +kernel) hx,
  fun l0 l1 l2 l3 l4 x S h => zD_op (ins := .iload 5) (len := 2) (c := (25, [l0, l1, l2, l3, l4, some (.int x)], (.int x :: S), h)) (by decide +kernel) rfl rfl rfl rfl,
  fun l0 l1 l2 l3 l4 l5 i a r h hx => zD_lald (by decide +kernel) hx,
  fun l0 l1 l2 l4 l5 x S h => zD_op (ins := .lload_n 3) (len := 1) (c := (27, [l0, l1, l2, some (.long x), l4, l5], (.long x :: S), h)) (by decide +kernel) rfl rfl rfl rfl,
  fun l0 l1 l2 l3 l4 l5 x y r h => zD_op (ins := .ladd) (len := 1) (c := (28, [l0, l1, l2, l3, l4, l5], (.long (x + y) :: r), h)) (by decide +kernel) rfl rfl rfl rfl,
  fun l0 l1 l2 l3 l4 l5 p0 a r h hcat hr hC => zD_callv (i := 36) (y := 20) (n := 1) (as := [.long p0]) (ci := 7) (by decide +kernel) (by decide +kernel) rfl (by decide +kernel) (Nat.le_of_ble_eq_true rfl) (by decide +kernel) hcat hr hC,
  fun l0 l1 l2 l3 l4 l5 x r h => zD_if0 (cnd := .eq) (off := 9) (by decide +kernel) (by decide) rfl,
  fun l0 l1 l2 l3 l4 x S h => zD_iinc (k := 5) (x := x) (c := (1 : Int32)) (n := 1) (by decide +kernel) (by decide +kernel) rfl (by decide +kernel) rfl,
  fun l0 l1 l2 l3 l4 l5 S h => zD_goto (off := (-34)) (by decide +kernel) (by decide),
  fun l0 l1 l2 l3 l4 x S h => zD_op (ins := .iload 5) (len := 2) (c := (42, [l0, l1, l2, l3, l4, some (.int x)], (.int x :: S), h)) (by decide +kernel) rfl rfl rfl rfl,
  fun l0 l1 l2 l3 l4 l5 x r h => zD_if0 (cnd := .le) (off := 7) (by decide +kernel) (by decide) rfl,
  fun l0 l1 l2 l3 l4 l5 S h => zD_icst (n := 1) (by decide +kernel) (by decide +kernel),
  fun l0 l1 l2 l3 l4 l5 S h => zD_goto (off := 4) (by decide +kernel) (by decide),
  fun l0 l1 l2 l3 l4 l5 S h => zD_icst (n := 0) (by decide +kernel) (by decide +kernel),
  fun l0 l1 l2 l3 l4 l5 v h hv => zD_iretz (by decide +kernel) rfl hv⟩
set_option maxRecDepth 100000 in
theorem E_X8_offerSome_h3 : (∀ (l0 l1 l2 l3 l4 : Option Value) (x : Int32) (S : List Value) (h : zH), zD 67 3 [l0, l1, l2, l3, l4, some (.int x)] S h = zD 67 5 [l0, l1, l2, l3, l4, some (.int x)] (.int x :: S) h) :=
  fun l0 l1 l2 l3 l4 x S h => zD_op (ins := .iload 5) (len := 2) (c := (5, [l0, l1, l2, l3, l4, some (.int x)], (.int x :: S), h)) (by decide +kernel) rfl rfl rfl rfl
set_option maxRecDepth 100000 in
theorem I_X8_offerSome : (∀ (a : Nat) (p0 : Nat) (p1 : Int32) (p2 : Int64) (h : zH), zC 67 [.ref a, .ref p0, .int p1, .long p2] h = zD 67 0 [some (.ref a), some (.ref p0), some (.int p1), some (.long p2), none, none] [] h) :=
  fun a p0 p1 p2 h => zC_def rfl
set_option maxRecDepth 100000 in
theorem E_X9_tag : (∀ (l1 l2 l3 : Option Value) (x : Nat) (S : List Value) (h : zH), zD 68 0 [some (.ref x), l1, l2, l3] S h = zD 68 1 [some (.ref x), l1, l2, l3] (.ref x :: S) h) ∧
  (∀ (l0 l1 l2 l3 : Option Value) (a : Nat) (r : List Value) (h : zH) (hx : zfok (h.2.2 a) 8 0 = true), zD 68 1 [l0, l1, l2, l3] (.ref a :: r) h = zD 68 4 [l0, l1, l2, l3] (zfv (h.2.2 a) 0 :: r) h) ∧
  (∀ (l0 l2 l3 : Option Value) (x : Int32) (S : List Value) (h : zH), zD 68 4 [l0, some (.int x), l2, l3] S h = zD 68 5 [l0, some (.int x), l2, l3] (.int x :: S) h) ∧
  (∀ (l0 l1 l2 l3 : Option Value) (p0 : Int32) (a : Nat) (r : List Value) (h : zH) (hcat : zcat r ≤ 8) (hr : zis (h.2.2 a) 3 = true) (hC : (zC 5 (.ref a :: [.int p0]) h).isSome = true), zD 68 5 [l0, l1, l2, l3] (.int p0 :: .ref a :: r) h = zD 68 8 [l0, l1, l2, l3] (zgv (zC 5 (.ref a :: [.int p0]) h) ++ r) (zgh h (zC 5 (.ref a :: [.int p0]) h))) ∧
  (∀ (l0 l1 l2 l3 : Option Value) (x : Int32) (r : List Value) (h : zH), zD 68 8 [l0, l1, l2, l3] (.int x :: r) h = if ¬ x = 0 then zD 68 14 [l0, l1, l2, l3] r h else zD 68 11 [l0, l1, l2, l3] r h) ∧
  (∀ (l0 l1 l2 l3 : Option Value) (S : List Value) (h : zH), zD 68 11 [l0, l1, l2, l3] S h = zD 68 13 [l0, l1, l2, l3] (.int (-101 : Int32) :: S) h) ∧
  (∀ (l0 l1 l2 l3 : Option Value) (v : Int32) (h : zH), zD 68 13 [l0, l1, l2, l3] [.int v] h = some (some (.int v), h)) ∧
  (∀ (l0 l1 l3 : Option Value) (x : Int32) (S : List Value) (h : zH), zD 68 14 [l0, l1, some (.int x), l3] S h = zD 68 15 [l0, l1, some (.int x), l3] (.int x :: S) h) ∧
  (∀ (l0 l1 l2 l3 : Option Value) (p0 : Int32) (r : List Value) (h : zH) (hcat : zcat r ≤ 8) (hC : (zC 23 [.int p0] h).isSome = true), zD 68 15 [l0, l1, l2, l3] (.int p0 :: r) h = zD 68 18 [l0, l1, l2, l3] (zgv (zC 23 [.int p0] h) ++ r) (zgh h (zC 23 [.int p0] h))) ∧
  (∀ (l0 l1 l2 l3 : Option Value) (x : Int32) (r : List Value) (h : zH), zD 68 18 [l0, l1, l2, l3] (.int x :: r) h = if ¬ x = 0 then zD 68 24 [l0, l1, l2, l3] r h else zD 68 21 [l0, l1, l2, l3] r h) ∧
  (∀ (l0 l1 l2 l3 : Option Value) (S : List Value) (h : zH), zD 68 21 [l0, l1, l2, l3] S h = zD 68 23 [l0, l1, l2, l3] (.int (-102 : Int32) :: S) h) ∧
  (∀ (l0 l1 l2 l3 : Option Value) (v : Int32) (h : zH), zD 68 23 [l0, l1, l2, l3] [.int v] h = some (some (.int v), h)) ∧
  (∀ (l1 l2 l3 : Option Value) (x : Nat) (S : List Value) (h : zH), zD 68 24 [some (.ref x), l1, l2, l3] S h = zD 68 25 [some (.ref x), l1, l2, l3] (.ref x :: S) h) ∧
  (∀ (l0 l1 l2 l3 : Option Value) (a : Nat) (r : List Value) (h : zH) (hx : zfok (h.2.2 a) 8 0 = true), zD 68 25 [l0, l1, l2, l3] (.ref a :: r) h = zD 68 28 [l0, l1, l2, l3] (zfv (h.2.2 a) 0 :: r) h) ∧
  (∀ (l0 l1 l2 l3 : Option Value) (a : Nat) (r : List Value) (h : zH) (hx : zfok (h.2.2 a) 3 0 = true), zD 68 28 [l0, l1, l2, l3] (.ref a :: r) h = zD 68 31 [l0, l1, l2, l3] (zfv (h.2.2 a) 0 :: r) h) ∧
  (∀ (l0 l2 l3 : Option Value) (x : Int32) (S : List Value) (h : zH), zD 68 31 [l0, some (.int x), l2, l3] S h = zD 68 32 [l0, some (.int x), l2, l3] (.int x :: S) h) ∧
  (∀ (l0 l1 l2 l3 : Option Value) (i : Int32) (a : Nat) (r : List Value) (h : zH) (hx : ziok a (h.2.2 a) i = true), zD 68 32 [l0, l1, l2, l3] (.int i :: .ref a :: r) h = zD 68 33 [l0, l1, l2, l3] (.int (ziv (h.2.2 a) i) :: r) h) ∧
  (∀ (l0 l1 l2 l3 : Option Value) (x : Int32) (r : List Value) (h : zH), zD 68 33 [l0, l1, l2, l3] (.int x :: r) h = zD 68 34 [l0, l1, zclr l2, some (.int x)] r h) ∧
  (∀ (l1 l2 l3 : Option Value) (x : Nat) (S : List Value) (h : zH), zD 68 34 [some (.ref x), l1, l2, l3] S h = zD 68 35 [some (.ref x), l1, l2, l3] (.ref x :: S) h) ∧
  (∀ (l0 l1 l2 l3 : Option Value) (a : Nat) (r : List Value) (h : zH) (hx : zfok (h.2.2 a) 8 0 = true), zD 68 35 [l0, l1, l2, l3] (.ref a :: r) h = zD 68 38 [l0, l1, l2, l3] (zfv (h.2.2 a) 0 :: r) h) ∧
  (∀ (l0 l1 l2 l3 : Option Value) (a : Nat) (r : List Value) (h : zH) (hx : zfok (h.2.2 a) 3 0 = true), zD 68 38 [l0, l1, l2, l3] (.ref a :: r) h = zD 68 41 [l0, l1, l2, l3] (zfv (h.2.2 a) 0 :: r) h) ∧
  (∀ (l0 l2 l3 : Option Value) (x : Int32) (S : List Value) (h : zH), zD 68 41 [l0, some (.int x), l2, l3] S h = zD 68 42 [l0, some (.int x), l2, l3] (.int x :: S) h) ∧
  (∀ (l0 l1 l3 : Option Value) (x : Int32) (S : List Value) (h : zH), zD 68 42 [l0, l1, some (.int x), l3] S h = zD 68 43 [l0, l1, some (.int x), l3] (.int x :: S) h) ∧
  (∀ (l0 l1 l2 l3 : Option Value) (w i : Int32) (a : Nat) (r : List Value) (h : zH) (hx : zpok (h.2.2 a) i = true), zD 68 43 [l0, l1, l2, l3] (.int w :: .int i :: .ref a :: r) h = zD 68 44 [l0, l1, l2, l3] r (zw h a (zis' (h.2.2 a) i w))) ∧
  (∀ (l0 l1 l2 : Option Value) (x : Int32) (S : List Value) (h : zH), zD 68 44 [l0, l1, l2, some (.int x)] S h = zD 68 45 [l0, l1, l2, some (.int x)] (.int x :: S) h) ∧
  (∀ (l0 l1 l2 l3 : Option Value) (v : Int32) (h : zH), zD 68 45 [l0, l1, l2, l3] [.int v] h = some (some (.int v), h)) :=
  ⟨fun l1 l2 l3 x S h => zD_op (ins := .aload_n 0) (len := 1) (c := (1, [some (.ref x), l1, l2, l3], (.ref x :: S), h)) (by decide +kernel) rfl rfl rfl rfl,
  fun l0 l1 l2 l3 a r h hx => zD_getf (i := 12) (ci := 8) (k := 0) (q := (248, 0)) (by decide +kernel) (by decide +kernel) hx,
  fun l0 l2 l3 x S h => zD_op (ins := .iload_n 1) (len := 1) (c := (5, [l0, some (.int x), l2, l3], (.int x :: S), h)) (by decide +kernel) rfl rfl rfl rfl,
  fun l0 l1 l2 l3 p0 a r h hcat hr hC => zD_callv (i := 72) (y := 5) (n := 1) (as := [.int p0]) (ci := 3) (by decide +kernel) (by decide +kernel) rfl (by decide +kernel) (Nat.le_of_ble_eq_true rfl) (by decide +kernel) hcat hr hC,
  fun l0 l1 l2 l3 x r h => zD_if0 (cnd := .ne) (off := 6) (by decide +kernel) (by decide) rfl,
  fun l0 l1 l2 l3 S h => zD_bip (n := (-101)) (by decide +kernel) (by decide +kernel),
  fun l0 l1 l2 l3 v h => zD_ireti (by decide +kernel) rfl,
  fun l0 l1 l3 x S h => zD_op (ins := .iload_n 2) (len := 1) (c := (15, [l0, l1, some (.int x), l3], (.int x :: S), h)) (by decide +kernel) rfl rfl rfl rfl,
  fun l0 l1 l2 l3 p0 r h hcat hC => zD_calls (i := 76) (y := 23) (n := 1) (as := [.int p0]) (by decide +kernel) (by decide +kernel) rfl (by decide +kernel) (Nat.le_of_ble_eq_true rfl) hcat hC,
  fun l0 l1 l2 l3 x r h => zD_if0 (cnd := .ne) (off := 6) (by decide +kernel) (by decide) rfl,
  fun l0 l1 l2 l3 S h => zD_bip (n := (-102)) (by decide +kernel) (by decide +kernel),
  fun l0 l1 l2 l3 v h => zD_ireti (by decide +kernel) rfl,
  fun l1 l2 l3 x S h => zD_op (ins := .aload_n 0) (len := 1) (c := (25, [some (.ref x), l1, l2, l3], (.ref x :: S), h)) (by decide +kernel) rfl rfl rfl rfl,
  fun l0 l1 l2 l3 a r h hx => zD_getf (i := 12) (ci := 8) (k := 0) (q := (248, 0)) (by decide +kernel) (by decide +kernel) hx,
  fun l0 l1 l2 l3 a r h hx => zD_getf (i := 79) (ci := 3) (k := 0) (q := (79, 1)) (by decide +kernel) (by decide +kernel) hx,
  fun l0 l2 l3 x S h => zD_op (ins := .iload_n 1) (len := 1) (c := (32, [l0, some (.int x), l2, l3], (.int x :: S), h)) (by decide +kernel) rfl rfl rfl rfl,
  fun l0 l1 l2 l3 i a r h hx => zD_iald (by decide +kernel) hx,
  fun l0 l1 l2 l3 x r h => zD_st1 (k := 3) (ins := .istore_n 3) (len := 1) (by decide +kernel) rfl rfl rfl (by decide +kernel) rfl rfl,
  fun l1 l2 l3 x S h => zD_op (ins := .aload_n 0) (len := 1) (c := (35, [some (.ref x), l1, l2, l3], (.ref x :: S), h)) (by decide +kernel) rfl rfl rfl rfl,
  fun l0 l1 l2 l3 a r h hx => zD_getf (i := 12) (ci := 8) (k := 0) (q := (248, 0)) (by decide +kernel) (by decide +kernel) hx,
  fun l0 l1 l2 l3 a r h hx => zD_getf (i := 79) (ci := 3) (k := 0) (q := (79, 1)) (by decide +kernel) (by decide +kernel) hx,
  fun l0 l2 l3 x S h => zD_op (ins := .iload_n 1) (len := 1) (c := (42, [l0, some (.int x), l2, l3], (.int x :: S), h)) (by decide +kernel) rfl rfl rfl rfl,
  fun l0 l1 l3 x S h => zD_op (ins := .iload_n 2) (len := 1) (c := (43, [l0, l1, some (.int x), l3], (.int x :: S), h)) (by decide +kernel) rfl rfl rfl rfl,
  fun l0 l1 l2 l3 w i a r h hx => zD_iast (by decide +kernel) hx,
  fun l0 l1 l2 x S h => zD_op (ins := .iload_n 3) (len := 1) (c := (45, [l0, l1, l2, some (.int x)], (.int x :: S), h)) (by decide +kernel) rfl rfl rfl rfl,
  fun l0 l1 l2 l3 v h => zD_ireti (by decide +kernel) rfl⟩
set_option maxRecDepth 100000 in
theorem I_X9_tag : (∀ (a : Nat) (p0 : Int32) (p1 : Int32) (h : zH), zC 68 [.ref a, .int p0, .int p1] h = zD 68 0 [some (.ref a), some (.int p0), some (.int p1), none] [] h) :=
  fun a p0 p1 h => zC_def rfl
set_option maxRecDepth 100000 in
theorem E_X9_headOf : (∀ (l1 : Option Value) (x : Nat) (S : List Value) (h : zH), zD 69 0 [some (.ref x), l1] S h = zD 69 1 [some (.ref x), l1] (.ref x :: S) h) ∧
  (∀ (l0 l1 : Option Value) (a : Nat) (r : List Value) (h : zH) (hx : zfok (h.2.2 a) 8 0 = true), zD 69 1 [l0, l1] (.ref a :: r) h = zD 69 4 [l0, l1] (zfv (h.2.2 a) 0 :: r) h) ∧
  (∀ (l0 : Option Value) (x : Int32) (S : List Value) (h : zH), zD 69 4 [l0, some (.int x)] S h = zD 69 5 [l0, some (.int x)] (.int x :: S) h) ∧
  (∀ (l0 l1 : Option Value) (p0 : Int32) (a : Nat) (r : List Value) (h : zH) (hcat : zcat r ≤ 8) (hr : zis (h.2.2 a) 3 = true) (hC : (zC 5 (.ref a :: [.int p0]) h).isSome = true), zD 69 5 [l0, l1] (.int p0 :: .ref a :: r) h = zD 69 8 [l0, l1] (zgv (zC 5 (.ref a :: [.int p0]) h) ++ r) (zgh h (zC 5 (.ref a :: [.int p0]) h))) ∧
  (∀ (l0 l1 : Option Value) (x : Int32) (r : List Value) (h : zH), zD 69 8 [l0, l1] (.int x :: r) h = if x = 0 then zD 69 23 [l0, l1] r h else zD 69 11 [l0, l1] r h) ∧
  (∀ (l1 : Option Value) (x : Nat) (S : List Value) (h : zH), zD 69 11 [some (.ref x), l1] S h = zD 69 12 [some (.ref x), l1] (.ref x :: S) h) ∧
  (∀ (l0 l1 : Option Value) (a : Nat) (r : List Value) (h : zH) (hx : zfok (h.2.2 a) 8 0 = true), zD 69 12 [l0, l1] (.ref a :: r) h = zD 69 15 [l0, l1] (zfv (h.2.2 a) 0 :: r) h) ∧
  (∀ (l0 l1 : Option Value) (a : Nat) (r : List Value) (h : zH) (hx : zfok (h.2.2 a) 3 1 = true), zD 69 15 [l0, l1] (.ref a :: r) h = zD 69 18 [l0, l1] (zfv (h.2.2 a) 1 :: r) h) ∧
  (∀ (l0 : Option Value) (x : Int32) (S : List Value) (h : zH), zD 69 18 [l0, some (.int x)] S h = zD 69 19 [l0, some (.int x)] (.int x :: S) h) ∧
  (∀ (l0 l1 : Option Value) (i : Int32) (a : Nat) (r : List Value) (h : zH) (hx : ziok a (h.2.2 a) i = true), zD 69 19 [l0, l1] (.int i :: .ref a :: r) h = zD 69 20 [l0, l1] (.int (ziv (h.2.2 a) i) :: r) h) ∧
  (∀ (l0 l1 : Option Value) (S : List Value) (h : zH), zD 69 20 [l0, l1] S h = zD 69 24 [l0, l1] S h) ∧
  (∀ (l0 l1 : Option Value) (S : List Value) (h : zH), zD 69 23 [l0, l1] S h = zD 69 24 [l0, l1] (.int (-1 : Int32) :: S) h) ∧
  (∀ (l0 l1 : Option Value) (v : Int32) (h : zH), zD 69 24 [l0, l1] [.int v] h = some (some (.int v), h)) :=
  ⟨fun l1 x S h => zD_op (ins := .aload_n 0) (len := 1) (c := (1, [some (.ref x), l1], (.ref x :: S), h)) (by decide +kernel) rfl rfl rfl rfl,
  fun l0 l1 a r h hx => zD_getf (i := 12) (ci := 8) (k := 0) (q := (248, 0)) (by decide +kernel) (by decide +kernel) hx,
  fun l0 x S h => zD_op (ins := .iload_n 1) (len := 1) (c := (5, [l0, some (.int x)], (.int x :: S), h)) (by decide +kernel) rfl rfl rfl rfl,
  fun l0 l1 p0 a r h hcat hr hC => zD_callv (i := 72) (y := 5) (n := 1) (as := [.int p0]) (ci := 3) (by decide +kernel) (by decide +kernel) rfl (by decide +kernel) (Nat.le_of_ble_eq_true rfl) (by decide +kernel) hcat hr hC,
  fun l0 l1 x r h => zD_if0 (cnd := .eq) (off := 15) (by decide +kernel) (by decide) rfl,
  fun l1 x S h => zD_op (ins := .aload_n 0) (len := 1) (c := (12, [some (.ref x), l1], (.ref x :: S), h)) (by decide +kernel) rfl rfl rfl rfl,
  fun l0 l1 a r h hx => zD_getf (i := 12) (ci := 8) (k := 0) (q := (248, 0)) (by decide +kernel) (by decide +kernel) hx,
  fun l0 l1 a r h hx => zD_getf (i := 100) (ci := 3) (k := 1) (q := (84, 1)) (by decide +kernel) (by decide +kernel) hx,
  fun l0 x S h => zD_op (ins := .iload_n 1) (len := 1) (c := (19, [l0, some (.int x)], (.int x :: S), h)) (by decide +kernel) rfl rfl rfl rfl,
  fun l0 l1 i a r h hx => zD_iald (by decide +kernel) hx,
  fun l0 l1 S h => zD_goto (off := 4) (by decide +kernel) (by decide),
  fun l0 l1 S h => zD_icst (n := (-1)) (by decide +kernel) (by decide +kernel),
  fun l0 l1 v h => zD_ireti (by decide +kernel) rfl⟩
set_option maxRecDepth 100000 in
theorem I_X9_headOf : (∀ (a : Nat) (p0 : Int32) (h : zH), zC 69 [.ref a, .int p0] h = zD 69 0 [some (.ref a), some (.int p0)] [] h) :=
  fun a p0 h => zC_def rfl
set_option maxRecDepth 100000 in
theorem E_X9_table : (∀ (l0 l2 l3 : Option Value) (x : Int32) (S : List Value) (h : zH), zD 70 0 [l0, some (.int x), l2, l3] S h = zD 70 1 [l0, some (.int x), l2, l3] (.int x :: S) h) ∧
  (∀ (l0 l1 l2 l3 : Option Value) (x : Int32) (r : List Value) (h : zH), zD 70 1 [l0, l1, l2, l3] (.int x :: r) h = if x < 0 then zD 70 26 [l0, l1, l2, l3] r h else zD 70 4 [l0, l1, l2, l3] r h) ∧
  (∀ (l0 l2 l3 : Option Value) (x : Int32) (S : List Value) (h : zH), zD 70 4 [l0, some (.int x), l2, l3] S h = zD 70 5 [l0, some (.int x), l2, l3] (.int x :: S) h) ∧
  (∀ (l0 l1 l2 l3 : Option Value) (S : List Value) (h : zH), zD 70 5 [l0, l1, l2, l3] S h = zD 70 7 [l0, l1, l2, l3] (.int (10 : Int32) :: S) h) ∧
  (∀ (l0 l1 l2 l3 : Option Value) (x y : Int32) (r : List Value) (h : zH), zD 70 7 [l0, l1, l2, l3] (.int y :: .int x :: r) h = if y < x then zD 70 26 [l0, l1, l2, l3] r h else zD 70 10 [l0, l1, l2, l3] r h) ∧
  (∀ (l0 l1 l3 : Option Value) (x : Int32) (S : List Value) (h : zH), zD 70 10 [l0, l1, some (.int x), l3] S h = zD 70 11 [l0, l1, some (.int x), l3] (.int x :: S) h) ∧
  (∀ (l0 l1 l2 l3 : Option Value) (p0 : Int32) (r : List Value) (h : zH) (hcat : zcat r ≤ 8) (hC : (zC 23 [.int p0] h).isSome = true), zD 70 11 [l0, l1, l2, l3] (.int p0 :: r) h = zD 70 14 [l0, l1, l2, l3] (zgv (zC 23 [.int p0] h) ++ r) (zgh h (zC 23 [.int p0] h))) ∧
  (∀ (l0 l1 l2 l3 : Option Value) (x : Int32) (r : List Value) (h : zH), zD 70 14 [l0, l1, l2, l3] (.int x :: r) h = if x = 0 then zD 70 26 [l0, l1, l2, l3] r h else zD 70 17 [l0, l1, l2, l3] r h) ∧
  (∀ (l0 l1 l2 : Option Value) (x : Int32) (S : List Value) (h : zH), zD 70 17 [l0, l1, l2, some (.int x)] S h = zD 70 18 [l0, l1, l2, some (.int x)] (.int x :: S) h) ∧
  (∀ (l0 l1 l2 l3 : Option Value) (x : Int32) (r : List Value) (h : zH), zD 70 18 [l0, l1, l2, l3] (.int x :: r) h = if x < 0 then zD 70 26 [l0, l1, l2, l3] r h else zD 70 21 [l0, l1, l2, l3] r h) ∧
  (∀ (l0 l1 l2 : Option Value) (x : Int32) (S : List Value) (h : zH), zD 70 21 [l0, l1, l2, some (.int x)] S h = zD 70 22 [l0, l1, l2, some (.int x)] (.int x :: S) h) ∧
  (∀ (l0 l1 l2 l3 : Option Value) (S : List Value) (h : zH), zD 70 22 [l0, l1, l2, l3] S h = zD 70 23 [l0, l1, l2, l3] (.int (2 : Int32) :: S) h) ∧
  (∀ (l0 l1 l2 l3 : Option Value) (x y : Int32) (r : List Value) (h : zH), zD 70 23 [l0, l1, l2, l3] (.int y :: .int x :: r) h = if x < y then zD 70 29 [l0, l1, l2, l3] r h else zD 70 26 [l0, l1, l2, l3] r h) ∧
  (∀ (l0 l1 l2 l3 : Option Value) (S : List Value) (h : zH), zD 70 26 [l0, l1, l2, l3] S h = zD 70 28 [l0, l1, l2, l3] (.int (-102 : Int32) :: S) h) ∧
  (∀ (l0 l1 l2 l3 : Option Value) (v : Int32) (h : zH), zD 70 28 [l0, l1, l2, l3] [.int v] h = some (some (.int v), h)) ∧
  (∀ (l1 l2 l3 : Option Value) (x : Nat) (S : List Value) (h : zH), zD 70 29 [some (.ref x), l1, l2, l3] S h = zD 70 30 [some (.ref x), l1, l2, l3] (.ref x :: S) h) ∧
  (∀ (l0 l1 l2 l3 : Option Value) (a : Nat) (r : List Value) (h : zH) (hx : zfok (h.2.2 a) 8 5 = true), zD 70 30 [l0, l1, l2, l3] (.ref a :: r) h = zD 70 33 [l0, l1, l2, l3] (zfv (h.2.2 a) 5 :: r) h) ∧
  (∀ (l0 l1 l2 l3 : Option Value) (a : Nat) (r : List Value) (h : zH) (hx : zfok (h.2.2 a) 6 0 = true), zD 70 33 [l0, l1, l2, l3] (.ref a :: r) h = zD 70 36 [l0, l1, l2, l3] (zfv (h.2.2 a) 0 :: r) h) ∧
  (∀ (l0 l2 l3 : Option Value) (x : Int32) (S : List Value) (h : zH), zD 70 36 [l0, some (.int x), l2, l3] S h = zD 70 37 [l0, some (.int x), l2, l3] (.int x :: S) h) ∧
  (∀ (l0 l1 l3 : Option Value) (x : Int32) (S : List Value) (h : zH), zD 70 37 [l0, l1, some (.int x), l3] S h = zD 70 38 [l0, l1, some (.int x), l3] (.int x :: S) h) ∧
  (∀ (l0 l1 l2 : Option Value) (x : Int32) (S : List Value) (h : zH), zD 70 38 [l0, l1, l2, some (.int x)] S h = zD 70 39 [l0, l1, l2, some (.int x)] (.int x :: S) h) ∧
  (∀ (l0 l1 l2 l3 : Option Value) (p0 : Int32) (p1 : Int32) (p2 : Int32) (r : List Value) (h : zH) (hcat : zcat r ≤ 8) (hC : (zC 18 [.int p0, .int p1, .int p2] h).isSome = true), zD 70 39 [l0, l1, l2, l3] (.int p2 :: .int p1 :: .int p0 :: r) h = zD 70 42 [l0, l1, l2, l3] (zgv (zC 18 [.int p0, .int p1, .int p2] h) ++ r) (zgh h (zC 18 [.int p0, .int p1, .int p2] h))) ∧
  (∀ (l0 l1 l2 l3 : Option Value) (i : Int32) (a : Nat) (r : List Value) (h : zH) (hx : ziok a (h.2.2 a) i = true), zD 70 42 [l0, l1, l2, l3] (.int i :: .ref a :: r) h = zD 70 43 [l0, l1, l2, l3] (.int (ziv (h.2.2 a) i) :: r) h) ∧
  (∀ (l0 l1 l2 l3 : Option Value) (v : Int32) (h : zH), zD 70 43 [l0, l1, l2, l3] [.int v] h = some (some (.int v), h)) :=
  ⟨fun l0 l2 l3 x S h => zD_op (ins := .iload_n 1) (len := 1) (c := (1, [l0, some (.int x), l2, l3], (.int x :: S), h)) (by decide +kernel) rfl rfl rfl rfl,
  fun l0 l1 l2 l3 x r h => zD_if0 (cnd := .lt) (off := 25) (by decide +kernel) (by decide) rfl,
  fun l0 l2 l3 x S h => zD_op (ins := .iload_n 1) (len := 1) (c := (5, [l0, some (.int x), l2, l3], (.int x :: S), h)) (by decide +kernel) rfl rfl rfl rfl,
  fun l0 l1 l2 l3 S h => zD_bip (n := 10) (by decide +kernel) (by decide +kernel),
  fun l0 l1 l2 l3 x y r h => zD_if (cnd := .gt) (off := 19) (by decide +kernel) (by decide) rfl,
  fun l0 l1 l3 x S h => zD_op (ins := .iload_n 2) (len := 1) (c := (11, [l0, l1, some (.int x), l3], (.int x :: S), h)) (by decide +kernel) rfl rfl rfl rfl,
  fun l0 l1 l2 l3 p0 r h hcat hC => zD_calls (i := 76) (y := 23) (n := 1) (as := [.int p0]) (by decide +kernel) (by decide +kernel) rfl (by decide +kernel) (Nat.le_of_ble_eq_true rfl) hcat hC,
  fun l0 l1 l2 l3 x r h => zD_if0 (cnd := .eq) (off := 12) (by decide +kernel) (by decide) rfl,
  fun l0 l1 l2 x S h => zD_op (ins := .iload_n 3) (len := 1) (c := (18, [l0, l1, l2, some (.int x)], (.int x :: S), h)) (by decide +kernel) rfl rfl rfl rfl,
  fun l0 l1 l2 l3 x r h => zD_if0 (cnd := .lt) (off := 8) (by decide +kernel) (by decide) rfl,
  fun l0 l1 l2 x S h => zD_op (ins := .iload_n 3) (len := 1) (c := (22, [l0, l1, l2, some (.int x)], (.int x :: S), h)) (by decide +kernel) rfl rfl rfl rfl,
  fun l0 l1 l2 l3 S h => zD_icst (n := 2) (by decide +kernel) (by decide +kernel),
  fun l0 l1 l2 l3 x y r h => zD_if (cnd := .lt) (off := 6) (by decide +kernel) (by decide) rfl,
  fun l0 l1 l2 l3 S h => zD_bip (n := (-102)) (by decide +kernel) (by decide +kernel),
  fun l0 l1 l2 l3 v h => zD_ireti (by decide +kernel) rfl,
  fun l1 l2 l3 x S h => zD_op (ins := .aload_n 0) (len := 1) (c := (30, [some (.ref x), l1, l2, l3], (.ref x :: S), h)) (by decide +kernel) rfl rfl rfl rfl,
  fun l0 l1 l2 l3 a r h hx => zD_getf (i := 55) (ci := 8) (k := 5) (q := (253, 0)) (by decide +kernel) (by decide +kernel) hx,
  fun l0 l1 l2 l3 a r h hx => zD_getf (i := 198) (ci := 6) (k := 0) (q := (199, 1)) (by decide +kernel) (by decide +kernel) hx,
  fun l0 l2 l3 x S h => zD_op (ins := .iload_n 1) (len := 1) (c := (37, [l0, some (.int x), l2, l3], (.int x :: S), h)) (by decide +kernel) rfl rfl rfl rfl,
  fun l0 l1 l3 x S h => zD_op (ins := .iload_n 2) (len := 1) (c := (38, [l0, l1, some (.int x), l3], (.int x :: S), h)) (by decide +kernel) rfl rfl rfl rfl,
  fun l0 l1 l2 x S h => zD_op (ins := .iload_n 3) (len := 1) (c := (39, [l0, l1, l2, some (.int x)], (.int x :: S), h)) (by decide +kernel) rfl rfl rfl rfl,
  fun l0 l1 l2 l3 p0 p1 p2 r h hcat hC => zD_calls (i := 201) (y := 18) (n := 3) (as := [.int p0, .int p1, .int p2]) (by decide +kernel) (by decide +kernel) rfl (by decide +kernel) (Nat.le_of_ble_eq_true rfl) hcat hC,
  fun l0 l1 l2 l3 i a r h hx => zD_iald (by decide +kernel) hx,
  fun l0 l1 l2 l3 v h => zD_ireti (by decide +kernel) rfl⟩
set_option maxRecDepth 100000 in
theorem I_X9_table : (∀ (a : Nat) (p0 : Int32) (p1 : Int32) (p2 : Int32) (h : zH), zC 70 [.ref a, .int p0, .int p1, .int p2] h = zD 70 0 [some (.ref a), some (.int p0), some (.int p1), some (.int p2)] [] h) :=
  fun a p0 p1 p2 h => zC_def rfl
set_option maxRecDepth 100000 in
theorem E_X9_ask : (∀ (l0 l2 l3 l4 : Option Value) (x : Int32) (S : List Value) (h : zH), zD 71 0 [l0, some (.int x), l2, l3, l4] S h = zD 71 1 [l0, some (.int x), l2, l3, l4] (.int x :: S) h) ∧
  (∀ (l0 l1 l2 l3 l4 : Option Value) (S : List Value) (h : zH), zD 71 1 [l0, l1, l2, l3, l4] S h = zD 71 2 [l0, l1, l2, l3, l4] (.int (3 : Int32) :: S) h) ∧
  (∀ (l0 l1 l2 l3 l4 : Option Value) (x y : Int32) (r : List Value) (h : zH), zD 71 2 [l0, l1, l2, l3, l4] (.int y :: .int x :: r) h = if ¬ x = y then zD 71 12 [l0, l1, l2, l3, l4] r h else zD 71 5 [l0, l1, l2, l3, l4] r h) ∧
  (∀ (l0 l1 l2 l4 : Option Value) (x : Int32) (S : List Value) (h : zH), zD 71 5 [l0, l1, l2, some (.int x), l4] S h = zD 71 6 [l0, l1, l2, some (.int x), l4] (.int x :: S) h) ∧
  (∀ (l0 l1 l2 l3 l4 : Option Value) (p0 : Int32) (r : List Value) (h : zH) (hcat : zcat r ≤ 8) (hC : (zC 23 [.int p0] h).isSome = true), zD 71 6 [l0, l1, l2, l3, l4] (.int p0 :: r) h = zD 71 9 [l0, l1, l2, l3, l4] (zgv (zC 23 [.int p0] h) ++ r) (zgh h (zC 23 [.int p0] h))) ∧
  (∀ (l0 l1 l2 l3 l4 : Option Value) (S : List Value) (h : zH), zD 71 9 [l0, l1, l2, l3, l4] S h = zD 71 16 [l0, l1, l2, l3, l4] S h) ∧
  (∀ (l0 l1 l2 l4 : Option Value) (x : Int32) (S : List Value) (h : zH), zD 71 12 [l0, l1, l2, some (.int x), l4] S h = zD 71 13 [l0, l1, l2, some (.int x), l4] (.int x :: S) h) ∧
  (∀ (l0 l1 l2 l3 l4 : Option Value) (p0 : Int32) (r : List Value) (h : zH) (hcat : zcat r ≤ 8) (hC : (zC 25 [.int p0] h).isSome = true), zD 71 13 [l0, l1, l2, l3, l4] (.int p0 :: r) h = zD 71 16 [l0, l1, l2, l3, l4] (zgv (zC 25 [.int p0] h) ++ r) (zgh h (zC 25 [.int p0] h))) ∧
  (∀ (l0 l1 l2 l3 l4 : Option Value) (x : Int32) (r : List Value) (h : zH), zD 71 16 [l0, l1, l2, l3, l4] (.int x :: r) h = zD 71 18 [l0, l1, l2, zclr l3, some (.int x)] r h) ∧
  (∀ (l0 l2 l3 l4 : Option Value) (x : Int32) (S : List Value) (h : zH), zD 71 18 [l0, some (.int x), l2, l3, l4] S h = zD 71 19 [l0, some (.int x), l2, l3, l4] (.int x :: S) h) ∧
  (∀ (l0 l1 l2 l3 l4 : Option Value) (x : Int32) (r : List Value) (h : zH), zD 71 19 [l0, l1, l2, l3, l4] (.int x :: r) h = if x < 0 then zD 71 39 [l0, l1, l2, l3, l4] r h else zD 71 22 [l0, l1, l2, l3, l4] r h) ∧
  (∀ (l0 l2 l3 l4 : Option Value) (x : Int32) (S : List Value) (h : zH), zD 71 22 [l0, some (.int x), l2, l3, l4] S h = zD 71 23 [l0, some (.int x), l2, l3, l4] (.int x :: S) h) ∧
  (∀ (l0 l1 l2 l3 l4 : Option Value) (S : List Value) (h : zH), zD 71 23 [l0, l1, l2, l3, l4] S h = zD 71 24 [l0, l1, l2, l3, l4] (.int (4 : Int32) :: S) h) ∧
  (∀ (l0 l1 l2 l3 l4 : Option Value) (x y : Int32) (r : List Value) (h : zH), zD 71 24 [l0, l1, l2, l3, l4] (.int y :: .int x :: r) h = if y < x then zD 71 39 [l0, l1, l2, l3, l4] r h else zD 71 27 [l0, l1, l2, l3, l4] r h) ∧
  (∀ (l0 l1 l3 l4 : Option Value) (x : Int32) (S : List Value) (h : zH), zD 71 27 [l0, l1, some (.int x), l3, l4] S h = zD 71 28 [l0, l1, some (.int x), l3, l4] (.int x :: S) h) ∧
  (∀ (l0 l1 l2 l3 l4 : Option Value) (p0 : Int32) (r : List Value) (h : zH) (hcat : zcat r ≤ 8) (hC : (zC 25 [.int p0] h).isSome = true), zD 71 28 [l0, l1, l2, l3, l4] (.int p0 :: r) h = zD 71 31 [l0, l1, l2, l3, l4] (zgv (zC 25 [.int p0] h) ++ r) (zgh h (zC 25 [.int p0] h))) ∧
  (∀ (l0 l1 l2 l3 l4 : Option Value) (x : Int32) (r : List Value) (h : zH), zD 71 31 [l0, l1, l2, l3, l4] (.int x :: r) h = if x = 0 then zD 71 39 [l0, l1, l2, l3, l4] r h else zD 71 34 [l0, l1, l2, l3, l4] r h) ∧
  (∀ (l0 l1 l2 l3 : Option Value) (x : Int32) (S : List Value) (h : zH), zD 71 34 [l0, l1, l2, l3, some (.int x)] S h = zD 71 36 [l0, l1, l2, l3, some (.int x)] (.int x :: S) h) ∧
  (∀ (l0 l1 l2 l3 l4 : Option Value) (x : Int32) (r : List Value) (h : zH), zD 71 36 [l0, l1, l2, l3, l4] (.int x :: r) h = if ¬ x = 0 then zD 71 42 [l0, l1, l2, l3, l4] r h else zD 71 39 [l0, l1, l2, l3, l4] r h) ∧
  (∀ (l0 l1 l2 l3 l4 : Option Value) (S : List Value) (h : zH), zD 71 39 [l0, l1, l2, l3, l4] S h = zD 71 41 [l0, l1, l2, l3, l4] (.int (-102 : Int32) :: S) h) ∧
  (∀ (l0 l1 l2 l3 l4 : Option Value) (v : Int32) (h : zH), zD 71 41 [l0, l1, l2, l3, l4] [.int v] h = some (some (.int v), h)) ∧
  (∀ (l1 l2 l3 l4 : Option Value) (x : Nat) (S : List Value) (h : zH), zD 71 42 [some (.ref x), l1, l2, l3, l4] S h = zD 71 43 [some (.ref x), l1, l2, l3, l4] (.ref x :: S) h) ∧
  (∀ (l0 l1 l2 l3 l4 : Option Value) (a : Nat) (r : List Value) (h : zH) (hx : zfok (h.2.2 a) 8 6 = true), zD 71 43 [l0, l1, l2, l3, l4] (.ref a :: r) h = zD 71 46 [l0, l1, l2, l3, l4] (zfv (h.2.2 a) 6 :: r) h) ∧
  (∀ (l0 l2 l3 l4 : Option Value) (x : Int32) (S : List Value) (h : zH), zD 71 46 [l0, some (.int x), l2, l3, l4] S h = zD 71 47 [l0, some (.int x), l2, l3, l4] (.int x :: S) h) ∧
  (∀ (l0 l1 l3 l4 : Option Value) (x : Int32) (S : List Value) (h : zH), zD 71 47 [l0, l1, some (.int x), l3, l4] S h = zD 71 48 [l0, l1, some (.int x), l3, l4] (.int x :: S) h) ∧
  (∀ (l0 l1 l2 l4 : Option Value) (x : Int32) (S : List Value) (h : zH), zD 71 48 [l0, l1, l2, some (.int x), l4] S h = zD 71 49 [l0, l1, l2, some (.int x), l4] (.int x :: S) h) ∧
  (∀ (l0 l1 l2 l3 l4 : Option Value) (p0 : Int32) (p1 : Int32) (p2 : Int32) (a : Nat) (r : List Value) (h : zH) (hcat : zcat r ≤ 8) (hr : zis (h.2.2 a) 4 = true) (hC : (zC 12 (.ref a :: [.int p0, .int p1, .int p2]) h).isSome = true), zD 71 49 [l0, l1, l2, l3, l4] (.int p2 :: .int p1 :: .int p0 :: .ref a :: r) h = zD 71 52 [l0, l1, l2, l3, l4] (zgv (zC 12 (.ref a :: [.int p0, .int p1, .int p2]) h) ++ r) (zgh h (zC 12 (.ref a :: [.int p0, .int p1, .int p2]) h))) ∧
  (∀ (l0 l1 l2 l3 l4 : Option Value) (v : Int32) (h : zH), zD 71 52 [l0, l1, l2, l3, l4] [.int v] h = some (some (.int v), h)) :=
  ⟨fun l0 l2 l3 l4 x S h => zD_op (ins := .iload_n 1) (len := 1) (c := (1, [l0, some (.int x), l2, l3, l4], (.int x :: S), h)) (by decide +kernel) rfl rfl rfl rfl,
  fun l0 l1 l2 l3 l4 S h => zD_icst (n := 3) (by decide +kernel) (by decide +kernel),
  fun l0 l1 l2 l3 l4 x y r h => zD_if (cnd := .ne) (off := 10) (by decide +kernel) (by decide) rfl,
  fun l0 l1 l2 l4 x S h => zD_op (ins := .iload_n 3) (len := 1) (c := (6, [l0, l1, l2, some (.int x), l4], (.int x :: S), h)) (by decide +kernel) rfl rfl rfl rfl,
  fun l0 l1 l2 l3 l4 p0 r h hcat hC => zD_calls (i := 76) (y := 23) (n := 1) (as := [.int p0]) (by decide +kernel) (by decide +kernel) rfl (by decide +kernel) (Nat.le_of_ble_eq_true rfl) hcat hC,
  fun l0 l1 l2 l3 l4 S h => zD_goto (off := 7) (by decide +kernel) (by decide),
  fun l0 l1 l2 l4 x S h => zD_op (ins := .iload_n 3) (len := 1) (c := (13, [l0, l1, l2, some (.int x), l4], (.int x :: S), h)) (by decide +kernel) rfl rfl rfl rfl,
  fun l0 l1 l2 l3 l4 p0 r h hcat hC => zD_calls (i := 210) (y := 25) (n := 1) (as := [.int p0]) (by decide +kernel) (by decide +kernel) rfl (by decide +kernel) (Nat.le_of_ble_eq_true rfl) hcat hC,
  fun l0 l1 l2 l3 l4 x r h => zD_st1 (k := 4) (ins := .istore 4) (len := 2) (by decide +kernel) rfl rfl rfl (by decide +kernel) rfl rfl,
  fun l0 l2 l3 l4 x S h => zD_op (ins := .iload_n 1) (len := 1) (c := (19, [l0, some (.int x), l2, l3, l4], (.int x :: S), h)) (by decide +kernel) rfl rfl rfl rfl,
  fun l0 l1 l2 l3 l4 x r h => zD_if0 (cnd := .lt) (off := 20) (by decide +kernel) (by decide) rfl,
  fun l0 l2 l3 l4 x S h => zD_op (ins := .iload_n 1) (len := 1) (c := (23, [l0, some (.int x), l2, l3, l4], (.int x :: S), h)) (by decide +kernel) rfl rfl rfl rfl,
  fun l0 l1 l2 l3 l4 S h => zD_icst (n := 4) (by decide +kernel) (by decide +kernel),
  fun l0 l1 l2 l3 l4 x y r h => zD_if (cnd := .gt) (off := 15) (by decide +kernel) (by decide) rfl,
  fun l0 l1 l3 l4 x S h => zD_op (ins := .iload_n 2) (len := 1) (c := (28, [l0, l1, some (.int x), l3, l4], (.int x :: S), h)) (by decide +kernel) rfl rfl rfl rfl,
  fun l0 l1 l2 l3 l4 p0 r h hcat hC => zD_calls (i := 210) (y := 25) (n := 1) (as := [.int p0]) (by decide +kernel) (by decide +kernel) rfl (by decide +kernel) (Nat.le_of_ble_eq_true rfl) hcat hC,
  fun l0 l1 l2 l3 l4 x r h => zD_if0 (cnd := .eq) (off := 8) (by decide +kernel) (by decide) rfl,
  fun l0 l1 l2 l3 x S h => zD_op (ins := .iload 4) (len := 2) (c := (36, [l0, l1, l2, l3, some (.int x)], (.int x :: S), h)) (by decide +kernel) rfl rfl rfl rfl,
  fun l0 l1 l2 l3 l4 x r h => zD_if0 (cnd := .ne) (off := 6) (by decide +kernel) (by decide) rfl,
  fun l0 l1 l2 l3 l4 S h => zD_bip (n := (-102)) (by decide +kernel) (by decide +kernel),
  fun l0 l1 l2 l3 l4 v h => zD_ireti (by decide +kernel) rfl,
  fun l1 l2 l3 l4 x S h => zD_op (ins := .aload_n 0) (len := 1) (c := (43, [some (.ref x), l1, l2, l3, l4], (.ref x :: S), h)) (by decide +kernel) rfl rfl rfl rfl,
  fun l0 l1 l2 l3 l4 a r h hx => zD_getf (i := 62) (ci := 8) (k := 6) (q := (254, 0)) (by decide +kernel) (by decide +kernel) hx,
  fun l0 l2 l3 l4 x S h => zD_op (ins := .iload_n 1) (len := 1) (c := (47, [l0, some (.int x), l2, l3, l4], (.int x :: S), h)) (by decide +kernel) rfl rfl rfl rfl,
  fun l0 l1 l3 l4 x S h => zD_op (ins := .iload_n 2) (len := 1) (c := (48, [l0, l1, some (.int x), l3, l4], (.int x :: S), h)) (by decide +kernel) rfl rfl rfl rfl,
  fun l0 l1 l2 l4 x S h => zD_op (ins := .iload_n 3) (len := 1) (c := (49, [l0, l1, l2, some (.int x), l4], (.int x :: S), h)) (by decide +kernel) rfl rfl rfl rfl,
  fun l0 l1 l2 l3 l4 p0 p1 p2 a r h hcat hr hC => zD_callv (i := 213) (y := 12) (n := 3) (as := [.int p0, .int p1, .int p2]) (ci := 4) (by decide +kernel) (by decide +kernel) rfl (by decide +kernel) (Nat.le_of_ble_eq_true rfl) (by decide +kernel) hcat hr hC,
  fun l0 l1 l2 l3 l4 v h => zD_ireti (by decide +kernel) rfl⟩
set_option maxRecDepth 100000 in
theorem I_X9_ask : (∀ (a : Nat) (p0 : Int32) (p1 : Int32) (p2 : Int32) (h : zH), zC 71 [.ref a, .int p0, .int p1, .int p2] h = zD 71 0 [some (.ref a), some (.int p0), some (.int p1), some (.int p2), none] [] h) :=
  fun a p0 p1 p2 h => zC_def rfl
set_option maxRecDepth 100000 in
theorem E_X9_drawn : (∀ (l0 : Option Value) (x : Int32) (S : List Value) (h : zH), zD 72 0 [l0, some (.int x)] S h = zD 72 1 [l0, some (.int x)] (.int x :: S) h) ∧
  (∀ (l0 l1 : Option Value) (S : List Value) (h : zH), zD 72 1 [l0, l1] S h = zD 72 2 [l0, l1] (.int (-1 : Int32) :: S) h) ∧
  (∀ (l0 l1 : Option Value) (x y : Int32) (r : List Value) (h : zH), zD 72 2 [l0, l1] (.int y :: .int x :: r) h = if ¬ x = y then zD 72 12 [l0, l1] r h else zD 72 5 [l0, l1] r h) ∧
  (∀ (l1 : Option Value) (x : Nat) (S : List Value) (h : zH), zD 72 5 [some (.ref x), l1] S h = zD 72 6 [some (.ref x), l1] (.ref x :: S) h) ∧
  (∀ (l0 l1 : Option Value) (a : Nat) (r : List Value) (h : zH) (hx : zfok (h.2.2 a) 8 0 = true), zD 72 6 [l0, l1] (.ref a :: r) h = zD 72 9 [l0, l1] (zfv (h.2.2 a) 0 :: r) h) ∧
  (∀ (l0 l1 : Option Value) (S : List Value) (h : zH), zD 72 9 [l0, l1] S h = zD 72 20 [l0, l1] S h) ∧
  (∀ (l1 : Option Value) (x : Nat) (S : List Value) (h : zH), zD 72 12 [some (.ref x), l1] S h = zD 72 13 [some (.ref x), l1] (.ref x :: S) h) ∧
  (∀ (l0 l1 : Option Value) (a : Nat) (r : List Value) (h : zH) (hx : zfok (h.2.2 a) 8 4 = true), zD 72 13 [l0, l1] (.ref a :: r) h = zD 72 16 [l0, l1] (zfv (h.2.2 a) 4 :: r) h) ∧
  (∀ (l0 : Option Value) (x : Int32) (S : List Value) (h : zH), zD 72 16 [l0, some (.int x)] S h = zD 72 17 [l0, some (.int x)] (.int x :: S) h) ∧
  (∀ (l0 l1 : Option Value) (p0 : Int32) (a : Nat) (r : List Value) (h : zH) (hcat : zcat r ≤ 8) (hr : zis (h.2.2 a) 1 = true) (hC : (zC 1 (.ref a :: [.int p0]) h).isSome = true), zD 72 17 [l0, l1] (.int p0 :: .ref a :: r) h = zD 72 20 [l0, l1] (zgv (zC 1 (.ref a :: [.int p0]) h) ++ r) (zgh h (zC 1 (.ref a :: [.int p0]) h))) ∧
  (∀ (l0 l1 : Option Value) (v : Nat) (h : zH), zD 72 20 [l0, l1] [.ref v] h = some (some (.ref v), h)) ∧
  (∀ (l0 l1 : Option Value) (h : zH), zD 72 20 [l0, l1] [.null] h = some (some .null, h)) :=
  ⟨fun l0 x S h => zD_op (ins := .iload_n 1) (len := 1) (c := (1, [l0, some (.int x)], (.int x :: S), h)) (by decide +kernel) rfl rfl rfl rfl,
  fun l0 l1 S h => zD_icst (n := (-1)) (by decide +kernel) (by decide +kernel),
  fun l0 l1 x y r h => zD_if (cnd := .ne) (off := 10) (by decide +kernel) (by decide) rfl,
  fun l1 x S h => zD_op (ins := .aload_n 0) (len := 1) (c := (6, [some (.ref x), l1], (.ref x :: S), h)) (by decide +kernel) rfl rfl rfl rfl,
  fun l0 l1 a r h hx => zD_getf (i := 12) (ci := 8) (k := 0) (q := (248, 0)) (by decide +kernel) (by decide +kernel) hx,
  fun l0 l1 S h => zD_goto (off := 11) (by decide +kernel) (by decide),
  fun l1 x S h => zD_op (ins := .aload_n 0) (len := 1) (c := (13, [some (.ref x), l1], (.ref x :: S), h)) (by decide +kernel) rfl rfl rfl rfl,
  fun l0 l1 a r h hx => zD_getf (i := 48) (ci := 8) (k := 4) (q := (252, 0)) (by decide +kernel) (by decide +kernel) hx,
  fun l0 x S h => zD_op (ins := .iload_n 1) (len := 1) (c := (17, [l0, some (.int x)], (.int x :: S), h)) (by decide +kernel) rfl rfl rfl rfl,
  fun l0 l1 p0 a r h hcat hr hC => zD_callv (i := 192) (y := 1) (n := 1) (as := [.int p0]) (ci := 1) (by decide +kernel) (by decide +kernel) rfl (by decide +kernel) (Nat.le_of_ble_eq_true rfl) (by decide +kernel) hcat hr hC,
  fun l0 l1 v h => zD_aret (by decide +kernel) rfl,
  fun l0 l1 h => zD_aretn (by decide +kernel) rfl⟩
set_option maxRecDepth 100000 in
theorem I_X9_drawn : (∀ (a : Nat) (p0 : Int32) (h : zH), zC 72 [.ref a, .int p0] h = zD 72 0 [some (.ref a), some (.int p0)] [] h) :=
  fun a p0 h => zC_def rfl
set_option maxRecDepth 100000 in
theorem E_X9_count : (∀ (l0 : Option Value) (x : Int32) (S : List Value) (h : zH), zD 73 0 [l0, some (.int x)] S h = zD 73 1 [l0, some (.int x)] (.int x :: S) h) ∧
  (∀ (l0 l1 : Option Value) (x : Int32) (t : Nat) (r : List Value) (h : zH) (hx : ztab 1 75 0 4 #[35, 43, 51, 59, 67] x [l0, l1] r h = some (t, [l0, l1], r, h)), zD 73 1 [l0, l1] (.int x :: r) h = zD 73 t [l0, l1] r h) ∧
  (∀ (l1 : Option Value) (x : Nat) (S : List Value) (h : zH), zD 73 36 [some (.ref x), l1] S h = zD 73 37 [some (.ref x), l1] (.ref x :: S) h) ∧
  (∀ (l0 l1 : Option Value) (a : Nat) (r : List Value) (h : zH) (hx : zfok (h.2.2 a) 8 0 = true), zD 73 37 [l0, l1] (.ref a :: r) h = zD 73 40 [l0, l1] (zfv (h.2.2 a) 0 :: r) h) ∧
  (∀ (l0 l1 : Option Value) (a : Nat) (r : List Value) (h : zH) (hx : zfok (h.2.2 a) 3 2 = true), zD 73 40 [l0, l1] (.ref a :: r) h = zD 73 43 [l0, l1] (zfv (h.2.2 a) 2 :: r) h) ∧
  (∀ (l0 l1 : Option Value) (v : Int32) (h : zH), zD 73 43 [l0, l1] [.int v] h = some (some (.int v), h)) ∧
  (∀ (l1 : Option Value) (x : Nat) (S : List Value) (h : zH), zD 73 44 [some (.ref x), l1] S h = zD 73 45 [some (.ref x), l1] (.ref x :: S) h) ∧
  (∀ (l0 l1 : Option Value) (a : Nat) (r : List Value) (h : zH) (hx : zfok (h.2.2 a) 8 4 = true), zD 73 45 [l0, l1] (.ref a :: r) h = zD 73 48 [l0, l1] (zfv (h.2.2 a) 4 :: r) h) ∧
  (∀ (l0 l1 : Option Value) (a : Nat) (r : List Value) (h : zH) (hcat : zcat r ≤ 8) (hr : zis (h.2.2 a) 1 = true) (hC : (zC 2 [.ref a] h).isSome = true), zD 73 48 [l0, l1] (.ref a :: r) h = zD 73 51 [l0, l1] (zgv (zC 2 [.ref a] h) ++ r) (zgh h (zC 2 [.ref a] h))) ∧
  (∀ (l0 l1 : Option Value) (v : Int32) (h : zH), zD 73 51 [l0, l1] [.int v] h = some (some (.int v), h)) ∧
  (∀ (l1 : Option Value) (x : Nat) (S : List Value) (h : zH), zD 73 52 [some (.ref x), l1] S h = zD 73 53 [some (.ref x), l1] (.ref x :: S) h) ∧
  (∀ (l0 l1 : Option Value) (a : Nat) (r : List Value) (h : zH) (hx : zfok (h.2.2 a) 8 6 = true), zD 73 53 [l0, l1] (.ref a :: r) h = zD 73 56 [l0, l1] (zfv (h.2.2 a) 6 :: r) h) ∧
  (∀ (l0 l1 : Option Value) (a : Nat) (r : List Value) (h : zH) (hx : zfok (h.2.2 a) 4 3 = true), zD 73 56 [l0, l1] (.ref a :: r) h = zD 73 59 [l0, l1] (zfv (h.2.2 a) 3 :: r) h) ∧
  (∀ (l0 l1 : Option Value) (v : Int32) (h : zH), zD 73 59 [l0, l1] [.int v] h = some (some (.int v), h)) ∧
  (∀ (l1 : Option Value) (x : Nat) (S : List Value) (h : zH), zD 73 60 [some (.ref x), l1] S h = zD 73 61 [some (.ref x), l1] (.ref x :: S) h) ∧
  (∀ (l0 l1 : Option Value) (a : Nat) (r : List Value) (h : zH) (hx : zfok (h.2.2 a) 8 1 = true), zD 73 61 [l0, l1] (.ref a :: r) h = zD 73 64 [l0, l1] (zfv (h.2.2 a) 1 :: r) h) ∧
  (∀ (l0 l1 : Option Value) (a : Nat) (r : List Value) (h : zH) (hcat : zcat r ≤ 8) (hr : zis (h.2.2 a) 2 = true) (hC : (zC 4 [.ref a] h).isSome = true), zD 73 64 [l0, l1] (.ref a :: r) h = zD 73 67 [l0, l1] (zgv (zC 4 [.ref a] h) ++ r) (zgh h (zC 4 [.ref a] h))) ∧
  (∀ (l0 l1 : Option Value) (v : Int32) (h : zH), zD 73 67 [l0, l1] [.int v] h = some (some (.int v), h)) ∧
  (∀ (l1 : Option Value) (x : Nat) (S : List Value) (h : zH), zD 73 68 [some (.ref x), l1] S h = zD 73 69 [some (.ref x), l1] (.ref x :: S) h) ∧
  (∀ (l0 l1 : Option Value) (a : Nat) (r : List Value) (h : zH) (hx : zfok (h.2.2 a) 8 4 = true), zD 73 69 [l0, l1] (.ref a :: r) h = zD 73 72 [l0, l1] (zfv (h.2.2 a) 4 :: r) h) ∧
  (∀ (l0 l1 : Option Value) (a : Nat) (r : List Value) (h : zH) (hx : zfok (h.2.2 a) 1 1 = true), zD 73 72 [l0, l1] (.ref a :: r) h = zD 73 75 [l0, l1] (zfv (h.2.2 a) 1 :: r) h) ∧
  (∀ (l0 l1 : Option Value) (v : Int32) (h : zH), zD 73 75 [l0, l1] [.int v] h = some (some (.int v), h)) ∧
  (∀ (l0 l1 : Option Value) (S : List Value) (h : zH), zD 73 76 [l0, l1] S h = zD 73 78 [l0, l1] (.int (-102 : Int32) :: S) h) ∧
  (∀ (l0 l1 : Option Value) (v : Int32) (h : zH), zD 73 78 [l0, l1] [.int v] h = some (some (.int v), h)) :=
  ⟨fun l0 x S h => zD_op (ins := .iload_n 1) (len := 1) (c := (1, [l0, some (.int x)], (.int x :: S), h)) (by decide +kernel) rfl rfl rfl rfl,
  fun l0 l1 x t r h hx => zD_sw (len := 35) (by decide +kernel) hx,
  fun l1 x S h => zD_op (ins := .aload_n 0) (len := 1) (c := (37, [some (.ref x), l1], (.ref x :: S), h)) (by decide +kernel) rfl rfl rfl rfl,
  fun l0 l1 a r h hx => zD_getf (i := 12) (ci := 8) (k := 0) (q := (248, 0)) (by decide +kernel) (by decide +kernel) hx,
  fun l0 l1 a r h hx => zD_getf (i := 166) (ci := 3) (k := 2) (q := (90, 1)) (by decide +kernel) (by decide +kernel) hx,
  fun l0 l1 v h => zD_ireti (by decide +kernel) rfl,
  fun l1 x S h => zD_op (ins := .aload_n 0) (len := 1) (c := (45, [some (.ref x), l1], (.ref x :: S), h)) (by decide +kernel) rfl rfl rfl rfl,
  fun l0 l1 a r h hx => zD_getf (i := 48) (ci := 8) (k := 4) (q := (252, 0)) (by decide +kernel) (by decide +kernel) hx,
  fun l0 l1 a r h hcat hr hC => zD_callv (i := 240) (y := 2) (n := 0) (as := []) (ci := 1) (by decide +kernel) (by decide +kernel) rfl (by decide +kernel) (Nat.le_of_ble_eq_true rfl) (by decide +kernel) hcat hr hC,
  fun l0 l1 v h => zD_ireti (by decide +kernel) rfl,
  fun l1 x S h => zD_op (ins := .aload_n 0) (len := 1) (c := (53, [some (.ref x), l1], (.ref x :: S), h)) (by decide +kernel) rfl rfl rfl rfl,
  fun l0 l1 a r h hx => zD_getf (i := 62) (ci := 8) (k := 6) (q := (254, 0)) (by decide +kernel) (by decide +kernel) hx,
  fun l0 l1 a r h hx => zD_getf (i := 215) (ci := 4) (k := 3) (q := (219, 1)) (by decide +kernel) (by decide +kernel) hx,
  fun l0 l1 v h => zD_ireti (by decide +kernel) rfl,
  fun l1 x S h => zD_op (ins := .aload_n 0) (len := 1) (c := (61, [some (.ref x), l1], (.ref x :: S), h)) (by decide +kernel) rfl rfl rfl rfl,
  fun l0 l1 a r h hx => zD_getf (i := 19) (ci := 8) (k := 1) (q := (249, 0)) (by decide +kernel) (by decide +kernel) hx,
  fun l0 l1 a r h hcat hr hC => zD_callv (i := 244) (y := 4) (n := 0) (as := []) (ci := 2) (by decide +kernel) (by decide +kernel) rfl (by decide +kernel) (Nat.le_of_ble_eq_true rfl) (by decide +kernel) hcat hr hC,
  fun l0 l1 v h => zD_ireti (by decide +kernel) rfl,
  fun l1 x S h => zD_op (ins := .aload_n 0) (len := 1) (c := (69, [some (.ref x), l1], (.ref x :: S), h)) (by decide +kernel) rfl rfl rfl rfl,
  fun l0 l1 a r h hx => zD_getf (i := 48) (ci := 8) (k := 4) (q := (252, 0)) (by decide +kernel) (by decide +kernel) hx,
  fun l0 l1 a r h hx => zD_getf (i := 247) (ci := 1) (k := 1) (q := (186, 1)) (by decide +kernel) (by decide +kernel) hx,
  fun l0 l1 v h => zD_ireti (by decide +kernel) rfl,
  fun l0 l1 S h => zD_bip (n := (-102)) (by decide +kernel) (by decide +kernel),
  fun l0 l1 v h => zD_ireti (by decide +kernel) rfl⟩
set_option maxRecDepth 100000 in
theorem I_X9_count : (∀ (a : Nat) (p0 : Int32) (h : zH), zC 73 [.ref a, .int p0] h = zD 73 0 [some (.ref a), some (.int p0)] [] h) :=
  fun a p0 h => zC_def rfl
set_option maxRecDepth 100000 in
theorem E_X9_mixedArcs : (∀ (l0 l2 l3 l4 l5 l6 l7 : Option Value) (x : Int64) (S : List Value) (h : zH), zD 74 0 [l0, some (.long x), l2, l3, l4, l5, l6, l7] S h = zD 74 1 [l0, some (.long x), l2, l3, l4, l5, l6, l7] (.long x :: S) h) ∧
  (∀ (l0 l1 l2 l3 l4 l5 l6 l7 : Option Value) (x : Int64) (r : List Value) (h : zH), zD 74 1 [l0, l1, l2, l3, l4, l5, l6, l7] (.long x :: r) h = zD 74 3 [l0, l1, l2, zclr l3, some (.long x), none, l6, l7] r h) ∧
  (∀ (l0 l1 l2 l3 l4 l5 l6 l7 : Option Value) (S : List Value) (h : zH), zD 74 3 [l0, l1, l2, l3, l4, l5, l6, l7] S h = zD 74 4 [l0, l1, l2, l3, l4, l5, l6, l7] (.int (0 : Int32) :: S) h) ∧
  (∀ (l0 l1 l2 l3 l4 l5 l6 l7 : Option Value) (x : Int32) (r : List Value) (h : zH), zD 74 4 [l0, l1, l2, l3, l4, l5, l6, l7] (.int x :: r) h = zD 74 6 [l0, l1, l2, l3, l4, zclr l5, some (.int x), l7] r h) ∧
  (∀ (l1 l2 l3 l4 l5 l6 l7 : Option Value) (x : Nat) (S : List Value) (h : zH), zD 74 8 [some (.ref x), l1, l2, l3, l4, l5, l6, l7] S h = zD 74 9 [some (.ref x), l1, l2, l3, l4, l5, l6, l7] (.ref x :: S) h) ∧
  (∀ (l0 l1 l2 l3 l4 l5 l6 l7 : Option Value) (a : Nat) (r : List Value) (h : zH) (hx : zfok (h.2.2 a) 8 0 = true), zD 74 9 [l0, l1, l2, l3, l4, l5, l6, l7] (.ref a :: r) h = zD 74 12 [l0, l1, l2, l3, l4, l5, l6, l7] (zfv (h.2.2 a) 0 :: r) h) ∧
  (∀ (l0 l1 l2 l3 l4 l5 l6 l7 : Option Value) (a : Nat) (r : List Value) (h : zH) (hx : zfok (h.2.2 a) 3 2 = true), zD 74 12 [l0, l1, l2, l3, l4, l5, l6, l7] (.ref a :: r) h = zD 74 15 [l0, l1, l2, l3, l4, l5, l6, l7] (zfv (h.2.2 a) 2 :: r) h) ∧
  (∀ (l0 l1 l2 l3 l4 l5 l6 l7 : Option Value) (x y : Int32) (r : List Value) (h : zH), zD 74 15 [l0, l1, l2, l3, l4, l5, l6, l7] (.int y :: .int x :: r) h = if y < x then zD 74 68 [l0, l1, l2, l3, l4, l5, l6, l7] r h else zD 74 18 [l0, l1, l2, l3, l4, l5, l6, l7] r h) ∧
  (∀ (l0 l1 l2 l3 l4 l5 l7 : Option Value) (x : Int32) (S : List Value) (h : zH), zD 74 18 [l0, l1, l2, l3, l4, l5, some (.int x), l7] S h = zD 74 20 [l0, l1, l2, l3, l4, l5, some (.int x), l7] (.int x :: S) h) ∧
  (∀ (l0 l1 l2 l4 l5 l6 l7 : Option Value) (x : Int32) (S : List Value) (h : zH), zD 74 20 [l0, l1, l2, some (.int x), l4, l5, l6, l7] S h = zD 74 21 [l0, l1, l2, some (.int x), l4, l5, l6, l7] (.int x :: S) h) ∧
  (∀ (l0 l1 l2 l3 l4 l5 l6 l7 : Option Value) (x y : Int32) (r : List Value) (h : zH), zD 74 21 [l0, l1, l2, l3, l4, l5, l6, l7] (.int y :: .int x :: r) h = if x = y then zD 74 62 [l0, l1, l2, l3, l4, l5, l6, l7] r h else zD 74 24 [l0, l1, l2, l3, l4, l5, l6, l7] r h) ∧
  (∀ (l0 l1 l2 l3 l4 l5 l7 : Option Value) (x : Int32) (S : List Value) (h : zH), zD 74 24 [l0, l1, l2, l3, l4, l5, some (.int x), l7] S h = zD 74 26 [l0, l1, l2, l3, l4, l5, some (.int x), l7] (.int x :: S) h) ∧
  (∀ (l0 l1 l2 l4 l5 l6 l7 : Option Value) (x : Int32) (S : List Value) (h : zH), zD 74 26 [l0, l1, l2, some (.int x), l4, l5, l6, l7] S h = zD 74 27 [l0, l1, l2, some (.int x), l4, l5, l6, l7] (.int x :: S) h) ∧
  (∀ (l0 l1 l2 l3 l4 l5 l6 l7 : Option Value) (p0 : Int32) (p1 : Int32) (r : List Value) (h : zH) (hcat : zcat r ≤ 8) (hC : (zC 3 [.int p0, .int p1] h).isSome = true), zD 74 27 [l0, l1, l2, l3, l4, l5, l6, l7] (.int p1 :: .int p0 :: r) h = zD 74 30 [l0, l1, l2, l3, l4, l5, l6, l7] (zgv (zC 3 [.int p0, .int p1] h) ++ r) (zgh h (zC 3 [.int p0, .int p1] h))) ∧
  (∀ (l0 l1 l2 l3 l4 l5 l6 l7 : Option Value) (x : Int32) (r : List Value) (h : zH), zD 74 30 [l0, l1, l2, l3, l4, l5, l6, l7] (.int x :: r) h = zD 74 32 [l0, l1, l2, l3, l4, l5, zclr l6, some (.int x)] r h) ∧
  (∀ (l0 l1 l2 l3 l5 l6 l7 : Option Value) (x : Int64) (S : List Value) (h : zH), zD 74 32 [l0, l1, l2, l3, some (.long x), l5, l6, l7] S h = zD 74 34 [l0, l1, l2, l3, some (.long x), l5, l6, l7] (.long x :: S) h) ∧
  (∀ (l1 l2 l3 l4 l5 l6 l7 : Option Value) (x : Nat) (S : List Value) (h : zH), zD 74 34 [some (.ref x), l1, l2, l3, l4, l5, l6, l7] S h = zD 74 35 [some (.ref x), l1, l2, l3, l4, l5, l6, l7] (.ref x :: S) h) ∧
  (∀ (l0 l1 l2 l3 l4 l5 l6 l7 : Option Value) (a : Nat) (r : List Value) (h : zH) (hx : zfok (h.2.2 a) 8 1 = true), zD 74 35 [l0, l1, l2, l3, l4, l5, l6, l7] (.ref a :: r) h = zD 74 38 [l0, l1, l2, l3, l4, l5, l6, l7] (zfv (h.2.2 a) 1 :: r) h) ∧
  (∀ (l0 l1 l2 l3 l4 l5 l6 l7 : Option Value) (a : Nat) (r : List Value) (h : zH) (hx : zfok (h.2.2 a) 2 0 = true), zD 74 38 [l0, l1, l2, l3, l4, l5, l6, l7] (.ref a :: r) h = zD 74 41 [l0, l1, l2, l3, l4, l5, l6, l7] (zfv (h.2.2 a) 0 :: r) h) ∧
  (∀ (l0 l1 l2 l3 l4 l5 l6 : Option Value) (x : Int32) (S : List Value) (h : zH), zD 74 41 [l0, l1, l2, l3, l4, l5, l6, some (.int x)] S h = zD 74 43 [l0, l1, l2, l3, l4, l5, l6, some (.int x)] (.int x :: S) h) ∧
  (∀ (l0 l1 l2 l3 l4 l5 l6 l7 : Option Value) (i : Int32) (a : Nat) (r : List Value) (h : zH) (hx : ziok a (h.2.2 a) i = true), zD 74 43 [l0, l1, l2, l3, l4, l5, l6, l7] (.int i :: .ref a :: r) h = zD 74 44 [l0, l1, l2, l3, l4, l5, l6, l7] (.int (ziv (h.2.2 a) i) :: r) h) ∧
  (∀ (l0 l1 l2 l3 l4 l5 l6 l7 : Option Value) (p0 : Int64) (p1 : Int32) (r : List Value) (h : zH) (hcat : zcat r ≤ 8) (hC : (zC 22 [.long p0, .int p1] h).isSome = true), zD 74 44 [l0, l1, l2, l3, l4, l5, l6, l7] (.int p1 :: .long p0 :: r) h = zD 74 47 [l0, l1, l2, l3, l4, l5, l6, l7] (zgv (zC 22 [.long p0, .int p1] h) ++ r) (zgh h (zC 22 [.long p0, .int p1] h))) ∧
  (∀ (l1 l2 l3 l4 l5 l6 l7 : Option Value) (x : Nat) (S : List Value) (h : zH), zD 74 47 [some (.ref x), l1, l2, l3, l4, l5, l6, l7] S h = zD 74 48 [some (.ref x), l1, l2, l3, l4, l5, l6, l7] (.ref x :: S) h) ∧
  (∀ (l0 l1 l2 l3 l4 l5 l6 l7 : Option Value) (a : Nat) (r : List Value) (h : zH) (hx : zfok (h.2.2 a) 8 1 = true), zD 74 48 [l0, l1, l2, l3, l4, l5, l6, l7] (.ref a :: r) h = zD 74 51 [l0, l1, l2, l3, l4, l5, l6, l7] (zfv (h.2.2 a) 1 :: r) h) ∧
  (∀ (l0 l1 l2 l3 l4 l5 l6 l7 : Option Value) (a : Nat) (r : List Value) (h : zH) (hx : zfok (h.2.2 a) 2 1 = true), zD 74 51 [l0, l1, l2, l3, l4, l5, l6, l7] (.ref a :: r) h = zD 74 54 [l0, l1, l2, l3, l4, l5, l6, l7] (zfv (h.2.2 a) 1 :: r) h) ∧
  (∀ (l0 l1 l2 l3 l4 l5 l6 : Option Value) (x : Int32) (S : List Value) (h : zH), zD 74 54 [l0, l1, l2, l3, l4, l5, l6, some (.int x)] S h = zD 74 56 [l0, l1, l2, l3, l4, l5, l6, some (.int x)] (.int x :: S) h) ∧
  (∀ (l0 l1 l2 l3 l4 l5 l6 l7 : Option Value) (i : Int32) (a : Nat) (r : List Value) (h : zH) (hx : ziok a (h.2.2 a) i = true), zD 74 56 [l0, l1, l2, l3, l4, l5, l6, l7] (.int i :: .ref a :: r) h = zD 74 57 [l0, l1, l2, l3, l4, l5, l6, l7] (.int (ziv (h.2.2 a) i) :: r) h) ∧
  (∀ (l0 l1 l2 l3 l4 l5 l6 l7 : Option Value) (p0 : Int64) (p1 : Int32) (r : List Value) (h : zH) (hcat : zcat r ≤ 8) (hC : (zC 22 [.long p0, .int p1] h).isSome = true), zD 74 57 [l0, l1, l2, l3, l4, l5, l6, l7] (.int p1 :: .long p0 :: r) h = zD 74 60 [l0, l1, l2, l3, l4, l5, l6, l7] (zgv (zC 22 [.long p0, .int p1] h) ++ r) (zgh h (zC 22 [.long p0, .int p1] h))) ∧
  (∀ (l0 l1 l2 l3 l4 l5 l6 l7 : Option Value) (x : Int64) (r : List Value) (h : zH), zD 74 60 [l0, l1, l2, l3, l4, l5, l6, l7] (.long x :: r) h = zD 74 62 [l0, l1, l2, zclr l3, some (.long x), none, l6, l7] r h) ∧
  (∀ (l0 l1 l2 l3 l4 l5 l7 : Option Value) (x : Int32) (S : List Value) (h : zH), zD 74 62 [l0, l1, l2, l3, l4, l5, some (.int x), l7] S h = zD 74 65 [l0, l1, l2, l3, l4, zclr l5, some (.int (x + (1 : Int32))), l7] S h) ∧
  (∀ (l0 l1 l2 l3 l4 l5 l6 l7 : Option Value) (S : List Value) (h : zH), zD 74 65 [l0, l1, l2, l3, l4, l5, l6, l7] S h = zD 74 6 [l0, l1, l2, l3, l4, l5, l6, l7] S h) ∧
  (∀ (l0 l1 l2 l3 l5 l6 l7 : Option Value) (x : Int64) (S : List Value) (h : zH), zD 74 68 [l0, l1, l2, l3, some (.long x), l5, l6, l7] S h = zD 74 70 [l0, l1, l2, l3, some (.long x), l5, l6, l7] (.long x :: S) h) ∧
  (∀ (l0 l1 l2 l3 l4 l5 l6 l7 : Option Value) (v : Int64) (h : zH), zD 74 70 [l0, l1, l2, l3, l4, l5, l6, l7] [.long v] h = some (some (.long v), h)) :=
  ⟨fun l0 l2 l3 l4 l5 l6 l7 x S h => zD_op (ins := .lload_n 1) (len := 1) (c := (1, [l0, some (.long x), l2, l3, l4, l5, l6, l7], (.long x :: S), h)) (by decide +kernel) rfl rfl rfl rfl,
  fun l0 l1 l2 l3 l4 l5 l6 l7 x r h => zD_st2 (k := 4) (ins := .lstore 4) (len := 2) (by decide +kernel) rfl rfl rfl (by decide +kernel) rfl rfl,
  fun l0 l1 l2 l3 l4 l5 l6 l7 S h => zD_icst (n := 0) (by decide +kernel) (by decide +kernel),
  fun l0 l1 l2 l3 l4 l5 l6 l7 x r h => zD_st1 (k := 6) (ins := .istore 6) (len := 2) (by decide +kernel) rfl rfl rfl (by decide +kernel) rfl rfl,
  fun l1 l2 l3 l4 l5 l6 l7 x S h => zD_op (ins := .aload_n 0) (len := 1) (c := (9, [some (.ref x), l1, l2, l3, l4, l5, l6, l7], (.ref x :: S), h)) (by decide +kernel) rfl rfl rfl rfl,
  fun l0 l1 l2 l3 l4 l5 l6 l7 a r h hx => zD_getf (i := 12) (ci := 8) (k := 0) (q := (248, 0)) (by decide +kernel) (by decide +kernel) hx,
  fun l0 l1 l2 l3 l4 l5 l6 l7 a r h hx => zD_getf (i := 166) (ci := 3) (k := 2) (q := (90, 1)) (by decide +kernel) (by decide +kernel) hx,
  fun l0 l1 l2 l3 l4 l5 l6 l7 x y r h => zD_if (cnd := .gt) (off := 53) (by decide +kernel) (by decide) rfl,
  fun l0 l1 l2 l3 l4 l5 l7 x S h => zD_op (ins := .iload 6) (len := 2) (c := (20, [l0, l1, l2, l3, l4, l5, some (.int x), l7], (.int x :: S), h)) (by decide +kernel) rfl rfl rfl rfl,
  fun l0 l1 l2 l4 l5 l6 l7 x S h => zD_op (ins := .iload_n 3) (len := 1) (c := (21, [l0, l1, l2, some (.int x), l4, l5, l6, l7], (.int x :: S), h)) (by decide +kernel) rfl rfl rfl rfl,
  fun l0 l1 l2 l3 l4 l5 l6 l7 x y r h => zD_if (cnd := .eq) (off := 41) (by decide +kernel) (by decide) rfl,
  fun l0 l1 l2 l3 l4 l5 l7 x S h => zD_op (ins := .iload 6) (len := 2) (c := (26, [l0, l1, l2, l3, l4, l5, some (.int x), l7], (.int x :: S), h)) (by decide +kernel) rfl rfl rfl rfl,
  fun l0 l1 l2 l4 l5 l6 l7 x S h => zD_op (ins := .iload_n 3) (len := 1) (c := (27, [l0, l1, l2, some (.int x), l4, l5, l6, l7], (.int x :: S), h)) (by decide +kernel) rfl rfl rfl rfl,
  fun l0 l1 l2 l3 l4 l5 l6 l7 p0 p1 r h hcat hC => zD_calls (i := 89) (y := 3) (n := 2) (as := [.int p0, .int p1]) (by decide +kernel) (by decide +kernel) rfl (by decide +kernel) (Nat.le_of_ble_eq_true rfl) hcat hC,
  fun l0 l1 l2 l3 l4 l5 l6 l7 x r h => zD_st1 (k := 7) (ins := .istore 7) (len := 2) (by decide +kernel) rfl rfl rfl (by decide +kernel) rfl rfl,
  fun l0 l1 l2 l3 l5 l6 l7 x S h => zD_op (ins := .lload 4) (len := 2) (c := (34, [l0, l1, l2, l3, some (.long x), l5, l6, l7], (.long x :: S), h)) (by decide +kernel) rfl rfl rfl rfl,
  fun l1 l2 l3 l4 l5 l6 l7 x S h => zD_op (ins := .aload_n 0) (len := 1) (c := (35, [some (.ref x), l1, l2, l3, l4, l5, l6, l7], (.ref x :: S), h)) (by decide +kernel) rfl rfl rfl rfl,
  fun l0 l1 l2 l3 l4 l5 l6 l7 a r h hx => zD_getf (i := 19) (ci := 8) (k := 1) (q := (249, 0)) (by decide +kernel) (by decide +kernel) hx,
  fun l0 l1 l2 l3 l4 l5 l6 l7 a r h hx => zD_getf (i := 93) (ci := 2) (k := 0) (q := (106, 1)) (by decide +kernel) (by decide +kernel) hx,
  fun l0 l1 l2 l3 l4 l5 l6 x S h => zD_op (ins := .iload 7) (len := 2) (c := (43, [l0, l1, l2, l3, l4, l5, l6, some (.int x)], (.int x :: S), h)) (by decide +kernel) rfl rfl rfl rfl,
  fun l0 l1 l2 l3 l4 l5 l6 l7 i a r h hx => zD_iald (by decide +kernel) hx,
  fun l0 l1 l2 l3 l4 l5 l6 l7 p0 p1 r h hcat hC => zD_calls (i := 252) (y := 22) (n := 2) (as := [.long p0, .int p1]) (by decide +kernel) (by decide +kernel) rfl (by decide +kernel) (Nat.le_of_ble_eq_true rfl) hcat hC,
  fun l1 l2 l3 l4 l5 l6 l7 x S h => zD_op (ins := .aload_n 0) (len := 1) (c := (48, [some (.ref x), l1, l2, l3, l4, l5, l6, l7], (.ref x :: S), h)) (by decide +kernel) rfl rfl rfl rfl,
  fun l0 l1 l2 l3 l4 l5 l6 l7 a r h hx => zD_getf (i := 19) (ci := 8) (k := 1) (q := (249, 0)) (by decide +kernel) (by decide +kernel) hx,
  fun l0 l1 l2 l3 l4 l5 l6 l7 a r h hx => zD_getf (i := 96) (ci := 2) (k := 1) (q := (108, 1)) (by decide +kernel) (by decide +kernel) hx,
  fun l0 l1 l2 l3 l4 l5 l6 x S h => zD_op (ins := .iload 7) (len := 2) (c := (56, [l0, l1, l2, l3, l4, l5, l6, some (.int x)], (.int x :: S), h)) (by decide +kernel) rfl rfl rfl rfl,
  fun l0 l1 l2 l3 l4 l5 l6 l7 i a r h hx => zD_iald (by decide +kernel) hx,
  fun l0 l1 l2 l3 l4 l5 l6 l7 p0 p1 r h hcat hC => zD_calls (i := 252) (y := 22) (n := 2) (as := [.long p0, .int p1]) (by decide +kernel) (by decide +kernel) rfl (by decide +kernel) (Nat.le_of_ble_eq_true rfl) hcat hC,
  fun l0 l1 l2 l3 l4 l5 l6 l7 x r h => zD_st2 (k := 4) (ins := .lstore 4) (len := 2) (by decide +kernel) rfl rfl rfl (by decide +kernel) rfl rfl,
  fun l0 l1 l2 l3 l4 l5 l7 x S h => zD_iinc (k := 6) (x := x) (c := (1 : Int32)) (n := 1) (by decide +kernel) (by decide +kernel) rfl (by decide +kernel) rfl,
  fun l0 l1 l2 l3 l4 l5 l6 l7 S h => zD_goto (off := (-59)) (by decide +kernel) (by decide),
  fun l0 l1 l2 l3 l5 l6 l7 x S h => zD_op (ins := .lload 4) (len := 2) (c := (70, [l0, l1, l2, l3, some (.long x), l5, l6, l7], (.long x :: S), h)) (by decide +kernel) rfl rfl rfl rfl,
  fun l0 l1 l2 l3 l4 l5 l6 l7 v h => zD_lret (by decide +kernel) rfl⟩
set_option maxRecDepth 100000 in
theorem E_X9_mixedArcs_h6 : (∀ (l0 l1 l2 l3 l4 l5 l7 : Option Value) (x : Int32) (S : List Value) (h : zH), zD 74 6 [l0, l1, l2, l3, l4, l5, some (.int x), l7] S h = zD 74 8 [l0, l1, l2, l3, l4, l5, some (.int x), l7] (.int x :: S) h) :=
  fun l0 l1 l2 l3 l4 l5 l7 x S h => zD_op (ins := .iload 6) (len := 2) (c := (8, [l0, l1, l2, l3, l4, l5, some (.int x), l7], (.int x :: S), h)) (by decide +kernel) rfl rfl rfl rfl
set_option maxRecDepth 100000 in
theorem I_X9_mixedArcs : (∀ (a : Nat) (p0 : Int64) (p1 : Int32) (h : zH), zC 74 [.ref a, .long p0, .int p1] h = zD 74 0 [some (.ref a), some (.long p0), none, some (.int p1), none, none, none, none] [] h) :=
  fun a p0 p1 h => zC_def rfl
set_option maxRecDepth 100000 in
theorem E_X9_mixedKept : (∀ (l0 l1 l3 l4 l5 : Option Value) (x : Nat) (S : List Value) (h : zH), zD 75 0 [l0, l1, some (.ref x), l3, l4, l5] S h = zD 75 1 [l0, l1, some (.ref x), l3, l4, l5] (.ref x :: S) h) ∧
  (∀ (l0 l1 l3 l4 l5 : Option Value) (S : List Value) (h : zH), zD 75 0 [l0, l1, some .null, l3, l4, l5] S h = zD 75 1 [l0, l1, some .null, l3, l4, l5] (.null :: S) h) ∧
  (∀ (l0 l1 l2 l3 l4 l5 : Option Value) (r : List Value) (h : zH), zD 75 1 [l0, l1, l2, l3, l4, l5] (.null :: r) h = zD 75 4 [l0, l1, l2, l3, l4, l5] r h) ∧
  (∀ (l0 l1 l2 l3 l4 l5 : Option Value) (x : Nat) (r : List Value) (h : zH), zD 75 1 [l0, l1, l2, l3, l4, l5] (.ref x :: r) h = zD 75 10 [l0, l1, l2, l3, l4, l5] r h) ∧
  (∀ (l1 l2 l3 l4 l5 : Option Value) (x : Int64) (S : List Value) (h : zH), zD 75 4 [some (.long x), l1, l2, l3, l4, l5] S h = zD 75 5 [some (.long x), l1, l2, l3, l4, l5] (.long x :: S) h) ∧
  (∀ (l0 l1 l2 l3 l4 l5 : Option Value) (S : List Value) (h : zH), zD 75 5 [l0, l1, l2, l3, l4, l5] S h = zD 75 6 [l0, l1, l2, l3, l4, l5] (.int (-1 : Int32) :: S) h) ∧
  (∀ (l0 l1 l2 l3 l4 l5 : Option Value) (p0 : Int64) (p1 : Int32) (r : List Value) (h : zH) (hcat : zcat r ≤ 8) (hC : (zC 22 [.long p0, .int p1] h).isSome = true), zD 75 6 [l0, l1, l2, l3, l4, l5] (.int p1 :: .long p0 :: r) h = zD 75 9 [l0, l1, l2, l3, l4, l5] (zgv (zC 22 [.long p0, .int p1] h) ++ r) (zgh h (zC 22 [.long p0, .int p1] h))) ∧
  (∀ (l0 l1 l2 l3 l4 l5 : Option Value) (v : Int64) (h : zH), zD 75 9 [l0, l1, l2, l3, l4, l5] [.long v] h = some (some (.long v), h)) ∧
  (∀ (l1 l2 l3 l4 l5 : Option Value) (x : Int64) (S : List Value) (h : zH), zD 75 10 [some (.long x), l1, l2, l3, l4, l5] S h = zD 75 11 [some (.long x), l1, l2, l3, l4, l5] (.long x :: S) h) ∧
  (∀ (l0 l1 l3 l4 l5 : Option Value) (x : Nat) (S : List Value) (h : zH), zD 75 11 [l0, l1, some (.ref x), l3, l4, l5] S h = zD 75 12 [l0, l1, some (.ref x), l3, l4, l5] (.ref x :: S) h) ∧
  (∀ (l0 l1 l3 l4 l5 : Option Value) (S : List Value) (h : zH), zD 75 11 [l0, l1, some .null, l3, l4, l5] S h = zD 75 12 [l0, l1, some .null, l3, l4, l5] (.null :: S) h) ∧
  (∀ (l0 l1 l2 l3 l4 l5 : Option Value) (a : Nat) (r : List Value) (h : zH) (hx : zfok (h.2.2 a) 3 2 = true), zD 75 12 [l0, l1, l2, l3, l4, l5] (.ref a :: r) h = zD 75 15 [l0, l1, l2, l3, l4, l5] (zfv (h.2.2 a) 2 :: r) h) ∧
  (∀ (l0 l1 l2 l3 l4 l5 : Option Value) (p0 : Int64) (p1 : Int32) (r : List Value) (h : zH) (hcat : zcat r ≤ 8) (hC : (zC 22 [.long p0, .int p1] h).isSome = true), zD 75 15 [l0, l1, l2, l3, l4, l5] (.int p1 :: .long p0 :: r) h = zD 75 18 [l0, l1, l2, l3, l4, l5] (zgv (zC 22 [.long p0, .int p1] h) ++ r) (zgh h (zC 22 [.long p0, .int p1] h))) ∧
  (∀ (l0 l1 l2 l3 l4 l5 : Option Value) (x : Int64) (r : List Value) (h : zH), zD 75 18 [l0, l1, l2, l3, l4, l5] (.long x :: r) h = zD 75 19 [l0, l1, zclr l2, some (.long x), none, l5] r h) ∧
  (∀ (l0 l1 l2 l3 l4 l5 : Option Value) (S : List Value) (h : zH), zD 75 19 [l0, l1, l2, l3, l4, l5] S h = zD 75 20 [l0, l1, l2, l3, l4, l5] (.int (1 : Int32) :: S) h) ∧
  (∀ (l0 l1 l2 l3 l4 l5 : Option Value) (x : Int32) (r : List Value) (h : zH), zD 75 20 [l0, l1, l2, l3, l4, l5] (.int x :: r) h = zD 75 22 [l0, l1, l2, l3, zclr l4, some (.int x)] r h) ∧
  (∀ (l0 l1 l3 l4 l5 : Option Value) (x : Nat) (S : List Value) (h : zH), zD 75 24 [l0, l1, some (.ref x), l3, l4, l5] S h = zD 75 25 [l0, l1, some (.ref x), l3, l4, l5] (.ref x :: S) h) ∧
  (∀ (l0 l1 l3 l4 l5 : Option Value) (S : List Value) (h : zH), zD 75 24 [l0, l1, some .null, l3, l4, l5] S h = zD 75 25 [l0, l1, some .null, l3, l4, l5] (.null :: S) h) ∧
  (∀ (l0 l1 l2 l3 l4 l5 : Option Value) (a : Nat) (r : List Value) (h : zH) (hx : zfok (h.2.2 a) 3 2 = true), zD 75 25 [l0, l1, l2, l3, l4, l5] (.ref a :: r) h = zD 75 28 [l0, l1, l2, l3, l4, l5] (zfv (h.2.2 a) 2 :: r) h) ∧
  (∀ (l0 l1 l2 l3 l4 l5 : Option Value) (x y : Int32) (r : List Value) (h : zH), zD 75 28 [l0, l1, l2, l3, l4, l5] (.int y :: .int x :: r) h = if y < x then zD 75 59 [l0, l1, l2, l3, l4, l5] r h else zD 75 31 [l0, l1, l2, l3, l4, l5] r h) ∧
  (∀ (l0 l1 l2 l4 l5 : Option Value) (x : Int64) (S : List Value) (h : zH), zD 75 31 [l0, l1, l2, some (.long x), l4, l5] S h = zD 75 32 [l0, l1, l2, some (.long x), l4, l5] (.long x :: S) h) ∧
  (∀ (l0 l1 l3 l4 l5 : Option Value) (x : Nat) (S : List Value) (h : zH), zD 75 32 [l0, l1, some (.ref x), l3, l4, l5] S h = zD 75 33 [l0, l1, some (.ref x), l3, l4, l5] (.ref x :: S) h) ∧
  (∀ (l0 l1 l3 l4 l5 : Option Value) (S : List Value) (h : zH), zD 75 32 [l0, l1, some .null, l3, l4, l5] S h = zD 75 33 [l0, l1, some .null, l3, l4, l5] (.null :: S) h) ∧
  (∀ (l0 l1 l2 l3 l4 l5 : Option Value) (a : Nat) (r : List Value) (h : zH) (hx : zfok (h.2.2 a) 3 0 = true), zD 75 33 [l0, l1, l2, l3, l4, l5] (.ref a :: r) h = zD 75 36 [l0, l1, l2, l3, l4, l5] (zfv (h.2.2 a) 0 :: r) h) ∧
  (∀ (l0 l1 l2 l3 l4 : Option Value) (x : Int32) (S : List Value) (h : zH), zD 75 36 [l0, l1, l2, l3, l4, some (.int x)] S h = zD 75 38 [l0, l1, l2, l3, l4, some (.int x)] (.int x :: S) h) ∧
  (∀ (l0 l1 l2 l3 l4 l5 : Option Value) (i : Int32) (a : Nat) (r : List Value) (h : zH) (hx : ziok a (h.2.2 a) i = true), zD 75 38 [l0, l1, l2, l3, l4, l5] (.int i :: .ref a :: r) h = zD 75 39 [l0, l1, l2, l3, l4, l5] (.int (ziv (h.2.2 a) i) :: r) h) ∧
  (∀ (l0 l1 l2 l3 l4 l5 : Option Value) (p0 : Int64) (p1 : Int32) (r : List Value) (h : zH) (hcat : zcat r ≤ 8) (hC : (zC 22 [.long p0, .int p1] h).isSome = true), zD 75 39 [l0, l1, l2, l3, l4, l5] (.int p1 :: .long p0 :: r) h = zD 75 42 [l0, l1, l2, l3, l4, l5] (zgv (zC 22 [.long p0, .int p1] h) ++ r) (zgh h (zC 22 [.long p0, .int p1] h))) ∧
  (∀ (l0 l1 l3 l4 l5 : Option Value) (x : Nat) (S : List Value) (h : zH), zD 75 42 [l0, l1, some (.ref x), l3, l4, l5] S h = zD 75 43 [l0, l1, some (.ref x), l3, l4, l5] (.ref x :: S) h) ∧
  (∀ (l0 l1 l3 l4 l5 : Option Value) (S : List Value) (h : zH), zD 75 42 [l0, l1, some .null, l3, l4, l5] S h = zD 75 43 [l0, l1, some .null, l3, l4, l5] (.null :: S) h) ∧
  (∀ (l0 l1 l2 l3 l4 l5 : Option Value) (a : Nat) (r : List Value) (h : zH) (hx : zfok (h.2.2 a) 3 1 = true), zD 75 43 [l0, l1, l2, l3, l4, l5] (.ref a :: r) h = zD 75 46 [l0, l1, l2, l3, l4, l5] (zfv (h.2.2 a) 1 :: r) h) ∧
  (∀ (l0 l1 l2 l3 l4 : Option Value) (x : Int32) (S : List Value) (h : zH), zD 75 46 [l0, l1, l2, l3, l4, some (.int x)] S h = zD 75 48 [l0, l1, l2, l3, l4, some (.int x)] (.int x :: S) h) ∧
  (∀ (l0 l1 l2 l3 l4 l5 : Option Value) (i : Int32) (a : Nat) (r : List Value) (h : zH) (hx : ziok a (h.2.2 a) i = true), zD 75 48 [l0, l1, l2, l3, l4, l5] (.int i :: .ref a :: r) h = zD 75 49 [l0, l1, l2, l3, l4, l5] (.int (ziv (h.2.2 a) i) :: r) h) ∧
  (∀ (l0 l1 l2 l3 l4 l5 : Option Value) (p0 : Int64) (p1 : Int32) (r : List Value) (h : zH) (hcat : zcat r ≤ 8) (hC : (zC 22 [.long p0, .int p1] h).isSome = true), zD 75 49 [l0, l1, l2, l3, l4, l5] (.int p1 :: .long p0 :: r) h = zD 75 52 [l0, l1, l2, l3, l4, l5] (zgv (zC 22 [.long p0, .int p1] h) ++ r) (zgh h (zC 22 [.long p0, .int p1] h))) ∧
  (∀ (l0 l1 l2 l3 l4 l5 : Option Value) (x : Int64) (r : List Value) (h : zH), zD 75 52 [l0, l1, l2, l3, l4, l5] (.long x :: r) h = zD 75 53 [l0, l1, zclr l2, some (.long x), none, l5] r h) ∧
  (∀ (l0 l1 l2 l3 l4 : Option Value) (x : Int32) (S : List Value) (h : zH), zD 75 53 [l0, l1, l2, l3, l4, some (.int x)] S h = zD 75 56 [l0, l1, l2, l3, zclr l4, some (.int (x + (1 : Int32)))] S h) ∧
  (∀ (l0 l1 l2 l3 l4 l5 : Option Value) (S : List Value) (h : zH), zD 75 56 [l0, l1, l2, l3, l4, l5] S h = zD 75 22 [l0, l1, l2, l3, l4, l5] S h) ∧
  (∀ (l0 l1 l2 l4 l5 : Option Value) (x : Int64) (S : List Value) (h : zH), zD 75 59 [l0, l1, l2, some (.long x), l4, l5] S h = zD 75 60 [l0, l1, l2, some (.long x), l4, l5] (.long x :: S) h) ∧
  (∀ (l0 l1 l2 l3 l4 l5 : Option Value) (v : Int64) (h : zH), zD 75 60 [l0, l1, l2, l3, l4, l5] [.long v] h = some (some (.long v), h)) :=
  ⟨fun l0 l1 l3 l4 l5 x S h => zD_op (ins := .aload_n 2) (len := 1) (c := (1, [l0, l1, some (.ref x), l3, l4, l5], (.ref x :: S), h)) (by decide +kernel) rfl rfl rfl rfl,
  fun l0 l1 l3 l4 l5 S h => zD_op (ins := .aload_n 2) (len := 1) (c := (1, [l0, l1, some .null, l3, l4, l5], (.null :: S), h)) (by decide +kernel) rfl rfl rfl rfl,
  fun l0 l1 l2 l3 l4 l5 r h => zD_nn (off := 9) (t := 10) (by decide +kernel) (by decide),
  fun l0 l1 l2 l3 l4 l5 x r h => zD_nnr (off := 9) (t := 10) (by decide +kernel) (by decide),
  fun l1 l2 l3 l4 l5 x S h => zD_op (ins := .lload_n 0) (len := 1) (c := (5, [some (.long x), l1, l2, l3, l4, l5], (.long x :: S), h)) (by decide +kernel) rfl rfl rfl rfl,
  fun l0 l1 l2 l3 l4 l5 S h => zD_icst (n := (-1)) (by decide +kernel) (by decide +kernel),
  fun l0 l1 l2 l3 l4 l5 p0 p1 r h hcat hC => zD_calls (i := 252) (y := 22) (n := 2) (as := [.long p0, .int p1]) (by decide +kernel) (by decide +kernel) rfl (by decide +kernel) (Nat.le_of_ble_eq_true rfl) hcat hC,
  fun l0 l1 l2 l3 l4 l5 v h => zD_lret (by decide +kernel) rfl,
  fun l1 l2 l3 l4 l5 x S h => zD_op (ins := .lload_n 0) (len := 1) (c := (11, [some (.long x), l1, l2, l3, l4, l5], (.long x :: S), h)) (by decide +kernel) rfl rfl rfl rfl,
  fun l0 l1 l3 l4 l5 x S h => zD_op (ins := .aload_n 2) (len := 1) (c := (12, [l0, l1, some (.ref x), l3, l4, l5], (.ref x :: S), h)) (by decide +kernel) rfl rfl rfl rfl,
  fun l0 l1 l3 l4 l5 S h => zD_op (ins := .aload_n 2) (len := 1) (c := (12, [l0, l1, some .null, l3, l4, l5], (.null :: S), h)) (by decide +kernel) rfl rfl rfl rfl,
  fun l0 l1 l2 l3 l4 l5 a r h hx => zD_getf (i := 166) (ci := 3) (k := 2) (q := (90, 1)) (by decide +kernel) (by decide +kernel) hx,
  fun l0 l1 l2 l3 l4 l5 p0 p1 r h hcat hC => zD_calls (i := 252) (y := 22) (n := 2) (as := [.long p0, .int p1]) (by decide +kernel) (by decide +kernel) rfl (by decide +kernel) (Nat.le_of_ble_eq_true rfl) hcat hC,
  fun l0 l1 l2 l3 l4 l5 x r h => zD_st2 (k := 3) (ins := .lstore_n 3) (len := 1) (by decide +kernel) rfl rfl rfl (by decide +kernel) rfl rfl,
  fun l0 l1 l2 l3 l4 l5 S h => zD_icst (n := 1) (by decide +kernel) (by decide +kernel),
  fun l0 l1 l2 l3 l4 l5 x r h => zD_st1 (k := 5) (ins := .istore 5) (len := 2) (by decide +kernel) rfl rfl rfl (by decide +kernel) rfl rfl,
  fun l0 l1 l3 l4 l5 x S h => zD_op (ins := .aload_n 2) (len := 1) (c := (25, [l0, l1, some (.ref x), l3, l4, l5], (.ref x :: S), h)) (by decide +kernel) rfl rfl rfl rfl,
  fun l0 l1 l3 l4 l5 S h => zD_op (ins := .aload_n 2) (len := 1) (c := (25, [l0, l1, some .null, l3, l4, l5], (.null :: S), h)) (by decide +kernel) rfl rfl rfl rfl,
  fun l0 l1 l2 l3 l4 l5 a r h hx => zD_getf (i := 166) (ci := 3) (k := 2) (q := (90, 1)) (by decide +kernel) (by decide +kernel) hx,
  fun l0 l1 l2 l3 l4 l5 x y r h => zD_if (cnd := .gt) (off := 31) (by decide +kernel) (by decide) rfl,
  fun l0 l1 l2 l4 l5 x S h => zD_op (ins := .lload_n 3) (len := 1) (c := (32, [l0, l1, l2, some (.long x), l4, l5], (.long x :: S), h)) (by decide +kernel) rfl rfl rfl rfl,
  fun l0 l1 l3 l4 l5 x S h => zD_op (ins := .aload_n 2) (len := 1) (c := (33, [l0, l1, some (.ref x), l3, l4, l5], (.ref x :: S), h)) (by decide +kernel) rfl rfl rfl rfl,
  fun l0 l1 l3 l4 l5 S h => zD_op (ins := .aload_n 2) (len := 1) (c := (33, [l0, l1, some .null, l3, l4, l5], (.null :: S), h)) (by decide +kernel) rfl rfl rfl rfl,
  fun l0 l1 l2 l3 l4 l5 a r h hx => zD_getf (i := 79) (ci := 3) (k := 0) (q := (79, 1)) (by decide +kernel) (by decide +kernel) hx,
  fun l0 l1 l2 l3 l4 x S h => zD_op (ins := .iload 5) (len := 2) (c := (38, [l0, l1, l2, l3, l4, some (.int x)], (.int x :: S), h)) (by decide +kernel) rfl rfl rfl rfl,
  fun l0 l1 l2 l3 l4 l5 i a r h hx => zD_iald (by decide +kernel) hx,
  fun l0 l1 l2 l3 l4 l5 p0 p1 r h hcat hC => zD_calls (i := 252) (y := 22) (n := 2) (as := [.long p0, .int p1]) (by decide +kernel) (by decide +kernel) rfl (by decide +kernel) (Nat.le_of_ble_eq_true rfl) hcat hC,
  fun l0 l1 l3 l4 l5 x S h => zD_op (ins := .aload_n 2) (len := 1) (c := (43, [l0, l1, some (.ref x), l3, l4, l5], (.ref x :: S), h)) (by decide +kernel) rfl rfl rfl rfl,
  fun l0 l1 l3 l4 l5 S h => zD_op (ins := .aload_n 2) (len := 1) (c := (43, [l0, l1, some .null, l3, l4, l5], (.null :: S), h)) (by decide +kernel) rfl rfl rfl rfl,
  fun l0 l1 l2 l3 l4 l5 a r h hx => zD_getf (i := 100) (ci := 3) (k := 1) (q := (84, 1)) (by decide +kernel) (by decide +kernel) hx,
  fun l0 l1 l2 l3 l4 x S h => zD_op (ins := .iload 5) (len := 2) (c := (48, [l0, l1, l2, l3, l4, some (.int x)], (.int x :: S), h)) (by decide +kernel) rfl rfl rfl rfl,
  fun l0 l1 l2 l3 l4 l5 i a r h hx => zD_iald (by decide +kernel) hx,
  fun l0 l1 l2 l3 l4 l5 p0 p1 r h hcat hC => zD_calls (i := 252) (y := 22) (n := 2) (as := [.long p0, .int p1]) (by decide +kernel) (by decide +kernel) rfl (by decide +kernel) (Nat.le_of_ble_eq_true rfl) hcat hC,
  fun l0 l1 l2 l3 l4 l5 x r h => zD_st2 (k := 3) (ins := .lstore_n 3) (len := 1) (by decide +kernel) rfl rfl rfl (by decide +kernel) rfl rfl,
  fun l0 l1 l2 l3 l4 x S h => zD_iinc (k := 5) (x := x) (c := (1 : Int32)) (n := 1) (by decide +kernel) (by decide +kernel) rfl (by decide +kernel) rfl,
  fun l0 l1 l2 l3 l4 l5 S h => zD_goto (off := (-34)) (by decide +kernel) (by decide),
  fun l0 l1 l2 l4 l5 x S h => zD_op (ins := .lload_n 3) (len := 1) (c := (60, [l0, l1, l2, some (.long x), l4, l5], (.long x :: S), h)) (by decide +kernel) rfl rfl rfl rfl,
  fun l0 l1 l2 l3 l4 l5 v h => zD_lret (by decide +kernel) rfl⟩
set_option maxRecDepth 100000 in
theorem E_X9_mixedKept_h22 : (∀ (l0 l1 l2 l3 l4 : Option Value) (x : Int32) (S : List Value) (h : zH), zD 75 22 [l0, l1, l2, l3, l4, some (.int x)] S h = zD 75 24 [l0, l1, l2, l3, l4, some (.int x)] (.int x :: S) h) :=
  fun l0 l1 l2 l3 l4 x S h => zD_op (ins := .iload 5) (len := 2) (c := (24, [l0, l1, l2, l3, l4, some (.int x)], (.int x :: S), h)) (by decide +kernel) rfl rfl rfl rfl
set_option maxRecDepth 100000 in
theorem I_X9_mixedKept : (∀ (p0 : Int64) (p1 : Nat) (h : zH), zC 75 [.long p0, .ref p1] h = zD 75 0 [some (.long p0), none, some (.ref p1), none, none, none] [] h) ∧
  (∀ (p0 : Int64) (h : zH), zC 75 [.long p0, .null] h = zD 75 0 [some (.long p0), none, some .null, none, none, none] [] h) :=
  ⟨fun p0 p1 h => zC_def rfl,
  fun p0 h => zC_def rfl⟩
