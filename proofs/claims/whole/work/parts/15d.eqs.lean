set_option maxRecDepth 100000 in
theorem E_X10_init : (∀ (x : Nat) (S : List Value) (h : zH), zD 76 0 [some (.ref x)] S h = zD 76 1 [some (.ref x)] (.ref x :: S) h) ∧
  (∀ (l0 : Option Value) (a : Nat) (r : List Value) (h : zH) (hcat : zcat r ≤ 8), zD 76 1 [l0] (.ref a :: r) h = zD 76 4 [l0] r h) ∧
  (∀ (x : Nat) (S : List Value) (h : zH), zD 76 4 [some (.ref x)] S h = zD 76 5 [some (.ref x)] (.ref x :: S) h) ∧
  (∀ (l0 : Option Value) (S : List Value) (h : zH), zD 76 5 [l0] S h = zD 76 6 [l0] (.int (1 : Int32) :: S) h) ∧
  (∀ (l0 : Option Value) (v : Int32) (a : Nat) (r : List Value) (h : zH) (hx : zfok (h.2.2 a) 9 0 = true), zD 76 6 [l0] (.int v :: .ref a :: r) h = zD 76 9 [l0] r (zw h a (zfs' (h.2.2 a) 0 (.int v)))) ∧
  (∀ (x : Nat) (S : List Value) (h : zH), zD 76 9 [some (.ref x)] S h = zD 76 10 [some (.ref x)] (.ref x :: S) h) ∧
  (∀ (l0 : Option Value) (S : List Value) (h : zH), zD 76 10 [l0] S h = zD 76 12 [l0] (.int (8 : Int32) :: S) h) ∧
  (∀ (l0 : Option Value) (n : Int32) (r : List Value) (h : zH) (hx : znok n = true), zD 76 12 [l0] (.int n :: r) h = zD 76 14 [l0] (.ref h.1 :: r) (znew h n.toNatClampNeg (.inl (0, n.toNatClampNeg, .inl (fun _ => 0))))) ∧
  (∀ (l0 : Option Value) (v : Nat) (a : Nat) (r : List Value) (h : zH) (hx : zfok (h.2.2 a) 9 1 = true), zD 76 14 [l0] (.ref v :: .ref a :: r) h = zD 76 17 [l0] r (zw h a (zfs' (h.2.2 a) 1 (.ref v)))) ∧
  (∀ (x : Nat) (S : List Value) (h : zH), zD 76 17 [some (.ref x)] S h = zD 76 18 [some (.ref x)] (.ref x :: S) h) ∧
  (∀ (l0 : Option Value) (S : List Value) (h : zH), zD 76 18 [l0] S h = zD 76 20 [l0] (.int (8 : Int32) :: S) h) ∧
  (∀ (l0 : Option Value) (n : Int32) (r : List Value) (h : zH) (hx : znok n = true), zD 76 20 [l0] (.int n :: r) h = zD 76 22 [l0] (.ref h.1 :: r) (znew h n.toNatClampNeg (.inl (0, n.toNatClampNeg, .inl (fun _ => 0))))) ∧
  (∀ (l0 : Option Value) (v : Nat) (a : Nat) (r : List Value) (h : zH) (hx : zfok (h.2.2 a) 9 2 = true), zD 76 22 [l0] (.ref v :: .ref a :: r) h = zD 76 25 [l0] r (zw h a (zfs' (h.2.2 a) 2 (.ref v)))) ∧
  (∀ (x : Nat) (S : List Value) (h : zH), zD 76 25 [some (.ref x)] S h = zD 76 26 [some (.ref x)] (.ref x :: S) h) ∧
  (∀ (l0 : Option Value) (S : List Value) (h : zH), zD 76 26 [l0] S h = zD 76 28 [l0] (.int (64 : Int32) :: S) h) ∧
  (∀ (l0 : Option Value) (n : Int32) (r : List Value) (h : zH) (hx : znok n = true), zD 76 28 [l0] (.int n :: r) h = zD 76 30 [l0] (.ref h.1 :: r) (znew h n.toNatClampNeg (.inl (0, n.toNatClampNeg, .inl (fun _ => 0))))) ∧
  (∀ (l0 : Option Value) (v : Nat) (a : Nat) (r : List Value) (h : zH) (hx : zfok (h.2.2 a) 9 3 = true), zD 76 30 [l0] (.ref v :: .ref a :: r) h = zD 76 33 [l0] r (zw h a (zfs' (h.2.2 a) 3 (.ref v)))) ∧
  (∀ (x : Nat) (S : List Value) (h : zH), zD 76 33 [some (.ref x)] S h = zD 76 34 [some (.ref x)] (.ref x :: S) h) ∧
  (∀ (l0 : Option Value) (S : List Value) (h : zH), zD 76 34 [l0] S h = zD 76 36 [l0] (.int (64 : Int32) :: S) h) ∧
  (∀ (l0 : Option Value) (n : Int32) (r : List Value) (h : zH) (hx : znok n = true), zD 76 36 [l0] (.int n :: r) h = zD 76 38 [l0] (.ref h.1 :: r) (znew h n.toNatClampNeg (.inl (2, n.toNatClampNeg, .inl (fun _ => 0))))) ∧
  (∀ (l0 : Option Value) (v : Nat) (a : Nat) (r : List Value) (h : zH) (hx : zfok (h.2.2 a) 9 4 = true), zD 76 38 [l0] (.ref v :: .ref a :: r) h = zD 76 41 [l0] r (zw h a (zfs' (h.2.2 a) 4 (.ref v)))) ∧
  (∀ (x : Nat) (S : List Value) (h : zH), zD 76 41 [some (.ref x)] S h = zD 76 42 [some (.ref x)] (.ref x :: S) h) ∧
  (∀ (l0 : Option Value) (S : List Value) (h : zH), zD 76 42 [l0] S h = zD 76 43 [l0] (.int (2 : Int32) :: S) h) ∧
  (∀ (l0 : Option Value) (n : Int32) (r : List Value) (h : zH) (hx : znok n = true), zD 76 43 [l0] (.int n :: r) h = zD 76 45 [l0] (.ref h.1 :: r) (znew h n.toNatClampNeg (.inl (1, n.toNatClampNeg, .inr (.inl (fun _ => 0)))))) ∧
  (∀ (l0 : Option Value) (v : Nat) (a : Nat) (r : List Value) (h : zH) (hx : zfok (h.2.2 a) 9 6 = true), zD 76 45 [l0] (.ref v :: .ref a :: r) h = zD 76 48 [l0] r (zw h a (zfs' (h.2.2 a) 6 (.ref v)))) ∧
  (∀ (x : Nat) (S : List Value) (h : zH), zD 76 48 [some (.ref x)] S h = zD 76 49 [some (.ref x)] (.ref x :: S) h) ∧
  (∀ (l0 : Option Value) (S : List Value) (h : zH), zD 76 49 [l0] S h = zD 76 50 [l0] (.int (2 : Int32) :: S) h) ∧
  (∀ (l0 : Option Value) (n : Int32) (r : List Value) (h : zH) (hx : znok n = true), zD 76 50 [l0] (.int n :: r) h = zD 76 52 [l0] (.ref h.1 :: r) (znew h n.toNatClampNeg (.inl (0, n.toNatClampNeg, .inl (fun _ => 0))))) ∧
  (∀ (l0 : Option Value) (v : Nat) (a : Nat) (r : List Value) (h : zH) (hx : zfok (h.2.2 a) 9 7 = true), zD 76 52 [l0] (.ref v :: .ref a :: r) h = zD 76 55 [l0] r (zw h a (zfs' (h.2.2 a) 7 (.ref v)))) ∧
  (∀ (x : Nat) (S : List Value) (h : zH), zD 76 55 [some (.ref x)] S h = zD 76 56 [some (.ref x)] (.ref x :: S) h) ∧
  (∀ (l0 : Option Value) (S : List Value) (h : zH), zD 76 56 [l0] S h = zD 76 58 [l0] (.int (62 : Int32) :: S) h) ∧
  (∀ (l0 : Option Value) (n : Int32) (r : List Value) (h : zH) (hx : znok n = true), zD 76 58 [l0] (.int n :: r) h = zD 76 60 [l0] (.ref h.1 :: r) (znew h n.toNatClampNeg (.inl (0, n.toNatClampNeg, .inl (fun _ => 0))))) ∧
  (∀ (l0 : Option Value) (v : Nat) (a : Nat) (r : List Value) (h : zH) (hx : zfok (h.2.2 a) 9 8 = true), zD 76 60 [l0] (.ref v :: .ref a :: r) h = zD 76 63 [l0] r (zw h a (zfs' (h.2.2 a) 8 (.ref v)))) ∧
  (∀ (x : Nat) (S : List Value) (h : zH), zD 76 63 [some (.ref x)] S h = zD 76 64 [some (.ref x)] (.ref x :: S) h) ∧
  (∀ (l0 : Option Value) (S : List Value) (h : zH), zD 76 64 [l0] S h = zD 76 67 [l0] (.int (496 : Int32) :: S) h) ∧
  (∀ (l0 : Option Value) (n : Int32) (r : List Value) (h : zH) (hx : znok n = true), zD 76 67 [l0] (.int n :: r) h = zD 76 69 [l0] (.ref h.1 :: r) (znew h n.toNatClampNeg (.inl (0, n.toNatClampNeg, .inl (fun _ => 0))))) ∧
  (∀ (l0 : Option Value) (v : Nat) (a : Nat) (r : List Value) (h : zH) (hx : zfok (h.2.2 a) 9 9 = true), zD 76 69 [l0] (.ref v :: .ref a :: r) h = zD 76 72 [l0] r (zw h a (zfs' (h.2.2 a) 9 (.ref v)))) ∧
  (∀ (x : Nat) (S : List Value) (h : zH), zD 76 72 [some (.ref x)] S h = zD 76 73 [some (.ref x)] (.ref x :: S) h) ∧
  (∀ (l0 : Option Value) (S : List Value) (h : zH), zD 76 73 [l0] S h = zD 76 75 [l0] (.int (20 : Int32) :: S) h) ∧
  (∀ (l0 : Option Value) (n : Int32) (r : List Value) (h : zH) (hx : znok n = true), zD 76 75 [l0] (.int n :: r) h = zD 76 77 [l0] (.ref h.1 :: r) (znew h n.toNatClampNeg (.inl (2, n.toNatClampNeg, .inl (fun _ => 0))))) ∧
  (∀ (l0 : Option Value) (v : Nat) (a : Nat) (r : List Value) (h : zH) (hx : zfok (h.2.2 a) 9 11 = true), zD 76 77 [l0] (.ref v :: .ref a :: r) h = zD 76 80 [l0] r (zw h a (zfs' (h.2.2 a) 11 (.ref v)))) ∧
  (∀ (x : Nat) (S : List Value) (h : zH), zD 76 80 [some (.ref x)] S h = zD 76 81 [some (.ref x)] (.ref x :: S) h) ∧
  (∀ (l0 : Option Value) (S : List Value) (h : zH), zD 76 81 [l0] S h = zD 76 83 [l0] (.int (20 : Int32) :: S) h) ∧
  (∀ (l0 : Option Value) (n : Int32) (r : List Value) (h : zH) (hx : znok n = true), zD 76 83 [l0] (.int n :: r) h = zD 76 85 [l0] (.ref h.1 :: r) (znew h n.toNatClampNeg (.inl (0, n.toNatClampNeg, .inl (fun _ => 0))))) ∧
  (∀ (l0 : Option Value) (v : Nat) (a : Nat) (r : List Value) (h : zH) (hx : zfok (h.2.2 a) 9 12 = true), zD 76 85 [l0] (.ref v :: .ref a :: r) h = zD 76 88 [l0] r (zw h a (zfs' (h.2.2 a) 12 (.ref v)))) ∧
  (∀ (x : Nat) (S : List Value) (h : zH), zD 76 88 [some (.ref x)] S h = zD 76 89 [some (.ref x)] (.ref x :: S) h) ∧
  (∀ (l0 : Option Value) (S : List Value) (h : zH), zD 76 89 [l0] S h = zD 76 92 [l0] (.int (160 : Int32) :: S) h) ∧
  (∀ (l0 : Option Value) (n : Int32) (r : List Value) (h : zH) (hx : znok n = true), zD 76 92 [l0] (.int n :: r) h = zD 76 94 [l0] (.ref h.1 :: r) (znew h n.toNatClampNeg (.inl (0, n.toNatClampNeg, .inl (fun _ => 0))))) ∧
  (∀ (l0 : Option Value) (v : Nat) (a : Nat) (r : List Value) (h : zH) (hx : zfok (h.2.2 a) 9 13 = true), zD 76 94 [l0] (.ref v :: .ref a :: r) h = zD 76 97 [l0] r (zw h a (zfs' (h.2.2 a) 13 (.ref v)))) ∧
  (∀ (x : Nat) (S : List Value) (h : zH), zD 76 97 [some (.ref x)] S h = zD 76 98 [some (.ref x)] (.ref x :: S) h) ∧
  (∀ (l0 : Option Value) (S : List Value) (h : zH), zD 76 98 [l0] S h = zD 76 101 [l0] (.int (160 : Int32) :: S) h) ∧
  (∀ (l0 : Option Value) (n : Int32) (r : List Value) (h : zH) (hx : znok n = true), zD 76 101 [l0] (.int n :: r) h = zD 76 103 [l0] (.ref h.1 :: r) (znew h n.toNatClampNeg (.inl (0, n.toNatClampNeg, .inl (fun _ => 0))))) ∧
  (∀ (l0 : Option Value) (v : Nat) (a : Nat) (r : List Value) (h : zH) (hx : zfok (h.2.2 a) 9 14 = true), zD 76 103 [l0] (.ref v :: .ref a :: r) h = zD 76 106 [l0] r (zw h a (zfs' (h.2.2 a) 14 (.ref v)))) ∧
  (∀ (x : Nat) (S : List Value) (h : zH), zD 76 106 [some (.ref x)] S h = zD 76 107 [some (.ref x)] (.ref x :: S) h) ∧
  (∀ (l0 : Option Value) (S : List Value) (h : zH), zD 76 107 [l0] S h = zD 76 109 [l0] (.int (6 : Int32) :: S) h) ∧
  (∀ (l0 : Option Value) (n : Int32) (r : List Value) (h : zH) (hx : znok n = true), zD 76 109 [l0] (.int n :: r) h = zD 76 111 [l0] (.ref h.1 :: r) (znew h n.toNatClampNeg (.inl (0, n.toNatClampNeg, .inl (fun _ => 0))))) ∧
  (∀ (l0 : Option Value) (v : Nat) (a : Nat) (r : List Value) (h : zH) (hx : zfok (h.2.2 a) 9 16 = true), zD 76 111 [l0] (.ref v :: .ref a :: r) h = zD 76 114 [l0] r (zw h a (zfs' (h.2.2 a) 16 (.ref v)))) ∧
  (∀ (x : Nat) (S : List Value) (h : zH), zD 76 114 [some (.ref x)] S h = zD 76 115 [some (.ref x)] (.ref x :: S) h) ∧
  (∀ (l0 : Option Value) (S : List Value) (h : zH), zD 76 115 [l0] S h = zD 76 117 [l0] (.int (6 : Int32) :: S) h) ∧
  (∀ (l0 : Option Value) (n : Int32) (r : List Value) (h : zH) (hx : znok n = true), zD 76 117 [l0] (.int n :: r) h = zD 76 119 [l0] (.ref h.1 :: r) (znew h n.toNatClampNeg (.inl (0, n.toNatClampNeg, .inl (fun _ => 0))))) ∧
  (∀ (l0 : Option Value) (v : Nat) (a : Nat) (r : List Value) (h : zH) (hx : zfok (h.2.2 a) 9 17 = true), zD 76 119 [l0] (.ref v :: .ref a :: r) h = zD 76 122 [l0] r (zw h a (zfs' (h.2.2 a) 17 (.ref v)))) ∧
  (∀ (x : Nat) (S : List Value) (h : zH), zD 76 122 [some (.ref x)] S h = zD 76 123 [some (.ref x)] (.ref x :: S) h) ∧
  (∀ (l0 : Option Value) (S : List Value) (h : zH), zD 76 123 [l0] S h = zD 76 125 [l0] (.int (6 : Int32) :: S) h) ∧
  (∀ (l0 : Option Value) (n : Int32) (r : List Value) (h : zH) (hx : znok n = true), zD 76 125 [l0] (.int n :: r) h = zD 76 127 [l0] (.ref h.1 :: r) (znew h n.toNatClampNeg (.inl (0, n.toNatClampNeg, .inl (fun _ => 0))))) ∧
  (∀ (l0 : Option Value) (v : Nat) (a : Nat) (r : List Value) (h : zH) (hx : zfok (h.2.2 a) 9 18 = true), zD 76 127 [l0] (.ref v :: .ref a :: r) h = zD 76 130 [l0] r (zw h a (zfs' (h.2.2 a) 18 (.ref v)))) ∧
  (∀ (x : Nat) (S : List Value) (h : zH), zD 76 130 [some (.ref x)] S h = zD 76 131 [some (.ref x)] (.ref x :: S) h) ∧
  (∀ (l0 : Option Value) (S : List Value) (h : zH), zD 76 131 [l0] S h = zD 76 133 [l0] (.int (8 : Int32) :: S) h) ∧
  (∀ (l0 : Option Value) (n : Int32) (r : List Value) (h : zH) (hx : znok n = true), zD 76 133 [l0] (.int n :: r) h = zD 76 135 [l0] (.ref h.1 :: r) (znew h n.toNatClampNeg (.inl (0, n.toNatClampNeg, .inl (fun _ => 0))))) ∧
  (∀ (l0 : Option Value) (v : Nat) (a : Nat) (r : List Value) (h : zH) (hx : zfok (h.2.2 a) 9 19 = true), zD 76 135 [l0] (.ref v :: .ref a :: r) h = zD 76 138 [l0] r (zw h a (zfs' (h.2.2 a) 19 (.ref v)))) ∧
  (∀ (x : Nat) (S : List Value) (h : zH), zD 76 138 [some (.ref x)] S h = zD 76 139 [some (.ref x)] (.ref x :: S) h) ∧
  (∀ (l0 : Option Value) (S : List Value) (h : zH), zD 76 139 [l0] S h = zD 76 140 [l0] (.int (4 : Int32) :: S) h) ∧
  (∀ (l0 : Option Value) (n : Int32) (r : List Value) (h : zH) (hx : znok n = true), zD 76 140 [l0] (.int n :: r) h = zD 76 142 [l0] (.ref h.1 :: r) (znew h n.toNatClampNeg (.inl (0, n.toNatClampNeg, .inl (fun _ => 0))))) ∧
  (∀ (l0 : Option Value) (v : Nat) (a : Nat) (r : List Value) (h : zH) (hx : zfok (h.2.2 a) 9 20 = true), zD 76 142 [l0] (.ref v :: .ref a :: r) h = zD 76 145 [l0] r (zw h a (zfs' (h.2.2 a) 20 (.ref v)))) ∧
  (∀ (x : Nat) (S : List Value) (h : zH), zD 76 145 [some (.ref x)] S h = zD 76 146 [some (.ref x)] (.ref x :: S) h) ∧
  (∀ (l0 : Option Value) (S : List Value) (h : zH), zD 76 146 [l0] S h = zD 76 147 [l0] (.int (4 : Int32) :: S) h) ∧
  (∀ (l0 : Option Value) (n : Int32) (r : List Value) (h : zH) (hx : znok n = true), zD 76 147 [l0] (.int n :: r) h = zD 76 149 [l0] (.ref h.1 :: r) (znew h n.toNatClampNeg (.inl (2, n.toNatClampNeg, .inl (fun _ => 0))))) ∧
  (∀ (l0 : Option Value) (v : Nat) (a : Nat) (r : List Value) (h : zH) (hx : zfok (h.2.2 a) 9 21 = true), zD 76 149 [l0] (.ref v :: .ref a :: r) h = zD 76 152 [l0] r (zw h a (zfs' (h.2.2 a) 21 (.ref v)))) ∧
  (∀ (x : Nat) (S : List Value) (h : zH), zD 76 152 [some (.ref x)] S h = zD 76 153 [some (.ref x)] (.ref x :: S) h) ∧
  (∀ (l0 : Option Value) (S : List Value) (h : zH), zD 76 153 [l0] S h = zD 76 155 [l0] (.int (64 : Int32) :: S) h) ∧
  (∀ (l0 : Option Value) (n : Int32) (r : List Value) (h : zH) (hx : znok n = true), zD 76 155 [l0] (.int n :: r) h = zD 76 157 [l0] (.ref h.1 :: r) (znew h n.toNatClampNeg (.inl (0, n.toNatClampNeg, .inl (fun _ => 0))))) ∧
  (∀ (l0 : Option Value) (v : Nat) (a : Nat) (r : List Value) (h : zH) (hx : zfok (h.2.2 a) 9 23 = true), zD 76 157 [l0] (.ref v :: .ref a :: r) h = zD 76 160 [l0] r (zw h a (zfs' (h.2.2 a) 23 (.ref v)))) ∧
  (∀ (l0 : Option Value) (h : zH), zD 76 160 [l0] [] h = some (none, h)) :=
  ⟨fun x S h => zD_op (ins := .aload_n 0) (len := 1) (c := (1, [some (.ref x)], (.ref x :: S), h)) (by decide +kernel) rfl rfl rfl rfl,
  fun l0 a r h hcat => zD_obj (i := 1) (q := 710) (by decide +kernel) (by decide +kernel) (by decide +kernel) (by decide +kernel) hcat,
  fun x S h => zD_op (ins := .aload_n 0) (len := 1) (c := (5, [some (.ref x)], (.ref x :: S), h)) (by decide +kernel) rfl rfl rfl rfl,
  fun l0 S h => zD_icst (n := 1) (by decide +kernel) (by decide +kernel),
  fun l0 v a r h hx => zD_putf (i := 7) (ci := 9) (k := 0) (q := (711, 0)) (by decide +kernel) (by decide +kernel) (by decide +kernel) hx rfl rfl,
  fun x S h => zD_op (ins := .aload_n 0) (len := 1) (c := (10, [some (.ref x)], (.ref x :: S), h)) (by decide +kernel) rfl rfl rfl rfl,
  fun l0 S h => zD_bip (n := 8) (by decide +kernel) (by decide +kernel),
  fun l0 n r h hx => zD_newi (by decide +kernel) hx,
  fun l0 v a r h hx => zD_putf (i := 13) (ci := 9) (k := 1) (q := (712, 0)) (by decide +kernel) (by decide +kernel) (by decide +kernel) hx rfl rfl,
  fun x S h => zD_op (ins := .aload_n 0) (len := 1) (c := (18, [some (.ref x)], (.ref x :: S), h)) (by decide +kernel) rfl rfl rfl rfl,
  fun l0 S h => zD_bip (n := 8) (by decide +kernel) (by decide +kernel),
  fun l0 n r h hx => zD_newi (by decide +kernel) hx,
  fun l0 v a r h hx => zD_putf (i := 17) (ci := 9) (k := 2) (q := (713, 0)) (by decide +kernel) (by decide +kernel) (by decide +kernel) hx rfl rfl,
  fun x S h => zD_op (ins := .aload_n 0) (len := 1) (c := (26, [some (.ref x)], (.ref x :: S), h)) (by decide +kernel) rfl rfl rfl rfl,
  fun l0 S h => zD_bip (n := 64) (by decide +kernel) (by decide +kernel),
  fun l0 n r h hx => zD_newi (by decide +kernel) hx,
  fun l0 v a r h hx => zD_putf (i := 20) (ci := 9) (k := 3) (q := (714, 0)) (by decide +kernel) (by decide +kernel) (by decide +kernel) hx rfl rfl,
  fun x S h => zD_op (ins := .aload_n 0) (len := 1) (c := (34, [some (.ref x)], (.ref x :: S), h)) (by decide +kernel) rfl rfl rfl rfl,
  fun l0 S h => zD_bip (n := 64) (by decide +kernel) (by decide +kernel),
  fun l0 n r h hx => zD_newz (by decide +kernel) hx,
  fun l0 v a r h hx => zD_putf (i := 23) (ci := 9) (k := 4) (q := (715, 0)) (by decide +kernel) (by decide +kernel) (by decide +kernel) hx rfl rfl,
  fun x S h => zD_op (ins := .aload_n 0) (len := 1) (c := (42, [some (.ref x)], (.ref x :: S), h)) (by decide +kernel) rfl rfl rfl rfl,
  fun l0 S h => zD_icst (n := 2) (by decide +kernel) (by decide +kernel),
  fun l0 n r h hx => zD_newl (by decide +kernel) hx,
  fun l0 v a r h hx => zD_putf (i := 27) (ci := 9) (k := 6) (q := (717, 0)) (by decide +kernel) (by decide +kernel) (by decide +kernel) hx rfl rfl,
  fun x S h => zD_op (ins := .aload_n 0) (len := 1) (c := (49, [some (.ref x)], (.ref x :: S), h)) (by decide +kernel) rfl rfl rfl rfl,
  fun l0 S h => zD_icst (n := 2) (by decide +kernel) (by decide +kernel),
  fun l0 n r h hx => zD_newi (by decide +kernel) hx,
  fun l0 v a r h hx => zD_putf (i := 31) (ci := 9) (k := 7) (q := (718, 0)) (by decide +kernel) (by decide +kernel) (by decide +kernel) hx rfl rfl,
  fun x S h => zD_op (ins := .aload_n 0) (len := 1) (c := (56, [some (.ref x)], (.ref x :: S), h)) (by decide +kernel) rfl rfl rfl rfl,
  fun l0 S h => zD_bip (n := 62) (by decide +kernel) (by decide +kernel),
  fun l0 n r h hx => zD_newi (by decide +kernel) hx,
  fun l0 v a r h hx => zD_putf (i := 34) (ci := 9) (k := 8) (q := (719, 0)) (by decide +kernel) (by decide +kernel) (by decide +kernel) hx rfl rfl,
  fun x S h => zD_op (ins := .aload_n 0) (len := 1) (c := (64, [some (.ref x)], (.ref x :: S), h)) (by decide +kernel) rfl rfl rfl rfl,
  fun l0 S h => zD_sip (n := 496) (by decide +kernel) (by decide +kernel),
  fun l0 n r h hx => zD_newi (by decide +kernel) hx,
  fun l0 v a r h hx => zD_putf (i := 37) (ci := 9) (k := 9) (q := (720, 0)) (by decide +kernel) (by decide +kernel) (by decide +kernel) hx rfl rfl,
  fun x S h => zD_op (ins := .aload_n 0) (len := 1) (c := (73, [some (.ref x)], (.ref x :: S), h)) (by decide +kernel) rfl rfl rfl rfl,
  fun l0 S h => zD_bip (n := 20) (by decide +kernel) (by decide +kernel),
  fun l0 n r h hx => zD_newz (by decide +kernel) hx,
  fun l0 v a r h hx => zD_putf (i := 40) (ci := 9) (k := 11) (q := (722, 0)) (by decide +kernel) (by decide +kernel) (by decide +kernel) hx rfl rfl,
  fun x S h => zD_op (ins := .aload_n 0) (len := 1) (c := (81, [some (.ref x)], (.ref x :: S), h)) (by decide +kernel) rfl rfl rfl rfl,
  fun l0 S h => zD_bip (n := 20) (by decide +kernel) (by decide +kernel),
  fun l0 n r h hx => zD_newi (by decide +kernel) hx,
  fun l0 v a r h hx => zD_putf (i := 43) (ci := 9) (k := 12) (q := (723, 0)) (by decide +kernel) (by decide +kernel) (by decide +kernel) hx rfl rfl,
  fun x S h => zD_op (ins := .aload_n 0) (len := 1) (c := (89, [some (.ref x)], (.ref x :: S), h)) (by decide +kernel) rfl rfl rfl rfl,
  fun l0 S h => zD_sip (n := 160) (by decide +kernel) (by decide +kernel),
  fun l0 n r h hx => zD_newi (by decide +kernel) hx,
  fun l0 v a r h hx => zD_putf (i := 46) (ci := 9) (k := 13) (q := (724, 0)) (by decide +kernel) (by decide +kernel) (by decide +kernel) hx rfl rfl,
  fun x S h => zD_op (ins := .aload_n 0) (len := 1) (c := (98, [some (.ref x)], (.ref x :: S), h)) (by decide +kernel) rfl rfl rfl rfl,
  fun l0 S h => zD_sip (n := 160) (by decide +kernel) (by decide +kernel),
  fun l0 n r h hx => zD_newi (by decide +kernel) hx,
  fun l0 v a r h hx => zD_putf (i := 49) (ci := 9) (k := 14) (q := (725, 0)) (by decide +kernel) (by decide +kernel) (by decide +kernel) hx rfl rfl,
  fun x S h => zD_op (ins := .aload_n 0) (len := 1) (c := (107, [some (.ref x)], (.ref x :: S), h)) (by decide +kernel) rfl rfl rfl rfl,
  fun l0 S h => zD_bip (n := 6) (by decide +kernel) (by decide +kernel),
  fun l0 n r h hx => zD_newi (by decide +kernel) hx,
  fun l0 v a r h hx => zD_putf (i := 52) (ci := 9) (k := 16) (q := (727, 0)) (by decide +kernel) (by decide +kernel) (by decide +kernel) hx rfl rfl,
  fun x S h => zD_op (ins := .aload_n 0) (len := 1) (c := (115, [some (.ref x)], (.ref x :: S), h)) (by decide +kernel) rfl rfl rfl rfl,
  fun l0 S h => zD_bip (n := 6) (by decide +kernel) (by decide +kernel),
  fun l0 n r h hx => zD_newi (by decide +kernel) hx,
  fun l0 v a r h hx => zD_putf (i := 55) (ci := 9) (k := 17) (q := (728, 0)) (by decide +kernel) (by decide +kernel) (by decide +kernel) hx rfl rfl,
  fun x S h => zD_op (ins := .aload_n 0) (len := 1) (c := (123, [some (.ref x)], (.ref x :: S), h)) (by decide +kernel) rfl rfl rfl rfl,
  fun l0 S h => zD_bip (n := 6) (by decide +kernel) (by decide +kernel),
  fun l0 n r h hx => zD_newi (by decide +kernel) hx,
  fun l0 v a r h hx => zD_putf (i := 58) (ci := 9) (k := 18) (q := (729, 0)) (by decide +kernel) (by decide +kernel) (by decide +kernel) hx rfl rfl,
  fun x S h => zD_op (ins := .aload_n 0) (len := 1) (c := (131, [some (.ref x)], (.ref x :: S), h)) (by decide +kernel) rfl rfl rfl rfl,
  fun l0 S h => zD_bip (n := 8) (by decide +kernel) (by decide +kernel),
  fun l0 n r h hx => zD_newi (by decide +kernel) hx,
  fun l0 v a r h hx => zD_putf (i := 61) (ci := 9) (k := 19) (q := (730, 0)) (by decide +kernel) (by decide +kernel) (by decide +kernel) hx rfl rfl,
  fun x S h => zD_op (ins := .aload_n 0) (len := 1) (c := (139, [some (.ref x)], (.ref x :: S), h)) (by decide +kernel) rfl rfl rfl rfl,
  fun l0 S h => zD_icst (n := 4) (by decide +kernel) (by decide +kernel),
  fun l0 n r h hx => zD_newi (by decide +kernel) hx,
  fun l0 v a r h hx => zD_putf (i := 64) (ci := 9) (k := 20) (q := (731, 0)) (by decide +kernel) (by decide +kernel) (by decide +kernel) hx rfl rfl,
  fun x S h => zD_op (ins := .aload_n 0) (len := 1) (c := (146, [some (.ref x)], (.ref x :: S), h)) (by decide +kernel) rfl rfl rfl rfl,
  fun l0 S h => zD_icst (n := 4) (by decide +kernel) (by decide +kernel),
  fun l0 n r h hx => zD_newz (by decide +kernel) hx,
  fun l0 v a r h hx => zD_putf (i := 67) (ci := 9) (k := 21) (q := (732, 0)) (by decide +kernel) (by decide +kernel) (by decide +kernel) hx rfl rfl,
  fun x S h => zD_op (ins := .aload_n 0) (len := 1) (c := (153, [some (.ref x)], (.ref x :: S), h)) (by decide +kernel) rfl rfl rfl rfl,
  fun l0 S h => zD_bip (n := 64) (by decide +kernel) (by decide +kernel),
  fun l0 n r h hx => zD_newi (by decide +kernel) hx,
  fun l0 v a r h hx => zD_putf (i := 70) (ci := 9) (k := 23) (q := (734, 0)) (by decide +kernel) (by decide +kernel) (by decide +kernel) hx rfl rfl,
  fun l0 h => zD_vret (by decide +kernel) rfl⟩
set_option maxRecDepth 100000 in
theorem I_X10_init : (∀ (a : Nat) (h : zH), zC 76 [.ref a] h = zD 76 0 [some (.ref a)] [] h) :=
  fun a h => zC_def rfl
set_option maxRecDepth 100000 in
theorem E_X10_words : (∀ (l0 : Option Value) (x : Int32) (S : List Value) (h : zH), zD 77 0 [l0, some (.int x)] S h = zD 77 1 [l0, some (.int x)] (.int x :: S) h) ∧
  (∀ (l0 l1 : Option Value) (S : List Value) (h : zH), zD 77 1 [l0, l1] S h = zD 77 2 [l0, l1] (.int (1 : Int32) :: S) h) ∧
  (∀ (l0 l1 : Option Value) (S : List Value) (h : zH), zD 77 2 [l0, l1] S h = zD 77 4 [l0, l1] (.int (7 : Int32) :: S) h) ∧
  (∀ (l0 l1 : Option Value) (p0 : Int32) (p1 : Int32) (p2 : Int32) (r : List Value) (h : zH) (hcat : zcat r ≤ 8) (hC : (zC 26 [.int p0, .int p1, .int p2] h).isSome = true), zD 77 4 [l0, l1] (.int p2 :: .int p1 :: .int p0 :: r) h = zD 77 7 [l0, l1] (zgv (zC 26 [.int p0, .int p1, .int p2] h) ++ r) (zgh h (zC 26 [.int p0, .int p1, .int p2] h))) ∧
  (∀ (l0 l1 : Option Value) (x : Int32) (r : List Value) (h : zH), zD 77 7 [l0, l1] (.int x :: r) h = if ¬ x = 0 then zD 77 13 [l0, l1] r h else zD 77 10 [l0, l1] r h) ∧
  (∀ (l0 l1 : Option Value) (S : List Value) (h : zH), zD 77 10 [l0, l1] S h = zD 77 12 [l0, l1] (.int (-102 : Int32) :: S) h) ∧
  (∀ (l0 l1 : Option Value) (v : Int32) (h : zH), zD 77 12 [l0, l1] [.int v] h = some (some (.int v), h)) ∧
  (∀ (l1 : Option Value) (x : Nat) (S : List Value) (h : zH), zD 77 13 [some (.ref x), l1] S h = zD 77 14 [some (.ref x), l1] (.ref x :: S) h) ∧
  (∀ (l0 : Option Value) (x : Int32) (S : List Value) (h : zH), zD 77 14 [l0, some (.int x)] S h = zD 77 15 [l0, some (.int x)] (.int x :: S) h) ∧
  (∀ (l0 l1 : Option Value) (p0 : Int32) (a : Nat) (r : List Value) (h : zH) (hcat : zcat r ≤ 8) (hr : zis (h.2.2 a) 9 = true) (hC : (zC 27 (.ref a :: [.int p0]) h).isSome = true), zD 77 15 [l0, l1] (.int p0 :: .ref a :: r) h = zD 77 18 [l0, l1] (zgv (zC 27 (.ref a :: [.int p0]) h) ++ r) (zgh h (zC 27 (.ref a :: [.int p0]) h))) ∧
  (∀ (l0 : Option Value) (x : Int32) (S : List Value) (h : zH), zD 77 18 [l0, some (.int x)] S h = zD 77 19 [l0, some (.int x)] (.int x :: S) h) ∧
  (∀ (l0 l1 : Option Value) (v : Int32) (h : zH), zD 77 19 [l0, l1] [.int v] h = some (some (.int v), h)) :=
  ⟨fun l0 x S h => zD_op (ins := .iload_n 1) (len := 1) (c := (1, [l0, some (.int x)], (.int x :: S), h)) (by decide +kernel) rfl rfl rfl rfl,
  fun l0 l1 S h => zD_icst (n := 1) (by decide +kernel) (by decide +kernel),
  fun l0 l1 S h => zD_bip (n := 7) (by decide +kernel) (by decide +kernel),
  fun l0 l1 p0 p1 p2 r h hcat hC => zD_calls (i := 77) (y := 26) (n := 3) (as := [.int p0, .int p1, .int p2]) (by decide +kernel) (by decide +kernel) rfl (by decide +kernel) (Nat.le_of_ble_eq_true rfl) hcat hC,
  fun l0 l1 x r h => zD_if0 (cnd := .ne) (off := 6) (by decide +kernel) (by decide) rfl,
  fun l0 l1 S h => zD_bip (n := (-102)) (by decide +kernel) (by decide +kernel),
  fun l0 l1 v h => zD_ireti (by decide +kernel) rfl,
  fun l1 x S h => zD_op (ins := .aload_n 0) (len := 1) (c := (14, [some (.ref x), l1], (.ref x :: S), h)) (by decide +kernel) rfl rfl rfl rfl,
  fun l0 x S h => zD_op (ins := .iload_n 1) (len := 1) (c := (15, [l0, some (.int x)], (.int x :: S), h)) (by decide +kernel) rfl rfl rfl rfl,
  fun l0 l1 p0 a r h hcat hr hC => zD_callv (i := 81) (y := 27) (n := 1) (as := [.int p0]) (ci := 9) (by decide +kernel) (by decide +kernel) rfl (by decide +kernel) (Nat.le_of_ble_eq_true rfl) (by decide +kernel) hcat hr hC,
  fun l0 x S h => zD_op (ins := .iload_n 1) (len := 1) (c := (19, [l0, some (.int x)], (.int x :: S), h)) (by decide +kernel) rfl rfl rfl rfl,
  fun l0 l1 v h => zD_ireti (by decide +kernel) rfl⟩
set_option maxRecDepth 100000 in
theorem I_X10_words : (∀ (a : Nat) (p0 : Int32) (h : zH), zC 77 [.ref a, .int p0] h = zD 77 0 [some (.ref a), some (.int p0)] [] h) :=
  fun a p0 h => zC_def rfl
set_option maxRecDepth 100000 in
theorem E_X10_isWord : (∀ (l0 : Option Value) (x : Int32) (S : List Value) (h : zH), zD 78 0 [l0, some (.int x)] S h = zD 78 1 [l0, some (.int x)] (.int x :: S) h) ∧
  (∀ (l0 l1 : Option Value) (S : List Value) (h : zH), zD 78 1 [l0, l1] S h = zD 78 2 [l0, l1] (.int (1 : Int32) :: S) h) ∧
  (∀ (l1 : Option Value) (x : Nat) (S : List Value) (h : zH), zD 78 2 [some (.ref x), l1] S h = zD 78 3 [some (.ref x), l1] (.ref x :: S) h) ∧
  (∀ (l0 l1 : Option Value) (a : Nat) (r : List Value) (h : zH) (hx : zfok (h.2.2 a) 9 0 = true), zD 78 3 [l0, l1] (.ref a :: r) h = zD 78 6 [l0, l1] (zfv (h.2.2 a) 0 :: r) h) ∧
  (∀ (l0 l1 : Option Value) (p0 : Int32) (p1 : Int32) (p2 : Int32) (r : List Value) (h : zH) (hcat : zcat r ≤ 8) (hC : (zC 26 [.int p0, .int p1, .int p2] h).isSome = true), zD 78 6 [l0, l1] (.int p2 :: .int p1 :: .int p0 :: r) h = zD 78 9 [l0, l1] (zgv (zC 26 [.int p0, .int p1, .int p2] h) ++ r) (zgh h (zC 26 [.int p0, .int p1, .int p2] h))) ∧
  (∀ (l0 l1 : Option Value) (v : Int32) (h : zH) (hv : zbv v), zD 78 9 [l0, l1] [.int v] h = some (some (.int v), h)) :=
  ⟨fun l0 x S h => zD_op (ins := .iload_n 1) (len := 1) (c := (1, [l0, some (.int x)], (.int x :: S), h)) (by decide +kernel) rfl rfl rfl rfl,
  fun l0 l1 S h => zD_icst (n := 1) (by decide +kernel) (by decide +kernel),
  fun l1 x S h => zD_op (ins := .aload_n 0) (len := 1) (c := (3, [some (.ref x), l1], (.ref x :: S), h)) (by decide +kernel) rfl rfl rfl rfl,
  fun l0 l1 a r h hx => zD_getf (i := 7) (ci := 9) (k := 0) (q := (711, 0)) (by decide +kernel) (by decide +kernel) hx,
  fun l0 l1 p0 p1 p2 r h hcat hC => zD_calls (i := 77) (y := 26) (n := 3) (as := [.int p0, .int p1, .int p2]) (by decide +kernel) (by decide +kernel) rfl (by decide +kernel) (Nat.le_of_ble_eq_true rfl) hcat hC,
  fun l0 l1 v h hv => zD_iretz (by decide +kernel) rfl hv⟩
set_option maxRecDepth 100000 in
theorem I_X10_isWord : (∀ (a : Nat) (p0 : Int32) (h : zH), zC 78 [.ref a, .int p0] h = zD 78 0 [some (.ref a), some (.int p0)] [] h) :=
  fun a p0 h => zC_def rfl
set_option maxRecDepth 100000 in
theorem E_X10_isSmooth : (∀ (l0 l1 l2 l3 l4 l5 l6 : Option Value) (S : List Value) (h : zH), zD 79 0 [l0, l1, l2, l3, l4, l5, l6] S h = zD 79 1 [l0, l1, l2, l3, l4, l5, l6] (.int (1 : Int32) :: S) h) ∧
  (∀ (l0 l1 l2 l3 l4 l5 l6 : Option Value) (x : Int32) (r : List Value) (h : zH), zD 79 1 [l0, l1, l2, l3, l4, l5, l6] (.int x :: r) h = zD 79 2 [l0, zclr l1, some (.int x), l3, l4, l5, l6] r h) ∧
  (∀ (l0 l2 l3 l4 l5 l6 : Option Value) (x : Int32) (S : List Value) (h : zH), zD 79 3 [l0, some (.int x), l2, l3, l4, l5, l6] S h = zD 79 4 [l0, some (.int x), l2, l3, l4, l5, l6] (.int x :: S) h) ∧
  (∀ (l0 l1 l2 l3 l4 l5 l6 : Option Value) (x y : Int32) (r : List Value) (h : zH), zD 79 4 [l0, l1, l2, l3, l4, l5, l6] (.int y :: .int x :: r) h = if y < x then zD 79 75 [l0, l1, l2, l3, l4, l5, l6] r h else zD 79 7 [l0, l1, l2, l3, l4, l5, l6] r h) ∧
  (∀ (l1 l2 l3 l4 l5 l6 : Option Value) (x : Nat) (S : List Value) (h : zH), zD 79 7 [some (.ref x), l1, l2, l3, l4, l5, l6] S h = zD 79 8 [some (.ref x), l1, l2, l3, l4, l5, l6] (.ref x :: S) h) ∧
  (∀ (l0 l1 l2 l3 l4 l5 l6 : Option Value) (a : Nat) (r : List Value) (h : zH) (hx : zfok (h.2.2 a) 9 19 = true), zD 79 8 [l0, l1, l2, l3, l4, l5, l6] (.ref a :: r) h = zD 79 11 [l0, l1, l2, l3, l4, l5, l6] (zfv (h.2.2 a) 19 :: r) h) ∧
  (∀ (l0 l1 l3 l4 l5 l6 : Option Value) (x : Int32) (S : List Value) (h : zH), zD 79 11 [l0, l1, some (.int x), l3, l4, l5, l6] S h = zD 79 12 [l0, l1, some (.int x), l3, l4, l5, l6] (.int x :: S) h) ∧
  (∀ (l0 l1 l2 l3 l4 l5 l6 : Option Value) (i : Int32) (a : Nat) (r : List Value) (h : zH) (hx : ziok a (h.2.2 a) i = true), zD 79 12 [l0, l1, l2, l3, l4, l5, l6] (.int i :: .ref a :: r) h = zD 79 13 [l0, l1, l2, l3, l4, l5, l6] (.int (ziv (h.2.2 a) i) :: r) h) ∧
  (∀ (l0 l1 l2 l3 l4 l5 l6 : Option Value) (x : Int32) (r : List Value) (h : zH), zD 79 13 [l0, l1, l2, l3, l4, l5, l6] (.int x :: r) h = zD 79 14 [l0, l1, zclr l2, some (.int x), l4, l5, l6] r h) ∧
  (∀ (l0 l1 l2 l4 l5 l6 : Option Value) (x : Int32) (S : List Value) (h : zH), zD 79 14 [l0, l1, l2, some (.int x), l4, l5, l6] S h = zD 79 15 [l0, l1, l2, some (.int x), l4, l5, l6] (.int x :: S) h) ∧
  (∀ (l0 l1 l3 l4 l5 l6 : Option Value) (x : Int32) (S : List Value) (h : zH), zD 79 15 [l0, l1, some (.int x), l3, l4, l5, l6] S h = zD 79 16 [l0, l1, some (.int x), l3, l4, l5, l6] (.int x :: S) h) ∧
  (∀ (l0 l1 l2 l3 l4 l5 l6 : Option Value) (x y : Int32) (r : List Value) (h : zH), zD 79 16 [l0, l1, l2, l3, l4, l5, l6] (.int y :: .int x :: r) h = if y ≤ x then zD 79 23 [l0, l1, l2, l3, l4, l5, l6] r h else zD 79 19 [l0, l1, l2, l3, l4, l5, l6] r h) ∧
  (∀ (l0 l1 l2 l4 l5 l6 : Option Value) (x : Int32) (S : List Value) (h : zH), zD 79 19 [l0, l1, l2, some (.int x), l4, l5, l6] S h = zD 79 20 [l0, l1, l2, some (.int x), l4, l5, l6] (.int x :: S) h) ∧
  (∀ (l0 l1 l2 l3 l4 l5 l6 : Option Value) (S : List Value) (h : zH), zD 79 20 [l0, l1, l2, l3, l4, l5, l6] S h = zD 79 24 [l0, l1, l2, l3, l4, l5, l6] S h) ∧
  (∀ (l0 l1 l3 l4 l5 l6 : Option Value) (x : Int32) (S : List Value) (h : zH), zD 79 23 [l0, l1, some (.int x), l3, l4, l5, l6] S h = zD 79 24 [l0, l1, some (.int x), l3, l4, l5, l6] (.int x :: S) h) ∧
  (∀ (l0 l1 l2 l3 l4 l5 l6 : Option Value) (x : Int32) (r : List Value) (h : zH), zD 79 24 [l0, l1, l2, l3, l4, l5, l6] (.int x :: r) h = zD 79 26 [l0, l1, l2, zclr l3, some (.int x), l5, l6] r h) ∧
  (∀ (l0 l1 l2 l4 l5 l6 : Option Value) (x : Int32) (S : List Value) (h : zH), zD 79 26 [l0, l1, l2, some (.int x), l4, l5, l6] S h = zD 79 27 [l0, l1, l2, some (.int x), l4, l5, l6] (.int x :: S) h) ∧
  (∀ (l0 l1 l3 l4 l5 l6 : Option Value) (x : Int32) (S : List Value) (h : zH), zD 79 27 [l0, l1, some (.int x), l3, l4, l5, l6] S h = zD 79 28 [l0, l1, some (.int x), l3, l4, l5, l6] (.int x :: S) h) ∧
  (∀ (l0 l1 l2 l3 l4 l5 l6 : Option Value) (x y : Int32) (r : List Value) (h : zH), zD 79 28 [l0, l1, l2, l3, l4, l5, l6] (.int y :: .int x :: r) h = if y ≤ x then zD 79 35 [l0, l1, l2, l3, l4, l5, l6] r h else zD 79 31 [l0, l1, l2, l3, l4, l5, l6] r h) ∧
  (∀ (l0 l1 l3 l4 l5 l6 : Option Value) (x : Int32) (S : List Value) (h : zH), zD 79 31 [l0, l1, some (.int x), l3, l4, l5, l6] S h = zD 79 32 [l0, l1, some (.int x), l3, l4, l5, l6] (.int x :: S) h) ∧
  (∀ (l0 l1 l2 l3 l4 l5 l6 : Option Value) (S : List Value) (h : zH), zD 79 32 [l0, l1, l2, l3, l4, l5, l6] S h = zD 79 36 [l0, l1, l2, l3, l4, l5, l6] S h) ∧
  (∀ (l0 l1 l2 l4 l5 l6 : Option Value) (x : Int32) (S : List Value) (h : zH), zD 79 35 [l0, l1, l2, some (.int x), l4, l5, l6] S h = zD 79 36 [l0, l1, l2, some (.int x), l4, l5, l6] (.int x :: S) h) ∧
  (∀ (l0 l1 l2 l3 l4 l5 l6 : Option Value) (x : Int32) (r : List Value) (h : zH), zD 79 36 [l0, l1, l2, l3, l4, l5, l6] (.int x :: r) h = zD 79 38 [l0, l1, l2, l3, zclr l4, some (.int x), l6] r h) ∧
  (∀ (l0 l1 l2 l3 l5 l6 : Option Value) (x : Int32) (S : List Value) (h : zH), zD 79 38 [l0, l1, l2, l3, some (.int x), l5, l6] S h = zD 79 40 [l0, l1, l2, l3, some (.int x), l5, l6] (.int x :: S) h) ∧
  (∀ (l0 l1 l2 l3 l4 l5 l6 : Option Value) (S : List Value) (h : zH), zD 79 40 [l0, l1, l2, l3, l4, l5, l6] S h = zD 79 41 [l0, l1, l2, l3, l4, l5, l6] (.int (1 : Int32) :: S) h) ∧
  (∀ (l0 l1 l2 l3 l4 l5 l6 : Option Value) (x y : Int32) (r : List Value) (h : zH), zD 79 41 [l0, l1, l2, l3, l4, l5, l6] (.int y :: .int x :: r) h = zD 79 42 [l0, l1, l2, l3, l4, l5, l6] (.int (x + y) :: r) h) ∧
  (∀ (l0 l1 l2 l3 l4 l5 l6 : Option Value) (x : Int32) (r : List Value) (h : zH), zD 79 42 [l0, l1, l2, l3, l4, l5, l6] (.int x :: r) h = zD 79 44 [l0, l1, l2, l3, l4, zclr l5, some (.int x)] r h) ∧
  (∀ (l0 l1 l2 l3 l4 l6 : Option Value) (x : Int32) (S : List Value) (h : zH), zD 79 46 [l0, l1, l2, l3, l4, some (.int x), l6] S h = zD 79 48 [l0, l1, l2, l3, l4, some (.int x), l6] (.int x :: S) h) ∧
  (∀ (l0 l1 l2 l3 l4 l5 l6 : Option Value) (x y : Int32) (r : List Value) (h : zH), zD 79 48 [l0, l1, l2, l3, l4, l5, l6] (.int y :: .int x :: r) h = if y ≤ x then zD 79 69 [l0, l1, l2, l3, l4, l5, l6] r h else zD 79 51 [l0, l1, l2, l3, l4, l5, l6] r h) ∧
  (∀ (l1 l2 l3 l4 l5 l6 : Option Value) (x : Nat) (S : List Value) (h : zH), zD 79 51 [some (.ref x), l1, l2, l3, l4, l5, l6] S h = zD 79 52 [some (.ref x), l1, l2, l3, l4, l5, l6] (.ref x :: S) h) ∧
  (∀ (l0 l1 l2 l4 l5 l6 : Option Value) (x : Int32) (S : List Value) (h : zH), zD 79 52 [l0, l1, l2, some (.int x), l4, l5, l6] S h = zD 79 53 [l0, l1, l2, some (.int x), l4, l5, l6] (.int x :: S) h) ∧
  (∀ (l0 l1 l2 l3 l4 l5 : Option Value) (x : Int32) (S : List Value) (h : zH), zD 79 53 [l0, l1, l2, l3, l4, l5, some (.int x)] S h = zD 79 55 [l0, l1, l2, l3, l4, l5, some (.int x)] (.int x :: S) h) ∧
  (∀ (l0 l1 l2 l3 l4 l5 l6 : Option Value) (p0 : Int32) (p1 : Int32) (a : Nat) (r : List Value) (h : zH) (hcat : zcat r ≤ 8) (hr : zis (h.2.2 a) 9 = true) (hC : (zC 30 (.ref a :: [.int p0, .int p1]) h).isSome = true), zD 79 55 [l0, l1, l2, l3, l4, l5, l6] (.int p1 :: .int p0 :: .ref a :: r) h = zD 79 58 [l0, l1, l2, l3, l4, l5, l6] (zgv (zC 30 (.ref a :: [.int p0, .int p1]) h) ++ r) (zgh h (zC 30 (.ref a :: [.int p0, .int p1]) h))) ∧
  (∀ (l0 l1 l2 l3 l4 l5 l6 : Option Value) (x : Int32) (r : List Value) (h : zH), zD 79 58 [l0, l1, l2, l3, l4, l5, l6] (.int x :: r) h = if ¬ x = 0 then zD 79 63 [l0, l1, l2, l3, l4, l5, l6] r h else zD 79 61 [l0, l1, l2, l3, l4, l5, l6] r h) ∧
  (∀ (l0 l1 l2 l3 l4 l5 l6 : Option Value) (S : List Value) (h : zH), zD 79 61 [l0, l1, l2, l3, l4, l5, l6] S h = zD 79 62 [l0, l1, l2, l3, l4, l5, l6] (.int (0 : Int32) :: S) h) ∧
  (∀ (l0 l1 l2 l3 l4 l5 l6 : Option Value) (v : Int32) (h : zH) (hv : zbv v), zD 79 62 [l0, l1, l2, l3, l4, l5, l6] [.int v] h = some (some (.int v), h)) ∧
  (∀ (l0 l1 l2 l3 l4 l5 : Option Value) (x : Int32) (S : List Value) (h : zH), zD 79 63 [l0, l1, l2, l3, l4, l5, some (.int x)] S h = zD 79 66 [l0, l1, l2, l3, l4, zclr l5, some (.int (x + (1 : Int32)))] S h) ∧
  (∀ (l0 l1 l2 l3 l4 l5 l6 : Option Value) (S : List Value) (h : zH), zD 79 66 [l0, l1, l2, l3, l4, l5, l6] S h = zD 79 44 [l0, l1, l2, l3, l4, l5, l6] S h) ∧
  (∀ (l0 l1 l3 l4 l5 l6 : Option Value) (x : Int32) (S : List Value) (h : zH), zD 79 69 [l0, l1, some (.int x), l3, l4, l5, l6] S h = zD 79 72 [l0, zclr l1, some (.int (x + (1 : Int32))), l3, l4, l5, l6] S h) ∧
  (∀ (l0 l1 l2 l3 l4 l5 l6 : Option Value) (S : List Value) (h : zH), zD 79 72 [l0, l1, l2, l3, l4, l5, l6] S h = zD 79 2 [l0, l1, l2, l3, l4, l5, l6] S h) ∧
  (∀ (l0 l1 l2 l3 l4 l5 l6 : Option Value) (S : List Value) (h : zH), zD 79 75 [l0, l1, l2, l3, l4, l5, l6] S h = zD 79 76 [l0, l1, l2, l3, l4, l5, l6] (.int (1 : Int32) :: S) h) ∧
  (∀ (l0 l1 l2 l3 l4 l5 l6 : Option Value) (v : Int32) (h : zH) (hv : zbv v), zD 79 76 [l0, l1, l2, l3, l4, l5, l6] [.int v] h = some (some (.int v), h)) :=
  ⟨fun l0 l1 l2 l3 l4 l5 l6 S h => zD_icst (n := 1) (by decide +kernel) (by decide +kernel),
  fun l0 l1 l2 l3 l4 l5 l6 x r h => zD_st1 (k := 2) (ins := .istore_n 2) (len := 1) (by decide +kernel) rfl rfl rfl (by decide +kernel) rfl rfl,
  fun l0 l2 l3 l4 l5 l6 x S h => zD_op (ins := .iload_n 1) (len := 1) (c := (4, [l0, some (.int x), l2, l3, l4, l5, l6], (.int x :: S), h)) (by decide +kernel) rfl rfl rfl rfl,
  fun l0 l1 l2 l3 l4 l5 l6 x y r h => zD_if (cnd := .gt) (off := 71) (by decide +kernel) (by decide) rfl,
  fun l1 l2 l3 l4 l5 l6 x S h => zD_op (ins := .aload_n 0) (len := 1) (c := (8, [some (.ref x), l1, l2, l3, l4, l5, l6], (.ref x :: S), h)) (by decide +kernel) rfl rfl rfl rfl,
  fun l0 l1 l2 l3 l4 l5 l6 a r h hx => zD_getf (i := 61) (ci := 9) (k := 19) (q := (730, 0)) (by decide +kernel) (by decide +kernel) hx,
  fun l0 l1 l3 l4 l5 l6 x S h => zD_op (ins := .iload_n 2) (len := 1) (c := (12, [l0, l1, some (.int x), l3, l4, l5, l6], (.int x :: S), h)) (by decide +kernel) rfl rfl rfl rfl,
  fun l0 l1 l2 l3 l4 l5 l6 i a r h hx => zD_iald (by decide +kernel) hx,
  fun l0 l1 l2 l3 l4 l5 l6 x r h => zD_st1 (k := 3) (ins := .istore_n 3) (len := 1) (by decide +kernel) rfl rfl rfl (by decide +kernel) rfl rfl,
  fun l0 l1 l2 l4 l5 l6 x S h => zD_op (ins := .iload_n 3) (len := 1) (c := (15, [l0, l1, l2, some (.int x), l4, l5, l6], (.int x :: S), h)) (by decide +kernel) rfl rfl rfl rfl,
  fun l0 l1 l3 l4 l5 l6 x S h => zD_op (ins := .iload_n 2) (len := 1) (c := (16, [l0, l1, some (.int x), l3, l4, l5, l6], (.int x :: S), h)) (by decide +kernel) rfl rfl rfl rfl,
  fun l0 l1 l2 l3 l4 l5 l6 x y r h => zD_if (cnd := .ge) (off := 7) (by decide +kernel) (by decide) rfl,
  fun l0 l1 l2 l4 l5 l6 x S h => zD_op (ins := .iload_n 3) (len := 1) (c := (20, [l0, l1, l2, some (.int x), l4, l5, l6], (.int x :: S), h)) (by decide +kernel) rfl rfl rfl rfl,
  fun l0 l1 l2 l3 l4 l5 l6 S h => zD_goto (off := 4) (by decide +kernel) (by decide),
  fun l0 l1 l3 l4 l5 l6 x S h => zD_op (ins := .iload_n 2) (len := 1) (c := (24, [l0, l1, some (.int x), l3, l4, l5, l6], (.int x :: S), h)) (by decide +kernel) rfl rfl rfl rfl,
  fun l0 l1 l2 l3 l4 l5 l6 x r h => zD_st1 (k := 4) (ins := .istore 4) (len := 2) (by decide +kernel) rfl rfl rfl (by decide +kernel) rfl rfl,
  fun l0 l1 l2 l4 l5 l6 x S h => zD_op (ins := .iload_n 3) (len := 1) (c := (27, [l0, l1, l2, some (.int x), l4, l5, l6], (.int x :: S), h)) (by decide +kernel) rfl rfl rfl rfl,
  fun l0 l1 l3 l4 l5 l6 x S h => zD_op (ins := .iload_n 2) (len := 1) (c := (28, [l0, l1, some (.int x), l3, l4, l5, l6], (.int x :: S), h)) (by decide +kernel) rfl rfl rfl rfl,
  fun l0 l1 l2 l3 l4 l5 l6 x y r h => zD_if (cnd := .ge) (off := 7) (by decide +kernel) (by decide) rfl,
  fun l0 l1 l3 l4 l5 l6 x S h => zD_op (ins := .iload_n 2) (len := 1) (c := (32, [l0, l1, some (.int x), l3, l4, l5, l6], (.int x :: S), h)) (by decide +kernel) rfl rfl rfl rfl,
  fun l0 l1 l2 l3 l4 l5 l6 S h => zD_goto (off := 4) (by decide +kernel) (by decide),
  fun l0 l1 l2 l4 l5 l6 x S h => zD_op (ins := .iload_n 3) (len := 1) (c := (36, [l0, l1, l2, some (.int x), l4, l5, l6], (.int x :: S), h)) (by decide +kernel) rfl rfl rfl rfl,
  fun l0 l1 l2 l3 l4 l5 l6 x r h => zD_st1 (k := 5) (ins := .istore 5) (len := 2) (by decide +kernel) rfl rfl rfl (by decide +kernel) rfl rfl,
  fun l0 l1 l2 l3 l5 l6 x S h => zD_op (ins := .iload 4) (len := 2) (c := (40, [l0, l1, l2, l3, some (.int x), l5, l6], (.int x :: S), h)) (by decide +kernel) rfl rfl rfl rfl,
  fun l0 l1 l2 l3 l4 l5 l6 S h => zD_icst (n := 1) (by decide +kernel) (by decide +kernel),
  fun l0 l1 l2 l3 l4 l5 l6 x y r h => zD_op (ins := .iadd) (len := 1) (c := (42, [l0, l1, l2, l3, l4, l5, l6], (.int (x + y) :: r), h)) (by decide +kernel) rfl rfl rfl rfl,
  fun l0 l1 l2 l3 l4 l5 l6 x r h => zD_st1 (k := 6) (ins := .istore 6) (len := 2) (by decide +kernel) rfl rfl rfl (by decide +kernel) rfl rfl,
  fun l0 l1 l2 l3 l4 l6 x S h => zD_op (ins := .iload 5) (len := 2) (c := (48, [l0, l1, l2, l3, l4, some (.int x), l6], (.int x :: S), h)) (by decide +kernel) rfl rfl rfl rfl,
  fun l0 l1 l2 l3 l4 l5 l6 x y r h => zD_if (cnd := .ge) (off := 21) (by decide +kernel) (by decide) rfl,
  fun l1 l2 l3 l4 l5 l6 x S h => zD_op (ins := .aload_n 0) (len := 1) (c := (52, [some (.ref x), l1, l2, l3, l4, l5, l6], (.ref x :: S), h)) (by decide +kernel) rfl rfl rfl rfl,
  fun l0 l1 l2 l4 l5 l6 x S h => zD_op (ins := .iload_n 3) (len := 1) (c := (53, [l0, l1, l2, some (.int x), l4, l5, l6], (.int x :: S), h)) (by decide +kernel) rfl rfl rfl rfl,
  fun l0 l1 l2 l3 l4 l5 x S h => zD_op (ins := .iload 6) (len := 2) (c := (55, [l0, l1, l2, l3, l4, l5, some (.int x)], (.int x :: S), h)) (by decide +kernel) rfl rfl rfl rfl,
  fun l0 l1 l2 l3 l4 l5 l6 p0 p1 a r h hcat hr hC => zD_callv (i := 96) (y := 30) (n := 2) (as := [.int p0, .int p1]) (ci := 9) (by decide +kernel) (by decide +kernel) rfl (by decide +kernel) (Nat.le_of_ble_eq_true rfl) (by decide +kernel) hcat hr hC,
  fun l0 l1 l2 l3 l4 l5 l6 x r h => zD_if0 (cnd := .ne) (off := 5) (by decide +kernel) (by decide) rfl,
  fun l0 l1 l2 l3 l4 l5 l6 S h => zD_icst (n := 0) (by decide +kernel) (by decide +kernel),
  fun l0 l1 l2 l3 l4 l5 l6 v h hv => zD_iretz (by decide +kernel) rfl hv,
  fun l0 l1 l2 l3 l4 l5 x S h => zD_iinc (k := 6) (x := x) (c := (1 : Int32)) (n := 1) (by decide +kernel) (by decide +kernel) rfl (by decide +kernel) rfl,
  fun l0 l1 l2 l3 l4 l5 l6 S h => zD_goto (off := (-22)) (by decide +kernel) (by decide),
  fun l0 l1 l3 l4 l5 l6 x S h => zD_iinc (k := 2) (x := x) (c := (1 : Int32)) (n := 1) (by decide +kernel) (by decide +kernel) rfl (by decide +kernel) rfl,
  fun l0 l1 l2 l3 l4 l5 l6 S h => zD_goto (off := (-70)) (by decide +kernel) (by decide),
  fun l0 l1 l2 l3 l4 l5 l6 S h => zD_icst (n := 1) (by decide +kernel) (by decide +kernel),
  fun l0 l1 l2 l3 l4 l5 l6 v h hv => zD_iretz (by decide +kernel) rfl hv⟩
set_option maxRecDepth 100000 in
theorem E_X10_isSmooth_h2 : (∀ (l0 l1 l3 l4 l5 l6 : Option Value) (x : Int32) (S : List Value) (h : zH), zD 79 2 [l0, l1, some (.int x), l3, l4, l5, l6] S h = zD 79 3 [l0, l1, some (.int x), l3, l4, l5, l6] (.int x :: S) h) :=
  fun l0 l1 l3 l4 l5 l6 x S h => zD_op (ins := .iload_n 2) (len := 1) (c := (3, [l0, l1, some (.int x), l3, l4, l5, l6], (.int x :: S), h)) (by decide +kernel) rfl rfl rfl rfl
set_option maxRecDepth 100000 in
theorem E_X10_isSmooth_h44 : (∀ (l0 l1 l2 l3 l4 l5 : Option Value) (x : Int32) (S : List Value) (h : zH), zD 79 44 [l0, l1, l2, l3, l4, l5, some (.int x)] S h = zD 79 46 [l0, l1, l2, l3, l4, l5, some (.int x)] (.int x :: S) h) :=
  fun l0 l1 l2 l3 l4 l5 x S h => zD_op (ins := .iload 6) (len := 2) (c := (46, [l0, l1, l2, l3, l4, l5, some (.int x)], (.int x :: S), h)) (by decide +kernel) rfl rfl rfl rfl
set_option maxRecDepth 100000 in
theorem I_X10_isSmooth : (∀ (a : Nat) (p0 : Int32) (h : zH), zC 79 [.ref a, .int p0] h = zD 79 0 [some (.ref a), some (.int p0), none, none, none, none, none] [] h) :=
  fun a p0 h => zC_def rfl
set_option maxRecDepth 100000 in
theorem E_X10_isTreeAtHand : (∀ (x : Nat) (S : List Value) (h : zH), zD 80 0 [some (.ref x)] S h = zD 80 1 [some (.ref x)] (.ref x :: S) h) ∧
  (∀ (l0 : Option Value) (S : List Value) (h : zH), zD 80 1 [l0] S h = zD 80 2 [l0] (.int (-1 : Int32) :: S) h) ∧
  (∀ (l0 : Option Value) (p0 : Int32) (a : Nat) (r : List Value) (h : zH) (hcat : zcat r ≤ 8) (hr : zis (h.2.2 a) 9 = true) (hC : (zC 28 (.ref a :: [.int p0]) h).isSome = true), zD 80 2 [l0] (.int p0 :: .ref a :: r) h = zD 80 5 [l0] (zgv (zC 28 (.ref a :: [.int p0]) h) ++ r) (zgh h (zC 28 (.ref a :: [.int p0]) h))) ∧
  (∀ (x : Nat) (S : List Value) (h : zH), zD 80 5 [some (.ref x)] S h = zD 80 6 [some (.ref x)] (.ref x :: S) h) ∧
  (∀ (x : Nat) (S : List Value) (h : zH), zD 80 6 [some (.ref x)] S h = zD 80 7 [some (.ref x)] (.ref x :: S) h) ∧
  (∀ (l0 : Option Value) (a : Nat) (r : List Value) (h : zH) (hx : zfok (h.2.2 a) 9 0 = true), zD 80 7 [l0] (.ref a :: r) h = zD 80 10 [l0] (zfv (h.2.2 a) 0 :: r) h) ∧
  (∀ (l0 : Option Value) (p0 : Int32) (a : Nat) (r : List Value) (h : zH) (hcat : zcat r ≤ 8) (hr : zis (h.2.2 a) 9 = true) (hC : (zC 29 (.ref a :: [.int p0]) h).isSome = true), zD 80 10 [l0] (.int p0 :: .ref a :: r) h = zD 80 13 [l0] (zgv (zC 29 (.ref a :: [.int p0]) h) ++ r) (zgh h (zC 29 (.ref a :: [.int p0]) h))) ∧
  (∀ (l0 : Option Value) (v : Int32) (h : zH) (hv : zbv v), zD 80 13 [l0] [.int v] h = some (some (.int v), h)) :=
  ⟨fun x S h => zD_op (ins := .aload_n 0) (len := 1) (c := (1, [some (.ref x)], (.ref x :: S), h)) (by decide +kernel) rfl rfl rfl rfl,
  fun l0 S h => zD_icst (n := (-1)) (by decide +kernel) (by decide +kernel),
  fun l0 p0 a r h hcat hr hC => zD_callv (i := 99) (y := 28) (n := 1) (as := [.int p0]) (ci := 9) (by decide +kernel) (by decide +kernel) rfl (by decide +kernel) (Nat.le_of_ble_eq_true rfl) (by decide +kernel) hcat hr hC,
  fun x S h => zD_op (ins := .aload_n 0) (len := 1) (c := (6, [some (.ref x)], (.ref x :: S), h)) (by decide +kernel) rfl rfl rfl rfl,
  fun x S h => zD_op (ins := .aload_n 0) (len := 1) (c := (7, [some (.ref x)], (.ref x :: S), h)) (by decide +kernel) rfl rfl rfl rfl,
  fun l0 a r h hx => zD_getf (i := 7) (ci := 9) (k := 0) (q := (711, 0)) (by decide +kernel) (by decide +kernel) hx,
  fun l0 p0 a r h hcat hr hC => zD_callv (i := 102) (y := 29) (n := 1) (as := [.int p0]) (ci := 9) (by decide +kernel) (by decide +kernel) rfl (by decide +kernel) (Nat.le_of_ble_eq_true rfl) (by decide +kernel) hcat hr hC,
  fun l0 v h hv => zD_iretz (by decide +kernel) rfl hv⟩
set_option maxRecDepth 100000 in
theorem I_X10_isTreeAtHand : (∀ (a : Nat) (h : zH), zC 80 [.ref a] h = zD 80 0 [some (.ref a)] [] h) :=
  fun a h => zC_def rfl
set_option maxRecDepth 100000 in
theorem E_X10_isKept : (∀ (l0 : Option Value) (x : Int32) (S : List Value) (h : zH), zD 81 0 [l0, some (.int x)] S h = zD 81 1 [l0, some (.int x)] (.int x :: S) h) ∧
  (∀ (l0 l1 : Option Value) (S : List Value) (h : zH), zD 81 1 [l0, l1] S h = zD 81 2 [l0, l1] (.int (0 : Int32) :: S) h) ∧
  (∀ (l1 : Option Value) (x : Nat) (S : List Value) (h : zH), zD 81 2 [some (.ref x), l1] S h = zD 81 3 [some (.ref x), l1] (.ref x :: S) h) ∧
  (∀ (l0 l1 : Option Value) (a : Nat) (r : List Value) (h : zH) (hx : zfok (h.2.2 a) 9 10 = true), zD 81 3 [l0, l1] (.ref a :: r) h = zD 81 6 [l0, l1] (zfv (h.2.2 a) 10 :: r) h) ∧
  (∀ (l0 l1 : Option Value) (S : List Value) (h : zH), zD 81 6 [l0, l1] S h = zD 81 7 [l0, l1] (.int (1 : Int32) :: S) h) ∧
  (∀ (l0 l1 : Option Value) (x y : Int32) (r : List Value) (h : zH), zD 81 7 [l0, l1] (.int y :: .int x :: r) h = zD 81 8 [l0, l1] (.int (x - y) :: r) h) ∧
  (∀ (l0 l1 : Option Value) (p0 : Int32) (p1 : Int32) (p2 : Int32) (r : List Value) (h : zH) (hcat : zcat r ≤ 8) (hC : (zC 26 [.int p0, .int p1, .int p2] h).isSome = true), zD 81 8 [l0, l1] (.int p2 :: .int p1 :: .int p0 :: r) h = zD 81 11 [l0, l1] (zgv (zC 26 [.int p0, .int p1, .int p2] h) ++ r) (zgh h (zC 26 [.int p0, .int p1, .int p2] h))) ∧
  (∀ (l0 l1 : Option Value) (x : Int32) (r : List Value) (h : zH), zD 81 11 [l0, l1] (.int x :: r) h = if x = 0 then zD 81 27 [l0, l1] r h else zD 81 14 [l0, l1] r h) ∧
  (∀ (l1 : Option Value) (x : Nat) (S : List Value) (h : zH), zD 81 14 [some (.ref x), l1] S h = zD 81 15 [some (.ref x), l1] (.ref x :: S) h) ∧
  (∀ (l0 l1 : Option Value) (a : Nat) (r : List Value) (h : zH) (hx : zfok (h.2.2 a) 9 11 = true), zD 81 15 [l0, l1] (.ref a :: r) h = zD 81 18 [l0, l1] (zfv (h.2.2 a) 11 :: r) h) ∧
  (∀ (l0 : Option Value) (x : Int32) (S : List Value) (h : zH), zD 81 18 [l0, some (.int x)] S h = zD 81 19 [l0, some (.int x)] (.int x :: S) h) ∧
  (∀ (l0 l1 : Option Value) (i : Int32) (a : Nat) (r : List Value) (h : zH) (hx : zbok (h.2.2 a) i = true), zD 81 19 [l0, l1] (.int i :: .ref a :: r) h = zD 81 20 [l0, l1] (.int (ziv (h.2.2 a) i) :: r) h) ∧
  (∀ (l0 l1 : Option Value) (x : Int32) (r : List Value) (h : zH), zD 81 20 [l0, l1] (.int x :: r) h = if ¬ x = 0 then zD 81 27 [l0, l1] r h else zD 81 23 [l0, l1] r h) ∧
  (∀ (l0 l1 : Option Value) (S : List Value) (h : zH), zD 81 23 [l0, l1] S h = zD 81 24 [l0, l1] (.int (1 : Int32) :: S) h) ∧
  (∀ (l0 l1 : Option Value) (S : List Value) (h : zH), zD 81 24 [l0, l1] S h = zD 81 28 [l0, l1] S h) ∧
  (∀ (l0 l1 : Option Value) (S : List Value) (h : zH), zD 81 27 [l0, l1] S h = zD 81 28 [l0, l1] (.int (0 : Int32) :: S) h) ∧
  (∀ (l0 l1 : Option Value) (v : Int32) (h : zH) (hv : zbv v), zD 81 28 [l0, l1] [.int v] h = some (some (.int v), h)) :=
  ⟨fun l0 x S h => zD_op (ins := .iload_n 1) (len := 1) (c := (1, [l0, some (.int x)], (.int x :: S), h)) (by decide +kernel) rfl rfl rfl rfl,
  fun l0 l1 S h => zD_icst (n := 0) (by decide +kernel) (by decide +kernel),
  fun l1 x S h => zD_op (ins := .aload_n 0) (len := 1) (c := (3, [some (.ref x), l1], (.ref x :: S), h)) (by decide +kernel) rfl rfl rfl rfl,
  fun l0 l1 a r h hx => zD_getf (i := 126) (ci := 9) (k := 10) (q := (721, 0)) (by decide +kernel) (by decide +kernel) hx,
  fun l0 l1 S h => zD_icst (n := 1) (by decide +kernel) (by decide +kernel),
  fun l0 l1 x y r h => zD_op (ins := .isub) (len := 1) (c := (8, [l0, l1], (.int (x - y) :: r), h)) (by decide +kernel) rfl rfl rfl rfl,
  fun l0 l1 p0 p1 p2 r h hcat hC => zD_calls (i := 77) (y := 26) (n := 3) (as := [.int p0, .int p1, .int p2]) (by decide +kernel) (by decide +kernel) rfl (by decide +kernel) (Nat.le_of_ble_eq_true rfl) hcat hC,
  fun l0 l1 x r h => zD_if0 (cnd := .eq) (off := 16) (by decide +kernel) (by decide) rfl,
  fun l1 x S h => zD_op (ins := .aload_n 0) (len := 1) (c := (15, [some (.ref x), l1], (.ref x :: S), h)) (by decide +kernel) rfl rfl rfl rfl,
  fun l0 l1 a r h hx => zD_getf (i := 40) (ci := 9) (k := 11) (q := (722, 0)) (by decide +kernel) (by decide +kernel) hx,
  fun l0 x S h => zD_op (ins := .iload_n 1) (len := 1) (c := (19, [l0, some (.int x)], (.int x :: S), h)) (by decide +kernel) rfl rfl rfl rfl,
  fun l0 l1 i a r h hx => zD_bald (by decide +kernel) hx,
  fun l0 l1 x r h => zD_if0 (cnd := .ne) (off := 7) (by decide +kernel) (by decide) rfl,
  fun l0 l1 S h => zD_icst (n := 1) (by decide +kernel) (by decide +kernel),
  fun l0 l1 S h => zD_goto (off := 4) (by decide +kernel) (by decide),
  fun l0 l1 S h => zD_icst (n := 0) (by decide +kernel) (by decide +kernel),
  fun l0 l1 v h hv => zD_iretz (by decide +kernel) rfl hv⟩
set_option maxRecDepth 100000 in
theorem I_X10_isKept : (∀ (a : Nat) (p0 : Int32) (h : zH), zC 81 [.ref a, .int p0] h = zD 81 0 [some (.ref a), some (.int p0)] [] h) :=
  fun a p0 h => zC_def rfl
set_option maxRecDepth 100000 in
theorem E_X10_table : (∀ (l0 l2 l3 : Option Value) (x : Int32) (S : List Value) (h : zH), zD 82 0 [l0, some (.int x), l2, l3] S h = zD 82 1 [l0, some (.int x), l2, l3] (.int x :: S) h) ∧
  (∀ (l0 l1 l2 l3 : Option Value) (S : List Value) (h : zH), zD 82 1 [l0, l1, l2, l3] S h = zD 82 2 [l0, l1, l2, l3] (.int (0 : Int32) :: S) h) ∧
  (∀ (l0 l1 l2 l3 : Option Value) (S : List Value) (h : zH), zD 82 2 [l0, l1, l2, l3] S h = zD 82 4 [l0, l1, l2, l3] (.int (10 : Int32) :: S) h) ∧
  (∀ (l0 l1 l2 l3 : Option Value) (p0 : Int32) (p1 : Int32) (p2 : Int32) (r : List Value) (h : zH) (hcat : zcat r ≤ 8) (hC : (zC 26 [.int p0, .int p1, .int p2] h).isSome = true), zD 82 4 [l0, l1, l2, l3] (.int p2 :: .int p1 :: .int p0 :: r) h = zD 82 7 [l0, l1, l2, l3] (zgv (zC 26 [.int p0, .int p1, .int p2] h) ++ r) (zgh h (zC 26 [.int p0, .int p1, .int p2] h))) ∧
  (∀ (l0 l1 l2 l3 : Option Value) (x : Int32) (r : List Value) (h : zH), zD 82 7 [l0, l1, l2, l3] (.int x :: r) h = if x = 0 then zD 82 39 [l0, l1, l2, l3] r h else zD 82 10 [l0, l1, l2, l3] r h) ∧
  (∀ (l0 l1 l3 : Option Value) (x : Int32) (S : List Value) (h : zH), zD 82 10 [l0, l1, some (.int x), l3] S h = zD 82 11 [l0, l1, some (.int x), l3] (.int x :: S) h) ∧
  (∀ (l0 l1 l2 l3 : Option Value) (S : List Value) (h : zH), zD 82 11 [l0, l1, l2, l3] S h = zD 82 12 [l0, l1, l2, l3] (.int (0 : Int32) :: S) h) ∧
  (∀ (l0 l1 l2 l3 : Option Value) (S : List Value) (h : zH), zD 82 12 [l0, l1, l2, l3] S h = zD 82 14 [l0, l1, l2, l3] (.int (9 : Int32) :: S) h) ∧
  (∀ (l0 l1 l2 l3 : Option Value) (p0 : Int32) (p1 : Int32) (p2 : Int32) (r : List Value) (h : zH) (hcat : zcat r ≤ 8) (hC : (zC 26 [.int p0, .int p1, .int p2] h).isSome = true), zD 82 14 [l0, l1, l2, l3] (.int p2 :: .int p1 :: .int p0 :: r) h = zD 82 17 [l0, l1, l2, l3] (zgv (zC 26 [.int p0, .int p1, .int p2] h) ++ r) (zgh h (zC 26 [.int p0, .int p1, .int p2] h))) ∧
  (∀ (l0 l1 l2 l3 : Option Value) (x : Int32) (r : List Value) (h : zH), zD 82 17 [l0, l1, l2, l3] (.int x :: r) h = if x = 0 then zD 82 39 [l0, l1, l2, l3] r h else zD 82 20 [l0, l1, l2, l3] r h) ∧
  (∀ (l0 l1 l2 : Option Value) (x : Int32) (S : List Value) (h : zH), zD 82 20 [l0, l1, l2, some (.int x)] S h = zD 82 21 [l0, l1, l2, some (.int x)] (.int x :: S) h) ∧
  (∀ (l0 l1 l2 l3 : Option Value) (S : List Value) (h : zH), zD 82 21 [l0, l1, l2, l3] S h = zD 82 22 [l0, l1, l2, l3] (.int (0 : Int32) :: S) h) ∧
  (∀ (l0 l1 l2 l3 : Option Value) (S : List Value) (h : zH), zD 82 22 [l0, l1, l2, l3] S h = zD 82 23 [l0, l1, l2, l3] (.int (1 : Int32) :: S) h) ∧
  (∀ (l0 l1 l2 l3 : Option Value) (p0 : Int32) (p1 : Int32) (p2 : Int32) (r : List Value) (h : zH) (hcat : zcat r ≤ 8) (hC : (zC 26 [.int p0, .int p1, .int p2] h).isSome = true), zD 82 23 [l0, l1, l2, l3] (.int p2 :: .int p1 :: .int p0 :: r) h = zD 82 26 [l0, l1, l2, l3] (zgv (zC 26 [.int p0, .int p1, .int p2] h) ++ r) (zgh h (zC 26 [.int p0, .int p1, .int p2] h))) ∧
  (∀ (l0 l1 l2 l3 : Option Value) (x : Int32) (r : List Value) (h : zH), zD 82 26 [l0, l1, l2, l3] (.int x :: r) h = if x = 0 then zD 82 39 [l0, l1, l2, l3] r h else zD 82 29 [l0, l1, l2, l3] r h) ∧
  (∀ (l1 l2 l3 : Option Value) (x : Nat) (S : List Value) (h : zH), zD 82 29 [some (.ref x), l1, l2, l3] S h = zD 82 30 [some (.ref x), l1, l2, l3] (.ref x :: S) h) ∧
  (∀ (l0 l2 l3 : Option Value) (x : Int32) (S : List Value) (h : zH), zD 82 30 [l0, some (.int x), l2, l3] S h = zD 82 31 [l0, some (.int x), l2, l3] (.int x :: S) h) ∧
  (∀ (l0 l1 l3 : Option Value) (x : Int32) (S : List Value) (h : zH), zD 82 31 [l0, l1, some (.int x), l3] S h = zD 82 32 [l0, l1, some (.int x), l3] (.int x :: S) h) ∧
  (∀ (l0 l1 l2 : Option Value) (x : Int32) (S : List Value) (h : zH), zD 82 32 [l0, l1, l2, some (.int x)] S h = zD 82 33 [l0, l1, l2, some (.int x)] (.int x :: S) h) ∧
  (∀ (l0 l1 l2 l3 : Option Value) (p0 : Int32) (p1 : Int32) (p2 : Int32) (a : Nat) (r : List Value) (h : zH) (hcat : zcat r ≤ 8) (hr : zis (h.2.2 a) 9 = true) (hC : (zC 34 (.ref a :: [.int p0, .int p1, .int p2]) h).isSome = true), zD 82 33 [l0, l1, l2, l3] (.int p2 :: .int p1 :: .int p0 :: .ref a :: r) h = zD 82 36 [l0, l1, l2, l3] (zgv (zC 34 (.ref a :: [.int p0, .int p1, .int p2]) h) ++ r) (zgh h (zC 34 (.ref a :: [.int p0, .int p1, .int p2]) h))) ∧
  (∀ (l0 l1 l2 l3 : Option Value) (S : List Value) (h : zH), zD 82 36 [l0, l1, l2, l3] S h = zD 82 41 [l0, l1, l2, l3] S h) ∧
  (∀ (l0 l1 l2 l3 : Option Value) (S : List Value) (h : zH), zD 82 39 [l0, l1, l2, l3] S h = zD 82 41 [l0, l1, l2, l3] (.int (-102 : Int32) :: S) h) ∧
  (∀ (l0 l1 l2 l3 : Option Value) (v : Int32) (h : zH), zD 82 41 [l0, l1, l2, l3] [.int v] h = some (some (.int v), h)) :=
  ⟨fun l0 l2 l3 x S h => zD_op (ins := .iload_n 1) (len := 1) (c := (1, [l0, some (.int x), l2, l3], (.int x :: S), h)) (by decide +kernel) rfl rfl rfl rfl,
  fun l0 l1 l2 l3 S h => zD_icst (n := 0) (by decide +kernel) (by decide +kernel),
  fun l0 l1 l2 l3 S h => zD_bip (n := 10) (by decide +kernel) (by decide +kernel),
  fun l0 l1 l2 l3 p0 p1 p2 r h hcat hC => zD_calls (i := 77) (y := 26) (n := 3) (as := [.int p0, .int p1, .int p2]) (by decide +kernel) (by decide +kernel) rfl (by decide +kernel) (Nat.le_of_ble_eq_true rfl) hcat hC,
  fun l0 l1 l2 l3 x r h => zD_if0 (cnd := .eq) (off := 32) (by decide +kernel) (by decide) rfl,
  fun l0 l1 l3 x S h => zD_op (ins := .iload_n 2) (len := 1) (c := (11, [l0, l1, some (.int x), l3], (.int x :: S), h)) (by decide +kernel) rfl rfl rfl rfl,
  fun l0 l1 l2 l3 S h => zD_icst (n := 0) (by decide +kernel) (by decide +kernel),
  fun l0 l1 l2 l3 S h => zD_bip (n := 9) (by decide +kernel) (by decide +kernel),
  fun l0 l1 l2 l3 p0 p1 p2 r h hcat hC => zD_calls (i := 77) (y := 26) (n := 3) (as := [.int p0, .int p1, .int p2]) (by decide +kernel) (by decide +kernel) rfl (by decide +kernel) (Nat.le_of_ble_eq_true rfl) hcat hC,
  fun l0 l1 l2 l3 x r h => zD_if0 (cnd := .eq) (off := 22) (by decide +kernel) (by decide) rfl,
  fun l0 l1 l2 x S h => zD_op (ins := .iload_n 3) (len := 1) (c := (21, [l0, l1, l2, some (.int x)], (.int x :: S), h)) (by decide +kernel) rfl rfl rfl rfl,
  fun l0 l1 l2 l3 S h => zD_icst (n := 0) (by decide +kernel) (by decide +kernel),
  fun l0 l1 l2 l3 S h => zD_icst (n := 1) (by decide +kernel) (by decide +kernel),
  fun l0 l1 l2 l3 p0 p1 p2 r h hcat hC => zD_calls (i := 77) (y := 26) (n := 3) (as := [.int p0, .int p1, .int p2]) (by decide +kernel) (by decide +kernel) rfl (by decide +kernel) (Nat.le_of_ble_eq_true rfl) hcat hC,
  fun l0 l1 l2 l3 x r h => zD_if0 (cnd := .eq) (off := 13) (by decide +kernel) (by decide) rfl,
  fun l1 l2 l3 x S h => zD_op (ins := .aload_n 0) (len := 1) (c := (30, [some (.ref x), l1, l2, l3], (.ref x :: S), h)) (by decide +kernel) rfl rfl rfl rfl,
  fun l0 l2 l3 x S h => zD_op (ins := .iload_n 1) (len := 1) (c := (31, [l0, some (.int x), l2, l3], (.int x :: S), h)) (by decide +kernel) rfl rfl rfl rfl,
  fun l0 l1 l3 x S h => zD_op (ins := .iload_n 2) (len := 1) (c := (32, [l0, l1, some (.int x), l3], (.int x :: S), h)) (by decide +kernel) rfl rfl rfl rfl,
  fun l0 l1 l2 x S h => zD_op (ins := .iload_n 3) (len := 1) (c := (33, [l0, l1, l2, some (.int x)], (.int x :: S), h)) (by decide +kernel) rfl rfl rfl rfl,
  fun l0 l1 l2 l3 p0 p1 p2 a r h hcat hr hC => zD_callv (i := 132) (y := 34) (n := 3) (as := [.int p0, .int p1, .int p2]) (ci := 9) (by decide +kernel) (by decide +kernel) rfl (by decide +kernel) (Nat.le_of_ble_eq_true rfl) (by decide +kernel) hcat hr hC,
  fun l0 l1 l2 l3 S h => zD_goto (off := 5) (by decide +kernel) (by decide),
  fun l0 l1 l2 l3 S h => zD_bip (n := (-102)) (by decide +kernel) (by decide +kernel),
  fun l0 l1 l2 l3 v h => zD_ireti (by decide +kernel) rfl⟩
set_option maxRecDepth 100000 in
theorem I_X10_table : (∀ (a : Nat) (p0 : Int32) (p1 : Int32) (p2 : Int32) (h : zH), zC 82 [.ref a, .int p0, .int p1, .int p2] h = zD 82 0 [some (.ref a), some (.int p0), some (.int p1), some (.int p2)] [] h) :=
  fun a p0 p1 p2 h => zC_def rfl
set_option maxRecDepth 100000 in
theorem E_X10_learn : (∀ (l1 l2 l3 l4 l5 : Option Value) (x : Nat) (S : List Value) (h : zH), zD 83 0 [some (.ref x), l1, l2, l3, l4, l5] S h = zD 83 1 [some (.ref x), l1, l2, l3, l4, l5] (.ref x :: S) h) ∧
  (∀ (l0 l1 l2 l3 l4 l5 : Option Value) (S : List Value) (h : zH), zD 83 1 [l0, l1, l2, l3, l4, l5] S h = zD 83 2 [l0, l1, l2, l3, l4, l5] (.int (0 : Int32) :: S) h) ∧
  (∀ (l0 l1 l2 l3 l4 l5 : Option Value) (v : Int32) (a : Nat) (r : List Value) (h : zH) (hx : zfok (h.2.2 a) 9 5 = true) (hf : fits .boolean (.int v) = true) (hn : zbv v), zD 83 2 [l0, l1, l2, l3, l4, l5] (.int v :: .ref a :: r) h = zD 83 5 [l0, l1, l2, l3, l4, l5] r (zw h a (zfs' (h.2.2 a) 5 (.int v)))) ∧
  (∀ (l0 l1 l2 l3 l4 l5 : Option Value) (S : List Value) (h : zH), zD 83 5 [l0, l1, l2, l3, l4, l5] S h = zD 83 6 [l0, l1, l2, l3, l4, l5] (.int (0 : Int32) :: S) h) ∧
  (∀ (l0 l1 l2 l3 l4 l5 : Option Value) (x : Int32) (r : List Value) (h : zH), zD 83 6 [l0, l1, l2, l3, l4, l5] (.int x :: r) h = zD 83 7 [zclr l0, some (.int x), l2, l3, l4, l5] r h) ∧
  (∀ (l0 l1 l2 l3 l4 l5 : Option Value) (S : List Value) (h : zH), zD 83 7 [l0, l1, l2, l3, l4, l5] S h = zD 83 8 [l0, l1, l2, l3, l4, l5] (.int (1 : Int32) :: S) h) ∧
  (∀ (l0 l1 l2 l3 l4 l5 : Option Value) (x : Int32) (r : List Value) (h : zH), zD 83 8 [l0, l1, l2, l3, l4, l5] (.int x :: r) h = zD 83 9 [l0, zclr l1, some (.int x), l3, l4, l5] r h) ∧
  (∀ (l1 l2 l3 l4 l5 : Option Value) (x : Nat) (S : List Value) (h : zH), zD 83 10 [some (.ref x), l1, l2, l3, l4, l5] S h = zD 83 11 [some (.ref x), l1, l2, l3, l4, l5] (.ref x :: S) h) ∧
  (∀ (l0 l1 l2 l3 l4 l5 : Option Value) (a : Nat) (r : List Value) (h : zH) (hx : zfok (h.2.2 a) 9 0 = true), zD 83 11 [l0, l1, l2, l3, l4, l5] (.ref a :: r) h = zD 83 14 [l0, l1, l2, l3, l4, l5] (zfv (h.2.2 a) 0 :: r) h) ∧
  (∀ (l0 l1 l2 l3 l4 l5 : Option Value) (x y : Int32) (r : List Value) (h : zH), zD 83 14 [l0, l1, l2, l3, l4, l5] (.int y :: .int x :: r) h = if y < x then zD 83 163 [l0, l1, l2, l3, l4, l5] r h else zD 83 17 [l0, l1, l2, l3, l4, l5] r h) ∧
  (∀ (l0 l1 l2 l3 l4 l5 : Option Value) (S : List Value) (h : zH), zD 83 17 [l0, l1, l2, l3, l4, l5] S h = zD 83 19 [l0, l1, l2, l3, l4, l5] (.int (21 : Int32) :: S) h) ∧
  (∀ (l0 l1 l2 l3 l4 l5 : Option Value) (x : Int32) (r : List Value) (h : zH), zD 83 19 [l0, l1, l2, l3, l4, l5] (.int x :: r) h = zD 83 20 [l0, l1, zclr l2, some (.int x), l4, l5] r h) ∧
  (∀ (l0 l1 l2 l3 l4 l5 : Option Value) (S : List Value) (h : zH), zD 83 20 [l0, l1, l2, l3, l4, l5] S h = zD 83 21 [l0, l1, l2, l3, l4, l5] (.int (0 : Int32) :: S) h) ∧
  (∀ (l0 l1 l2 l3 l4 l5 : Option Value) (x : Int32) (r : List Value) (h : zH), zD 83 21 [l0, l1, l2, l3, l4, l5] (.int x :: r) h = zD 83 23 [l0, l1, l2, zclr l3, some (.int x), l5] r h) ∧
  (∀ (l0 l1 l2 l3 l4 l5 : Option Value) (S : List Value) (h : zH), zD 83 25 [l0, l1, l2, l3, l4, l5] S h = zD 83 27 [l0, l1, l2, l3, l4, l5] (.int (10 : Int32) :: S) h) ∧
  (∀ (l0 l1 l2 l3 l4 l5 : Option Value) (x y : Int32) (r : List Value) (h : zH), zD 83 27 [l0, l1, l2, l3, l4, l5] (.int y :: .int x :: r) h = if y < x then zD 83 66 [l0, l1, l2, l3, l4, l5] r h else zD 83 30 [l0, l1, l2, l3, l4, l5] r h) ∧
  (∀ (l0 l1 l2 l4 l5 : Option Value) (x : Int32) (S : List Value) (h : zH), zD 83 30 [l0, l1, l2, some (.int x), l4, l5] S h = zD 83 31 [l0, l1, l2, some (.int x), l4, l5] (.int x :: S) h) ∧
  (∀ (l1 l2 l3 l4 l5 : Option Value) (x : Nat) (S : List Value) (h : zH), zD 83 31 [some (.ref x), l1, l2, l3, l4, l5] S h = zD 83 32 [some (.ref x), l1, l2, l3, l4, l5] (.ref x :: S) h) ∧
  (∀ (l0 l1 l2 l3 l5 : Option Value) (x : Int32) (S : List Value) (h : zH), zD 83 32 [l0, l1, l2, l3, some (.int x), l5] S h = zD 83 34 [l0, l1, l2, l3, some (.int x), l5] (.int x :: S) h) ∧
  (∀ (l1 l2 l3 l4 l5 : Option Value) (x : Nat) (S : List Value) (h : zH), zD 83 34 [some (.ref x), l1, l2, l3, l4, l5] S h = zD 83 35 [some (.ref x), l1, l2, l3, l4, l5] (.ref x :: S) h) ∧
  (∀ (l0 l1 l2 l3 l4 l5 : Option Value) (a : Nat) (r : List Value) (h : zH) (hx : zfok (h.2.2 a) 9 1 = true), zD 83 35 [l0, l1, l2, l3, l4, l5] (.ref a :: r) h = zD 83 38 [l0, l1, l2, l3, l4, l5] (zfv (h.2.2 a) 1 :: r) h) ∧
  (∀ (l0 l1 l3 l4 l5 : Option Value) (x : Int32) (S : List Value) (h : zH), zD 83 38 [l0, l1, some (.int x), l3, l4, l5] S h = zD 83 39 [l0, l1, some (.int x), l3, l4, l5] (.int x :: S) h) ∧
  (∀ (l0 l1 l2 l3 l4 l5 : Option Value) (i : Int32) (a : Nat) (r : List Value) (h : zH) (hx : ziok a (h.2.2 a) i = true), zD 83 39 [l0, l1, l2, l3, l4, l5] (.int i :: .ref a :: r) h = zD 83 40 [l0, l1, l2, l3, l4, l5] (.int (ziv (h.2.2 a) i) :: r) h) ∧
  (∀ (l0 l1 l2 l3 l4 l5 : Option Value) (S : List Value) (h : zH), zD 83 40 [l0, l1, l2, l3, l4, l5] S h = zD 83 41 [l0, l1, l2, l3, l4, l5] (.int (0 : Int32) :: S) h) ∧
  (∀ (l0 l1 l2 l3 l4 l5 : Option Value) (p0 : Int32) (p1 : Int32) (p2 : Int32) (a : Nat) (r : List Value) (h : zH) (hcat : zcat r ≤ 8) (hr : zis (h.2.2 a) 9 = true) (hC : (zC 34 (.ref a :: [.int p0, .int p1, .int p2]) h).isSome = true), zD 83 41 [l0, l1, l2, l3, l4, l5] (.int p2 :: .int p1 :: .int p0 :: .ref a :: r) h = zD 83 44 [l0, l1, l2, l3, l4, l5] (zgv (zC 34 (.ref a :: [.int p0, .int p1, .int p2]) h) ++ r) (zgh h (zC 34 (.ref a :: [.int p0, .int p1, .int p2]) h))) ∧
  (∀ (l1 l2 l3 l4 l5 : Option Value) (x : Nat) (S : List Value) (h : zH), zD 83 44 [some (.ref x), l1, l2, l3, l4, l5] S h = zD 83 45 [some (.ref x), l1, l2, l3, l4, l5] (.ref x :: S) h) ∧
  (∀ (l0 l1 l2 l3 l5 : Option Value) (x : Int32) (S : List Value) (h : zH), zD 83 45 [l0, l1, l2, l3, some (.int x), l5] S h = zD 83 47 [l0, l1, l2, l3, some (.int x), l5] (.int x :: S) h) ∧
  (∀ (l1 l2 l3 l4 l5 : Option Value) (x : Nat) (S : List Value) (h : zH), zD 83 47 [some (.ref x), l1, l2, l3, l4, l5] S h = zD 83 48 [some (.ref x), l1, l2, l3, l4, l5] (.ref x :: S) h) ∧
  (∀ (l0 l1 l2 l3 l4 l5 : Option Value) (a : Nat) (r : List Value) (h : zH) (hx : zfok (h.2.2 a) 9 1 = true), zD 83 48 [l0, l1, l2, l3, l4, l5] (.ref a :: r) h = zD 83 51 [l0, l1, l2, l3, l4, l5] (zfv (h.2.2 a) 1 :: r) h) ∧
  (∀ (l0 l1 l3 l4 l5 : Option Value) (x : Int32) (S : List Value) (h : zH), zD 83 51 [l0, l1, some (.int x), l3, l4, l5] S h = zD 83 52 [l0, l1, some (.int x), l3, l4, l5] (.int x :: S) h) ∧
  (∀ (l0 l1 l2 l3 l4 l5 : Option Value) (i : Int32) (a : Nat) (r : List Value) (h : zH) (hx : ziok a (h.2.2 a) i = true), zD 83 52 [l0, l1, l2, l3, l4, l5] (.int i :: .ref a :: r) h = zD 83 53 [l0, l1, l2, l3, l4, l5] (.int (ziv (h.2.2 a) i) :: r) h) ∧
  (∀ (l0 l1 l2 l3 l4 l5 : Option Value) (S : List Value) (h : zH), zD 83 53 [l0, l1, l2, l3, l4, l5] S h = zD 83 54 [l0, l1, l2, l3, l4, l5] (.int (1 : Int32) :: S) h) ∧
  (∀ (l0 l1 l2 l3 l4 l5 : Option Value) (p0 : Int32) (p1 : Int32) (p2 : Int32) (a : Nat) (r : List Value) (h : zH) (hcat : zcat r ≤ 8) (hr : zis (h.2.2 a) 9 = true) (hC : (zC 34 (.ref a :: [.int p0, .int p1, .int p2]) h).isSome = true), zD 83 54 [l0, l1, l2, l3, l4, l5] (.int p2 :: .int p1 :: .int p0 :: .ref a :: r) h = zD 83 57 [l0, l1, l2, l3, l4, l5] (zgv (zC 34 (.ref a :: [.int p0, .int p1, .int p2]) h) ++ r) (zgh h (zC 34 (.ref a :: [.int p0, .int p1, .int p2]) h))) ∧
  (∀ (l0 l1 l2 l3 l4 l5 : Option Value) (x y : Int32) (r : List Value) (h : zH), zD 83 57 [l0, l1, l2, l3, l4, l5] (.int y :: .int x :: r) h = zD 83 58 [l0, l1, l2, l3, l4, l5] (.int (x + y) :: r) h) ∧
  (∀ (l0 l1 l2 l3 l4 l5 : Option Value) (x y : Int32) (r : List Value) (h : zH), zD 83 58 [l0, l1, l2, l3, l4, l5] (.int y :: .int x :: r) h = zD 83 59 [l0, l1, l2, l3, l4, l5] (.int (x + y) :: r) h) ∧
  (∀ (l0 l1 l2 l3 l4 l5 : Option Value) (x : Int32) (r : List Value) (h : zH), zD 83 59 [l0, l1, l2, l3, l4, l5] (.int x :: r) h = zD 83 60 [l0, l1, zclr l2, some (.int x), l4, l5] r h) ∧
  (∀ (l0 l1 l2 l3 l5 : Option Value) (x : Int32) (S : List Value) (h : zH), zD 83 60 [l0, l1, l2, l3, some (.int x), l5] S h = zD 83 63 [l0, l1, l2, zclr l3, some (.int (x + (1 : Int32))), l5] S h) ∧
  (∀ (l0 l1 l2 l3 l4 l5 : Option Value) (S : List Value) (h : zH), zD 83 63 [l0, l1, l2, l3, l4, l5] S h = zD 83 23 [l0, l1, l2, l3, l4, l5] S h) ∧
  (∀ (l0 l1 l2 l3 l4 l5 : Option Value) (S : List Value) (h : zH), zD 83 66 [l0, l1, l2, l3, l4, l5] S h = zD 83 67 [l0, l1, l2, l3, l4, l5] (.int (0 : Int32) :: S) h) ∧
  (∀ (l0 l1 l2 l3 l4 l5 : Option Value) (x : Int32) (r : List Value) (h : zH), zD 83 67 [l0, l1, l2, l3, l4, l5] (.int x :: r) h = zD 83 69 [l0, l1, l2, zclr l3, some (.int x), l5] r h) ∧
  (∀ (l1 l2 l3 l4 l5 : Option Value) (x : Nat) (S : List Value) (h : zH), zD 83 71 [some (.ref x), l1, l2, l3, l4, l5] S h = zD 83 72 [some (.ref x), l1, l2, l3, l4, l5] (.ref x :: S) h) ∧
  (∀ (l0 l1 l2 l3 l4 l5 : Option Value) (a : Nat) (r : List Value) (h : zH) (hx : zfok (h.2.2 a) 9 0 = true), zD 83 72 [l0, l1, l2, l3, l4, l5] (.ref a :: r) h = zD 83 75 [l0, l1, l2, l3, l4, l5] (zfv (h.2.2 a) 0 :: r) h) ∧
  (∀ (l0 l1 l2 l3 l4 l5 : Option Value) (x y : Int32) (r : List Value) (h : zH), zD 83 75 [l0, l1, l2, l3, l4, l5] (.int y :: .int x :: r) h = if y < x then zD 83 157 [l0, l1, l2, l3, l4, l5] r h else zD 83 78 [l0, l1, l2, l3, l4, l5] r h) ∧
  (∀ (l0 l1 l2 l3 l5 : Option Value) (x : Int32) (S : List Value) (h : zH), zD 83 78 [l0, l1, l2, l3, some (.int x), l5] S h = zD 83 80 [l0, l1, l2, l3, some (.int x), l5] (.int x :: S) h) ∧
  (∀ (l0 l1 l3 l4 l5 : Option Value) (x : Int32) (S : List Value) (h : zH), zD 83 80 [l0, l1, some (.int x), l3, l4, l5] S h = zD 83 81 [l0, l1, some (.int x), l3, l4, l5] (.int x :: S) h) ∧
  (∀ (l0 l1 l2 l3 l4 l5 : Option Value) (x y : Int32) (r : List Value) (h : zH), zD 83 81 [l0, l1, l2, l3, l4, l5] (.int y :: .int x :: r) h = if x = y then zD 83 151 [l0, l1, l2, l3, l4, l5] r h else zD 83 84 [l0, l1, l2, l3, l4, l5] r h) ∧
  (∀ (l0 l1 l2 l3 l4 l5 : Option Value) (S : List Value) (h : zH), zD 83 84 [l0, l1, l2, l3, l4, l5] S h = zD 83 87 [l0, l1, l2, l3, l4, l5] (.int (1000 : Int32) :: S) h) ∧
  (∀ (l1 l2 l3 l4 l5 : Option Value) (x : Nat) (S : List Value) (h : zH), zD 83 87 [some (.ref x), l1, l2, l3, l4, l5] S h = zD 83 88 [some (.ref x), l1, l2, l3, l4, l5] (.ref x :: S) h) ∧
  (∀ (l0 l1 l2 l3 l5 : Option Value) (x : Int32) (S : List Value) (h : zH), zD 83 88 [l0, l1, l2, l3, some (.int x), l5] S h = zD 83 90 [l0, l1, l2, l3, some (.int x), l5] (.int x :: S) h) ∧
  (∀ (l0 l1 l2 l3 l4 l5 : Option Value) (x : Int32) (r : List Value) (h : zH), zD 83 90 [l0, l1, l2, l3, l4, l5] (.int x :: r) h = if ¬ x = 0 then zD 83 98 [l0, l1, l2, l3, l4, l5] r h else zD 83 93 [l0, l1, l2, l3, l4, l5] r h) ∧
  (∀ (l0 l1 l2 l3 l4 l5 : Option Value) (S : List Value) (h : zH), zD 83 93 [l0, l1, l2, l3, l4, l5] S h = zD 83 95 [l0, l1, l2, l3, l4, l5] (.int (10 : Int32) :: S) h) ∧
  (∀ (l0 l1 l2 l3 l4 l5 : Option Value) (S : List Value) (h : zH), zD 83 95 [l0, l1, l2, l3, l4, l5] S h = zD 83 105 [l0, l1, l2, l3, l4, l5] S h) ∧
  (∀ (l1 l2 l3 l4 l5 : Option Value) (x : Nat) (S : List Value) (h : zH), zD 83 98 [some (.ref x), l1, l2, l3, l4, l5] S h = zD 83 99 [some (.ref x), l1, l2, l3, l4, l5] (.ref x :: S) h) ∧
  (∀ (l0 l1 l2 l3 l4 l5 : Option Value) (a : Nat) (r : List Value) (h : zH) (hx : zfok (h.2.2 a) 9 1 = true), zD 83 99 [l0, l1, l2, l3, l4, l5] (.ref a :: r) h = zD 83 102 [l0, l1, l2, l3, l4, l5] (zfv (h.2.2 a) 1 :: r) h) ∧
  (∀ (l0 l1 l2 l3 l5 : Option Value) (x : Int32) (S : List Value) (h : zH), zD 83 102 [l0, l1, l2, l3, some (.int x), l5] S h = zD 83 104 [l0, l1, l2, l3, some (.int x), l5] (.int x :: S) h) ∧
  (∀ (l0 l1 l2 l3 l4 l5 : Option Value) (i : Int32) (a : Nat) (r : List Value) (h : zH) (hx : ziok a (h.2.2 a) i = true), zD 83 104 [l0, l1, l2, l3, l4, l5] (.int i :: .ref a :: r) h = zD 83 105 [l0, l1, l2, l3, l4, l5] (.int (ziv (h.2.2 a) i) :: r) h) ∧
  (∀ (l1 l2 l3 l4 l5 : Option Value) (x : Nat) (S : List Value) (h : zH), zD 83 105 [some (.ref x), l1, l2, l3, l4, l5] S h = zD 83 106 [some (.ref x), l1, l2, l3, l4, l5] (.ref x :: S) h) ∧
  (∀ (l0 l1 l2 l3 l4 l5 : Option Value) (a : Nat) (r : List Value) (h : zH) (hx : zfok (h.2.2 a) 9 1 = true), zD 83 106 [l0, l1, l2, l3, l4, l5] (.ref a :: r) h = zD 83 109 [l0, l1, l2, l3, l4, l5] (zfv (h.2.2 a) 1 :: r) h) ∧
  (∀ (l0 l1 l3 l4 l5 : Option Value) (x : Int32) (S : List Value) (h : zH), zD 83 109 [l0, l1, some (.int x), l3, l4, l5] S h = zD 83 110 [l0, l1, some (.int x), l3, l4, l5] (.int x :: S) h) ∧
  (∀ (l0 l1 l2 l3 l4 l5 : Option Value) (i : Int32) (a : Nat) (r : List Value) (h : zH) (hx : ziok a (h.2.2 a) i = true), zD 83 110 [l0, l1, l2, l3, l4, l5] (.int i :: .ref a :: r) h = zD 83 111 [l0, l1, l2, l3, l4, l5] (.int (ziv (h.2.2 a) i) :: r) h) ∧
  (∀ (l0 l1 l2 l3 l5 : Option Value) (x : Int32) (S : List Value) (h : zH), zD 83 111 [l0, l1, l2, l3, some (.int x), l5] S h = zD 83 113 [l0, l1, l2, l3, some (.int x), l5] (.int x :: S) h) ∧
  (∀ (l0 l1 l3 l4 l5 : Option Value) (x : Int32) (S : List Value) (h : zH), zD 83 113 [l0, l1, some (.int x), l3, l4, l5] S h = zD 83 114 [l0, l1, some (.int x), l3, l4, l5] (.int x :: S) h) ∧
  (∀ (l0 l1 l2 l3 l4 l5 : Option Value) (x y : Int32) (r : List Value) (h : zH), zD 83 114 [l0, l1, l2, l3, l4, l5] (.int y :: .int x :: r) h = if y ≤ x then zD 83 121 [l0, l1, l2, l3, l4, l5] r h else zD 83 117 [l0, l1, l2, l3, l4, l5] r h) ∧
  (∀ (l0 l1 l2 l3 l4 l5 : Option Value) (S : List Value) (h : zH), zD 83 117 [l0, l1, l2, l3, l4, l5] S h = zD 83 118 [l0, l1, l2, l3, l4, l5] (.int (0 : Int32) :: S) h) ∧
  (∀ (l0 l1 l2 l3 l4 l5 : Option Value) (S : List Value) (h : zH), zD 83 118 [l0, l1, l2, l3, l4, l5] S h = zD 83 122 [l0, l1, l2, l3, l4, l5] S h) ∧
  (∀ (l0 l1 l2 l3 l4 l5 : Option Value) (S : List Value) (h : zH), zD 83 121 [l0, l1, l2, l3, l4, l5] S h = zD 83 122 [l0, l1, l2, l3, l4, l5] (.int (1 : Int32) :: S) h) ∧
  (∀ (l0 l1 l2 l3 l4 l5 : Option Value) (p0 : Int32) (p1 : Int32) (p2 : Int32) (a : Nat) (r : List Value) (h : zH) (hcat : zcat r ≤ 8) (hr : zis (h.2.2 a) 9 = true) (hC : (zC 34 (.ref a :: [.int p0, .int p1, .int p2]) h).isSome = true), zD 83 122 [l0, l1, l2, l3, l4, l5] (.int p2 :: .int p1 :: .int p0 :: .ref a :: r) h = zD 83 125 [l0, l1, l2, l3, l4, l5] (zgv (zC 34 (.ref a :: [.int p0, .int p1, .int p2]) h) ++ r) (zgh h (zC 34 (.ref a :: [.int p0, .int p1, .int p2]) h))) ∧
  (∀ (l0 l1 l2 l3 l4 l5 : Option Value) (S : List Value) (h : zH), zD 83 125 [l0, l1, l2, l3, l4, l5] S h = zD 83 126 [l0, l1, l2, l3, l4, l5] (.int (1 : Int32) :: S) h) ∧
  (∀ (l0 l1 l2 l3 l4 l5 : Option Value) (x y : Int32) (r : List Value) (h : zH), zD 83 126 [l0, l1, l2, l3, l4, l5] (.int y :: .int x :: r) h = zD 83 127 [l0, l1, l2, l3, l4, l5] (.int (x + y) :: r) h) ∧
  (∀ (l0 l1 l2 l3 l4 l5 : Option Value) (x y : Int32) (r : List Value) (h : zH), zD 83 127 [l0, l1, l2, l3, l4, l5] (.int y :: .int x :: r) h = zD 83 128 [l0, l1, l2, l3, l4, l5] (.int (x * y) :: r) h) ∧
  (∀ (l0 l1 l2 l4 l5 : Option Value) (x : Int32) (S : List Value) (h : zH), zD 83 128 [l0, l1, l2, some (.int x), l4, l5] S h = zD 83 129 [l0, l1, l2, some (.int x), l4, l5] (.int x :: S) h) ∧
  (∀ (l0 l1 l2 l3 l4 l5 : Option Value) (x y : Int32) (r : List Value) (h : zH) (hy : ¬ y = 0), zD 83 129 [l0, l1, l2, l3, l4, l5] (.int y :: .int x :: r) h = zD 83 130 [l0, l1, l2, l3, l4, l5] (.int (x / y) :: r) h) ∧
  (∀ (l0 l1 l2 l3 l4 l5 : Option Value) (x : Int32) (r : List Value) (h : zH), zD 83 130 [l0, l1, l2, l3, l4, l5] (.int x :: r) h = zD 83 132 [l0, l1, l2, l3, zclr l4, some (.int x)] r h) ∧
  (∀ (l1 l2 l3 l4 l5 : Option Value) (x : Nat) (S : List Value) (h : zH), zD 83 132 [some (.ref x), l1, l2, l3, l4, l5] S h = zD 83 133 [some (.ref x), l1, l2, l3, l4, l5] (.ref x :: S) h) ∧
  (∀ (l0 l1 l2 l3 l4 l5 : Option Value) (a : Nat) (r : List Value) (h : zH) (hx : zfok (h.2.2 a) 9 3 = true), zD 83 133 [l0, l1, l2, l3, l4, l5] (.ref a :: r) h = zD 83 136 [l0, l1, l2, l3, l4, l5] (zfv (h.2.2 a) 3 :: r) h) ∧
  (∀ (l0 l1 l2 l3 l4 l5 : Option Value) (S : List Value) (h : zH), zD 83 136 [l0, l1, l2, l3, l4, l5] S h = zD 83 138 [l0, l1, l2, l3, l4, l5] (.int (8 : Int32) :: S) h) ∧
  (∀ (l0 l1 l3 l4 l5 : Option Value) (x : Int32) (S : List Value) (h : zH), zD 83 138 [l0, l1, some (.int x), l3, l4, l5] S h = zD 83 139 [l0, l1, some (.int x), l3, l4, l5] (.int x :: S) h) ∧
  (∀ (l0 l1 l2 l3 l4 l5 : Option Value) (x y : Int32) (r : List Value) (h : zH), zD 83 139 [l0, l1, l2, l3, l4, l5] (.int y :: .int x :: r) h = zD 83 140 [l0, l1, l2, l3, l4, l5] (.int (x * y) :: r) h) ∧
  (∀ (l0 l1 l2 l3 l5 : Option Value) (x : Int32) (S : List Value) (h : zH), zD 83 140 [l0, l1, l2, l3, some (.int x), l5] S h = zD 83 142 [l0, l1, l2, l3, some (.int x), l5] (.int x :: S) h) ∧
  (∀ (l0 l1 l2 l3 l4 l5 : Option Value) (x y : Int32) (r : List Value) (h : zH), zD 83 142 [l0, l1, l2, l3, l4, l5] (.int y :: .int x :: r) h = zD 83 143 [l0, l1, l2, l3, l4, l5] (.int (x + y) :: r) h) ∧
  (∀ (l0 l1 l2 l3 l4 : Option Value) (x : Int32) (S : List Value) (h : zH), zD 83 143 [l0, l1, l2, l3, l4, some (.int x)] S h = zD 83 145 [l0, l1, l2, l3, l4, some (.int x)] (.int x :: S) h) ∧
  (∀ (l0 l1 l2 l3 l4 l5 : Option Value) (w i : Int32) (a : Nat) (r : List Value) (h : zH) (hx : zpok (h.2.2 a) i = true), zD 83 145 [l0, l1, l2, l3, l4, l5] (.int w :: .int i :: .ref a :: r) h = zD 83 146 [l0, l1, l2, l3, l4, l5] r (zw h a (zis' (h.2.2 a) i w))) ∧
  (∀ (l0 l2 l3 l4 l5 : Option Value) (x : Int32) (S : List Value) (h : zH), zD 83 146 [l0, some (.int x), l2, l3, l4, l5] S h = zD 83 147 [l0, some (.int x), l2, l3, l4, l5] (.int x :: S) h) ∧
  (∀ (l0 l1 l2 l3 l4 : Option Value) (x : Int32) (S : List Value) (h : zH), zD 83 147 [l0, l1, l2, l3, l4, some (.int x)] S h = zD 83 149 [l0, l1, l2, l3, l4, some (.int x)] (.int x :: S) h) ∧
  (∀ (l0 l1 l2 l3 l4 l5 : Option Value) (x y : Int32) (r : List Value) (h : zH), zD 83 149 [l0, l1, l2, l3, l4, l5] (.int y :: .int x :: r) h = zD 83 150 [l0, l1, l2, l3, l4, l5] (.int (x + y) :: r) h) ∧
  (∀ (l0 l1 l2 l3 l4 l5 : Option Value) (x : Int32) (r : List Value) (h : zH), zD 83 150 [l0, l1, l2, l3, l4, l5] (.int x :: r) h = zD 83 151 [zclr l0, some (.int x), l2, l3, l4, l5] r h) ∧
  (∀ (l0 l1 l2 l3 l5 : Option Value) (x : Int32) (S : List Value) (h : zH), zD 83 151 [l0, l1, l2, l3, some (.int x), l5] S h = zD 83 154 [l0, l1, l2, zclr l3, some (.int (x + (1 : Int32))), l5] S h) ∧
  (∀ (l0 l1 l2 l3 l4 l5 : Option Value) (S : List Value) (h : zH), zD 83 154 [l0, l1, l2, l3, l4, l5] S h = zD 83 69 [l0, l1, l2, l3, l4, l5] S h) ∧
  (∀ (l0 l1 l3 l4 l5 : Option Value) (x : Int32) (S : List Value) (h : zH), zD 83 157 [l0, l1, some (.int x), l3, l4, l5] S h = zD 83 160 [l0, zclr l1, some (.int (x + (1 : Int32))), l3, l4, l5] S h) ∧
  (∀ (l0 l1 l2 l3 l4 l5 : Option Value) (S : List Value) (h : zH), zD 83 160 [l0, l1, l2, l3, l4, l5] S h = zD 83 9 [l0, l1, l2, l3, l4, l5] S h) ∧
  (∀ (l0 l2 l3 l4 l5 : Option Value) (x : Int32) (S : List Value) (h : zH), zD 83 163 [l0, some (.int x), l2, l3, l4, l5] S h = zD 83 164 [l0, some (.int x), l2, l3, l4, l5] (.int x :: S) h) ∧
  (∀ (l0 l1 l2 l3 l4 l5 : Option Value) (v : Int32) (h : zH), zD 83 164 [l0, l1, l2, l3, l4, l5] [.int v] h = some (some (.int v), h)) :=
  ⟨fun l1 l2 l3 l4 l5 x S h => zD_op (ins := .aload_n 0) (len := 1) (c := (1, [some (.ref x), l1, l2, l3, l4, l5], (.ref x :: S), h)) (by decide +kernel) rfl rfl rfl rfl,
  fun l0 l1 l2 l3 l4 l5 S h => zD_icst (n := 0) (by decide +kernel) (by decide +kernel),
  fun l0 l1 l2 l3 l4 l5 v a r h hx hf hn => zD_putf (i := 73) (ci := 9) (k := 5) (q := (716, 0)) (by decide +kernel) (by decide +kernel) (by decide +kernel) hx hf (congrArg Value.int hn),
  fun l0 l1 l2 l3 l4 l5 S h => zD_icst (n := 0) (by decide +kernel) (by decide +kernel),
  fun l0 l1 l2 l3 l4 l5 x r h => zD_st1 (k := 1) (ins := .istore_n 1) (len := 1) (by decide +kernel) rfl rfl rfl (by decide +kernel) rfl rfl,
  fun l0 l1 l2 l3 l4 l5 S h => zD_icst (n := 1) (by decide +kernel) (by decide +kernel),
  fun l0 l1 l2 l3 l4 l5 x r h => zD_st1 (k := 2) (ins := .istore_n 2) (len := 1) (by decide +kernel) rfl rfl rfl (by decide +kernel) rfl rfl,
  fun l1 l2 l3 l4 l5 x S h => zD_op (ins := .aload_n 0) (len := 1) (c := (11, [some (.ref x), l1, l2, l3, l4, l5], (.ref x :: S), h)) (by decide +kernel) rfl rfl rfl rfl,
  fun l0 l1 l2 l3 l4 l5 a r h hx => zD_getf (i := 7) (ci := 9) (k := 0) (q := (711, 0)) (by decide +kernel) (by decide +kernel) hx,
  fun l0 l1 l2 l3 l4 l5 x y r h => zD_if (cnd := .gt) (off := 149) (by decide +kernel) (by decide) rfl,
  fun l0 l1 l2 l3 l4 l5 S h => zD_bip (n := 21) (by decide +kernel) (by decide +kernel),
  fun l0 l1 l2 l3 l4 l5 x r h => zD_st1 (k := 3) (ins := .istore_n 3) (len := 1) (by decide +kernel) rfl rfl rfl (by decide +kernel) rfl rfl,
  fun l0 l1 l2 l3 l4 l5 S h => zD_icst (n := 0) (by decide +kernel) (by decide +kernel),
  fun l0 l1 l2 l3 l4 l5 x r h => zD_st1 (k := 4) (ins := .istore 4) (len := 2) (by decide +kernel) rfl rfl rfl (by decide +kernel) rfl rfl,
  fun l0 l1 l2 l3 l4 l5 S h => zD_bip (n := 10) (by decide +kernel) (by decide +kernel),
  fun l0 l1 l2 l3 l4 l5 x y r h => zD_if (cnd := .gt) (off := 39) (by decide +kernel) (by decide) rfl,
  fun l0 l1 l2 l4 l5 x S h => zD_op (ins := .iload_n 3) (len := 1) (c := (31, [l0, l1, l2, some (.int x), l4, l5], (.int x :: S), h)) (by decide +kernel) rfl rfl rfl rfl,
  fun l1 l2 l3 l4 l5 x S h => zD_op (ins := .aload_n 0) (len := 1) (c := (32, [some (.ref x), l1, l2, l3, l4, l5], (.ref x :: S), h)) (by decide +kernel) rfl rfl rfl rfl,
  fun l0 l1 l2 l3 l5 x S h => zD_op (ins := .iload 4) (len := 2) (c := (34, [l0, l1, l2, l3, some (.int x), l5], (.int x :: S), h)) (by decide +kernel) rfl rfl rfl rfl,
  fun l1 l2 l3 l4 l5 x S h => zD_op (ins := .aload_n 0) (len := 1) (c := (35, [some (.ref x), l1, l2, l3, l4, l5], (.ref x :: S), h)) (by decide +kernel) rfl rfl rfl rfl,
  fun l0 l1 l2 l3 l4 l5 a r h hx => zD_getf (i := 13) (ci := 9) (k := 1) (q := (712, 0)) (by decide +kernel) (by decide +kernel) hx,
  fun l0 l1 l3 l4 l5 x S h => zD_op (ins := .iload_n 2) (len := 1) (c := (39, [l0, l1, some (.int x), l3, l4, l5], (.int x :: S), h)) (by decide +kernel) rfl rfl rfl rfl,
  fun l0 l1 l2 l3 l4 l5 i a r h hx => zD_iald (by decide +kernel) hx,
  fun l0 l1 l2 l3 l4 l5 S h => zD_icst (n := 0) (by decide +kernel) (by decide +kernel),
  fun l0 l1 l2 l3 l4 l5 p0 p1 p2 a r h hcat hr hC => zD_callv (i := 132) (y := 34) (n := 3) (as := [.int p0, .int p1, .int p2]) (ci := 9) (by decide +kernel) (by decide +kernel) rfl (by decide +kernel) (Nat.le_of_ble_eq_true rfl) (by decide +kernel) hcat hr hC,
  fun l1 l2 l3 l4 l5 x S h => zD_op (ins := .aload_n 0) (len := 1) (c := (45, [some (.ref x), l1, l2, l3, l4, l5], (.ref x :: S), h)) (by decide +kernel) rfl rfl rfl rfl,
  fun l0 l1 l2 l3 l5 x S h => zD_op (ins := .iload 4) (len := 2) (c := (47, [l0, l1, l2, l3, some (.int x), l5], (.int x :: S), h)) (by decide +kernel) rfl rfl rfl rfl,
  fun l1 l2 l3 l4 l5 x S h => zD_op (ins := .aload_n 0) (len := 1) (c := (48, [some (.ref x), l1, l2, l3, l4, l5], (.ref x :: S), h)) (by decide +kernel) rfl rfl rfl rfl,
  fun l0 l1 l2 l3 l4 l5 a r h hx => zD_getf (i := 13) (ci := 9) (k := 1) (q := (712, 0)) (by decide +kernel) (by decide +kernel) hx,
  fun l0 l1 l3 l4 l5 x S h => zD_op (ins := .iload_n 2) (len := 1) (c := (52, [l0, l1, some (.int x), l3, l4, l5], (.int x :: S), h)) (by decide +kernel) rfl rfl rfl rfl,
  fun l0 l1 l2 l3 l4 l5 i a r h hx => zD_iald (by decide +kernel) hx,
  fun l0 l1 l2 l3 l4 l5 S h => zD_icst (n := 1) (by decide +kernel) (by decide +kernel),
  fun l0 l1 l2 l3 l4 l5 p0 p1 p2 a r h hcat hr hC => zD_callv (i := 132) (y := 34) (n := 3) (as := [.int p0, .int p1, .int p2]) (ci := 9) (by decide +kernel) (by decide +kernel) rfl (by decide +kernel) (Nat.le_of_ble_eq_true rfl) (by decide +kernel) hcat hr hC,
  fun l0 l1 l2 l3 l4 l5 x y r h => zD_op (ins := .iadd) (len := 1) (c := (58, [l0, l1, l2, l3, l4, l5], (.int (x + y) :: r), h)) (by decide +kernel) rfl rfl rfl rfl,
  fun l0 l1 l2 l3 l4 l5 x y r h => zD_op (ins := .iadd) (len := 1) (c := (59, [l0, l1, l2, l3, l4, l5], (.int (x + y) :: r), h)) (by decide +kernel) rfl rfl rfl rfl,
  fun l0 l1 l2 l3 l4 l5 x r h => zD_st1 (k := 3) (ins := .istore_n 3) (len := 1) (by decide +kernel) rfl rfl rfl (by decide +kernel) rfl rfl,
  fun l0 l1 l2 l3 l5 x S h => zD_iinc (k := 4) (x := x) (c := (1 : Int32)) (n := 1) (by decide +kernel) (by decide +kernel) rfl (by decide +kernel) rfl,
  fun l0 l1 l2 l3 l4 l5 S h => zD_goto (off := (-40)) (by decide +kernel) (by decide),
  fun l0 l1 l2 l3 l4 l5 S h => zD_icst (n := 0) (by decide +kernel) (by decide +kernel),
  fun l0 l1 l2 l3 l4 l5 x r h => zD_st1 (k := 4) (ins := .istore 4) (len := 2) (by decide +kernel) rfl rfl rfl (by decide +kernel) rfl rfl,
  fun l1 l2 l3 l4 l5 x S h => zD_op (ins := .aload_n 0) (len := 1) (c := (72, [some (.ref x), l1, l2, l3, l4, l5], (.ref x :: S), h)) (by decide +kernel) rfl rfl rfl rfl,
  fun l0 l1 l2 l3 l4 l5 a r h hx => zD_getf (i := 7) (ci := 9) (k := 0) (q := (711, 0)) (by decide +kernel) (by decide +kernel) hx,
  fun l0 l1 l2 l3 l4 l5 x y r h => zD_if (cnd := .gt) (off := 82) (by decide +kernel) (by decide) rfl,
  fun l0 l1 l2 l3 l5 x S h => zD_op (ins := .iload 4) (len := 2) (c := (80, [l0, l1, l2, l3, some (.int x), l5], (.int x :: S), h)) (by decide +kernel) rfl rfl rfl rfl,
  fun l0 l1 l3 l4 l5 x S h => zD_op (ins := .iload_n 2) (len := 1) (c := (81, [l0, l1, some (.int x), l3, l4, l5], (.int x :: S), h)) (by decide +kernel) rfl rfl rfl rfl,
  fun l0 l1 l2 l3 l4 l5 x y r h => zD_if (cnd := .eq) (off := 70) (by decide +kernel) (by decide) rfl,
  fun l0 l1 l2 l3 l4 l5 S h => zD_sip (n := 1000) (by decide +kernel) (by decide +kernel),
  fun l1 l2 l3 l4 l5 x S h => zD_op (ins := .aload_n 0) (len := 1) (c := (88, [some (.ref x), l1, l2, l3, l4, l5], (.ref x :: S), h)) (by decide +kernel) rfl rfl rfl rfl,
  fun l0 l1 l2 l3 l5 x S h => zD_op (ins := .iload 4) (len := 2) (c := (90, [l0, l1, l2, l3, some (.int x), l5], (.int x :: S), h)) (by decide +kernel) rfl rfl rfl rfl,
  fun l0 l1 l2 l3 l4 l5 x r h => zD_if0 (cnd := .ne) (off := 8) (by decide +kernel) (by decide) rfl,
  fun l0 l1 l2 l3 l4 l5 S h => zD_bip (n := 10) (by decide +kernel) (by decide +kernel),
  fun l0 l1 l2 l3 l4 l5 S h => zD_goto (off := 10) (by decide +kernel) (by decide),
  fun l1 l2 l3 l4 l5 x S h => zD_op (ins := .aload_n 0) (len := 1) (c := (99, [some (.ref x), l1, l2, l3, l4, l5], (.ref x :: S), h)) (by decide +kernel) rfl rfl rfl rfl,
  fun l0 l1 l2 l3 l4 l5 a r h hx => zD_getf (i := 13) (ci := 9) (k := 1) (q := (712, 0)) (by decide +kernel) (by decide +kernel) hx,
  fun l0 l1 l2 l3 l5 x S h => zD_op (ins := .iload 4) (len := 2) (c := (104, [l0, l1, l2, l3, some (.int x), l5], (.int x :: S), h)) (by decide +kernel) rfl rfl rfl rfl,
  fun l0 l1 l2 l3 l4 l5 i a r h hx => zD_iald (by decide +kernel) hx,
  fun l1 l2 l3 l4 l5 x S h => zD_op (ins := .aload_n 0) (len := 1) (c := (106, [some (.ref x), l1, l2, l3, l4, l5], (.ref x :: S), h)) (by decide +kernel) rfl rfl rfl rfl,
  fun l0 l1 l2 l3 l4 l5 a r h hx => zD_getf (i := 13) (ci := 9) (k := 1) (q := (712, 0)) (by decide +kernel) (by decide +kernel) hx,
  fun l0 l1 l3 l4 l5 x S h => zD_op (ins := .iload_n 2) (len := 1) (c := (110, [l0, l1, some (.int x), l3, l4, l5], (.int x :: S), h)) (by decide +kernel) rfl rfl rfl rfl,
  fun l0 l1 l2 l3 l4 l5 i a r h hx => zD_iald (by decide +kernel) hx,
  fun l0 l1 l2 l3 l5 x S h => zD_op (ins := .iload 4) (len := 2) (c := (113, [l0, l1, l2, l3, some (.int x), l5], (.int x :: S), h)) (by decide +kernel) rfl rfl rfl rfl,
  fun l0 l1 l3 l4 l5 x S h => zD_op (ins := .iload_n 2) (len := 1) (c := (114, [l0, l1, some (.int x), l3, l4, l5], (.int x :: S), h)) (by decide +kernel) rfl rfl rfl rfl,
  fun l0 l1 l2 l3 l4 l5 x y r h => zD_if (cnd := .ge) (off := 7) (by decide +kernel) (by decide) rfl,
  fun l0 l1 l2 l3 l4 l5 S h => zD_icst (n := 0) (by decide +kernel) (by decide +kernel),
  fun l0 l1 l2 l3 l4 l5 S h => zD_goto (off := 4) (by decide +kernel) (by decide),
  fun l0 l1 l2 l3 l4 l5 S h => zD_icst (n := 1) (by decide +kernel) (by decide +kernel),
  fun l0 l1 l2 l3 l4 l5 p0 p1 p2 a r h hcat hr hC => zD_callv (i := 132) (y := 34) (n := 3) (as := [.int p0, .int p1, .int p2]) (ci := 9) (by decide +kernel) (by decide +kernel) rfl (by decide +kernel) (Nat.le_of_ble_eq_true rfl) (by decide +kernel) hcat hr hC,
  fun l0 l1 l2 l3 l4 l5 S h => zD_icst (n := 1) (by decide +kernel) (by decide +kernel),
  fun l0 l1 l2 l3 l4 l5 x y r h => zD_op (ins := .iadd) (len := 1) (c := (127, [l0, l1, l2, l3, l4, l5], (.int (x + y) :: r), h)) (by decide +kernel) rfl rfl rfl rfl,
  fun l0 l1 l2 l3 l4 l5 x y r h => zD_op (ins := .imul) (len := 1) (c := (128, [l0, l1, l2, l3, l4, l5], (.int (x * y) :: r), h)) (by decide +kernel) rfl rfl rfl rfl,
  fun l0 l1 l2 l4 l5 x S h => zD_op (ins := .iload_n 3) (len := 1) (c := (129, [l0, l1, l2, some (.int x), l4, l5], (.int x :: S), h)) (by decide +kernel) rfl rfl rfl rfl,
  fun l0 l1 l2 l3 l4 l5 x y r h hy => zD_div (by decide +kernel) hy,
  fun l0 l1 l2 l3 l4 l5 x r h => zD_st1 (k := 5) (ins := .istore 5) (len := 2) (by decide +kernel) rfl rfl rfl (by decide +kernel) rfl rfl,
  fun l1 l2 l3 l4 l5 x S h => zD_op (ins := .aload_n 0) (len := 1) (c := (133, [some (.ref x), l1, l2, l3, l4, l5], (.ref x :: S), h)) (by decide +kernel) rfl rfl rfl rfl,
  fun l0 l1 l2 l3 l4 l5 a r h hx => zD_getf (i := 20) (ci := 9) (k := 3) (q := (714, 0)) (by decide +kernel) (by decide +kernel) hx,
  fun l0 l1 l2 l3 l4 l5 S h => zD_bip (n := 8) (by decide +kernel) (by decide +kernel),
  fun l0 l1 l3 l4 l5 x S h => zD_op (ins := .iload_n 2) (len := 1) (c := (139, [l0, l1, some (.int x), l3, l4, l5], (.int x :: S), h)) (by decide +kernel) rfl rfl rfl rfl,
  fun l0 l1 l2 l3 l4 l5 x y r h => zD_op (ins := .imul) (len := 1) (c := (140, [l0, l1, l2, l3, l4, l5], (.int (x * y) :: r), h)) (by decide +kernel) rfl rfl rfl rfl,
  fun l0 l1 l2 l3 l5 x S h => zD_op (ins := .iload 4) (len := 2) (c := (142, [l0, l1, l2, l3, some (.int x), l5], (.int x :: S), h)) (by decide +kernel) rfl rfl rfl rfl,
  fun l0 l1 l2 l3 l4 l5 x y r h => zD_op (ins := .iadd) (len := 1) (c := (143, [l0, l1, l2, l3, l4, l5], (.int (x + y) :: r), h)) (by decide +kernel) rfl rfl rfl rfl,
  fun l0 l1 l2 l3 l4 x S h => zD_op (ins := .iload 5) (len := 2) (c := (145, [l0, l1, l2, l3, l4, some (.int x)], (.int x :: S), h)) (by decide +kernel) rfl rfl rfl rfl,
  fun l0 l1 l2 l3 l4 l5 w i a r h hx => zD_iast (by decide +kernel) hx,
  fun l0 l2 l3 l4 l5 x S h => zD_op (ins := .iload_n 1) (len := 1) (c := (147, [l0, some (.int x), l2, l3, l4, l5], (.int x :: S), h)) (by decide +kernel) rfl rfl rfl rfl,
  fun l0 l1 l2 l3 l4 x S h => zD_op (ins := .iload 5) (len := 2) (c := (149, [l0, l1, l2, l3, l4, some (.int x)], (.int x :: S), h)) (by decide +kernel) rfl rfl rfl rfl,
  fun l0 l1 l2 l3 l4 l5 x y r h => zD_op (ins := .iadd) (len := 1) (c := (150, [l0, l1, l2, l3, l4, l5], (.int (x + y) :: r), h)) (by decide +kernel) rfl rfl rfl rfl,
  fun l0 l1 l2 l3 l4 l5 x r h => zD_st1 (k := 1) (ins := .istore_n 1) (len := 1) (by decide +kernel) rfl rfl rfl (by decide +kernel) rfl rfl,
  fun l0 l1 l2 l3 l5 x S h => zD_iinc (k := 4) (x := x) (c := (1 : Int32)) (n := 1) (by decide +kernel) (by decide +kernel) rfl (by decide +kernel) rfl,
  fun l0 l1 l2 l3 l4 l5 S h => zD_goto (off := (-85)) (by decide +kernel) (by decide),
  fun l0 l1 l3 l4 l5 x S h => zD_iinc (k := 2) (x := x) (c := (1 : Int32)) (n := 1) (by decide +kernel) (by decide +kernel) rfl (by decide +kernel) rfl,
  fun l0 l1 l2 l3 l4 l5 S h => zD_goto (off := (-151)) (by decide +kernel) (by decide),
  fun l0 l2 l3 l4 l5 x S h => zD_op (ins := .iload_n 1) (len := 1) (c := (164, [l0, some (.int x), l2, l3, l4, l5], (.int x :: S), h)) (by decide +kernel) rfl rfl rfl rfl,
  fun l0 l1 l2 l3 l4 l5 v h => zD_ireti (by decide +kernel) rfl⟩
set_option maxRecDepth 100000 in
theorem E_X10_learn_h9 : (∀ (l0 l1 l3 l4 l5 : Option Value) (x : Int32) (S : List Value) (h : zH), zD 83 9 [l0, l1, some (.int x), l3, l4, l5] S h = zD 83 10 [l0, l1, some (.int x), l3, l4, l5] (.int x :: S) h) :=
  fun l0 l1 l3 l4 l5 x S h => zD_op (ins := .iload_n 2) (len := 1) (c := (10, [l0, l1, some (.int x), l3, l4, l5], (.int x :: S), h)) (by decide +kernel) rfl rfl rfl rfl
set_option maxRecDepth 100000 in
theorem E_X10_learn_h23 : (∀ (l0 l1 l2 l3 l5 : Option Value) (x : Int32) (S : List Value) (h : zH), zD 83 23 [l0, l1, l2, l3, some (.int x), l5] S h = zD 83 25 [l0, l1, l2, l3, some (.int x), l5] (.int x :: S) h) :=
  fun l0 l1 l2 l3 l5 x S h => zD_op (ins := .iload 4) (len := 2) (c := (25, [l0, l1, l2, l3, some (.int x), l5], (.int x :: S), h)) (by decide +kernel) rfl rfl rfl rfl
set_option maxRecDepth 100000 in
theorem E_X10_learn_h69 : (∀ (l0 l1 l2 l3 l5 : Option Value) (x : Int32) (S : List Value) (h : zH), zD 83 69 [l0, l1, l2, l3, some (.int x), l5] S h = zD 83 71 [l0, l1, l2, l3, some (.int x), l5] (.int x :: S) h) :=
  fun l0 l1 l2 l3 l5 x S h => zD_op (ins := .iload 4) (len := 2) (c := (71, [l0, l1, l2, l3, some (.int x), l5], (.int x :: S), h)) (by decide +kernel) rfl rfl rfl rfl
set_option maxRecDepth 100000 in
theorem I_X10_learn : (∀ (a : Nat) (h : zH), zC 83 [.ref a] h = zD 83 0 [some (.ref a), none, none, none, none, none] [] h) :=
  fun a h => zC_def rfl
set_option maxRecDepth 100000 in
theorem E_X10_ask : (∀ (l0 l2 l3 : Option Value) (x : Int32) (S : List Value) (h : zH), zD 84 0 [l0, some (.int x), l2, l3] S h = zD 84 1 [l0, some (.int x), l2, l3] (.int x :: S) h) ∧
  (∀ (l0 l1 l2 l3 : Option Value) (S : List Value) (h : zH), zD 84 1 [l0, l1, l2, l3] S h = zD 84 2 [l0, l1, l2, l3] (.int (0 : Int32) :: S) h) ∧
  (∀ (l0 l1 l2 l3 : Option Value) (S : List Value) (h : zH), zD 84 2 [l0, l1, l2, l3] S h = zD 84 3 [l0, l1, l2, l3] (.int (4 : Int32) :: S) h) ∧
  (∀ (l0 l1 l2 l3 : Option Value) (p0 : Int32) (p1 : Int32) (p2 : Int32) (r : List Value) (h : zH) (hcat : zcat r ≤ 8) (hC : (zC 26 [.int p0, .int p1, .int p2] h).isSome = true), zD 84 3 [l0, l1, l2, l3] (.int p2 :: .int p1 :: .int p0 :: r) h = zD 84 6 [l0, l1, l2, l3] (zgv (zC 26 [.int p0, .int p1, .int p2] h) ++ r) (zgh h (zC 26 [.int p0, .int p1, .int p2] h))) ∧
  (∀ (l0 l1 l2 l3 : Option Value) (x : Int32) (r : List Value) (h : zH), zD 84 6 [l0, l1, l2, l3] (.int x :: r) h = if x = 0 then zD 84 37 [l0, l1, l2, l3] r h else zD 84 9 [l0, l1, l2, l3] r h) ∧
  (∀ (l0 l1 l3 : Option Value) (x : Int32) (S : List Value) (h : zH), zD 84 9 [l0, l1, some (.int x), l3] S h = zD 84 10 [l0, l1, some (.int x), l3] (.int x :: S) h) ∧
  (∀ (l0 l1 l2 l3 : Option Value) (S : List Value) (h : zH), zD 84 10 [l0, l1, l2, l3] S h = zD 84 11 [l0, l1, l2, l3] (.int (0 : Int32) :: S) h) ∧
  (∀ (l0 l1 l2 l3 : Option Value) (S : List Value) (h : zH), zD 84 11 [l0, l1, l2, l3] S h = zD 84 12 [l0, l1, l2, l3] (.int (3 : Int32) :: S) h) ∧
  (∀ (l0 l1 l2 l3 : Option Value) (p0 : Int32) (p1 : Int32) (p2 : Int32) (r : List Value) (h : zH) (hcat : zcat r ≤ 8) (hC : (zC 26 [.int p0, .int p1, .int p2] h).isSome = true), zD 84 12 [l0, l1, l2, l3] (.int p2 :: .int p1 :: .int p0 :: r) h = zD 84 15 [l0, l1, l2, l3] (zgv (zC 26 [.int p0, .int p1, .int p2] h) ++ r) (zgh h (zC 26 [.int p0, .int p1, .int p2] h))) ∧
  (∀ (l0 l1 l2 l3 : Option Value) (x : Int32) (r : List Value) (h : zH), zD 84 15 [l0, l1, l2, l3] (.int x :: r) h = if x = 0 then zD 84 37 [l0, l1, l2, l3] r h else zD 84 18 [l0, l1, l2, l3] r h) ∧
  (∀ (l0 l1 l2 : Option Value) (x : Int32) (S : List Value) (h : zH), zD 84 18 [l0, l1, l2, some (.int x)] S h = zD 84 19 [l0, l1, l2, some (.int x)] (.int x :: S) h) ∧
  (∀ (l0 l1 l2 l3 : Option Value) (S : List Value) (h : zH), zD 84 19 [l0, l1, l2, l3] S h = zD 84 20 [l0, l1, l2, l3] (.int (0 : Int32) :: S) h) ∧
  (∀ (l0 l2 l3 : Option Value) (x : Int32) (S : List Value) (h : zH), zD 84 20 [l0, some (.int x), l2, l3] S h = zD 84 21 [l0, some (.int x), l2, l3] (.int x :: S) h) ∧
  (∀ (l0 l1 l2 l3 : Option Value) (S : List Value) (h : zH), zD 84 21 [l0, l1, l2, l3] S h = zD 84 22 [l0, l1, l2, l3] (.int (3 : Int32) :: S) h) ∧
  (∀ (l0 l1 l2 l3 : Option Value) (x y : Int32) (r : List Value) (h : zH), zD 84 22 [l0, l1, l2, l3] (.int y :: .int x :: r) h = if ¬ x = y then zD 84 30 [l0, l1, l2, l3] r h else zD 84 25 [l0, l1, l2, l3] r h) ∧
  (∀ (l0 l1 l2 l3 : Option Value) (S : List Value) (h : zH), zD 84 25 [l0, l1, l2, l3] S h = zD 84 27 [l0, l1, l2, l3] (.int (9 : Int32) :: S) h) ∧
  (∀ (l0 l1 l2 l3 : Option Value) (S : List Value) (h : zH), zD 84 27 [l0, l1, l2, l3] S h = zD 84 31 [l0, l1, l2, l3] S h) ∧
  (∀ (l0 l1 l2 l3 : Option Value) (S : List Value) (h : zH), zD 84 30 [l0, l1, l2, l3] S h = zD 84 31 [l0, l1, l2, l3] (.int (3 : Int32) :: S) h) ∧
  (∀ (l0 l1 l2 l3 : Option Value) (p0 : Int32) (p1 : Int32) (p2 : Int32) (r : List Value) (h : zH) (hcat : zcat r ≤ 8) (hC : (zC 26 [.int p0, .int p1, .int p2] h).isSome = true), zD 84 31 [l0, l1, l2, l3] (.int p2 :: .int p1 :: .int p0 :: r) h = zD 84 34 [l0, l1, l2, l3] (zgv (zC 26 [.int p0, .int p1, .int p2] h) ++ r) (zgh h (zC 26 [.int p0, .int p1, .int p2] h))) ∧
  (∀ (l0 l1 l2 l3 : Option Value) (x : Int32) (r : List Value) (h : zH), zD 84 34 [l0, l1, l2, l3] (.int x :: r) h = if ¬ x = 0 then zD 84 40 [l0, l1, l2, l3] r h else zD 84 37 [l0, l1, l2, l3] r h) ∧
  (∀ (l0 l1 l2 l3 : Option Value) (S : List Value) (h : zH), zD 84 37 [l0, l1, l2, l3] S h = zD 84 39 [l0, l1, l2, l3] (.int (-102 : Int32) :: S) h) ∧
  (∀ (l0 l1 l2 l3 : Option Value) (v : Int32) (h : zH), zD 84 39 [l0, l1, l2, l3] [.int v] h = some (some (.int v), h)) ∧
  (∀ (l1 l2 l3 : Option Value) (x : Nat) (S : List Value) (h : zH), zD 84 40 [some (.ref x), l1, l2, l3] S h = zD 84 41 [some (.ref x), l1, l2, l3] (.ref x :: S) h) ∧
  (∀ (l0 l1 l2 l3 : Option Value) (a : Nat) (r : List Value) (h : zH) (hx : zfok (h.2.2 a) 9 15 = true), zD 84 41 [l0, l1, l2, l3] (.ref a :: r) h = zD 84 44 [l0, l1, l2, l3] (zfv (h.2.2 a) 15 :: r) h) ∧
  (∀ (l0 l1 l2 l3 : Option Value) (S : List Value) (h : zH), zD 84 44 [l0, l1, l2, l3] S h = zD 84 46 [l0, l1, l2, l3] (.int (6 : Int32) :: S) h) ∧
  (∀ (l0 l1 l2 l3 : Option Value) (x y : Int32) (r : List Value) (h : zH), zD 84 46 [l0, l1, l2, l3] (.int y :: .int x :: r) h = if ¬ x = y then zD 84 52 [l0, l1, l2, l3] r h else zD 84 49 [l0, l1, l2, l3] r h) ∧
  (∀ (l0 l1 l2 l3 : Option Value) (S : List Value) (h : zH), zD 84 49 [l0, l1, l2, l3] S h = zD 84 51 [l0, l1, l2, l3] (.int (-104 : Int32) :: S) h) ∧
  (∀ (l0 l1 l2 l3 : Option Value) (v : Int32) (h : zH), zD 84 51 [l0, l1, l2, l3] [.int v] h = some (some (.int v), h)) ∧
  (∀ (l1 l2 l3 : Option Value) (x : Nat) (S : List Value) (h : zH), zD 84 52 [some (.ref x), l1, l2, l3] S h = zD 84 53 [some (.ref x), l1, l2, l3] (.ref x :: S) h) ∧
  (∀ (l0 l1 l2 l3 : Option Value) (a : Nat) (r : List Value) (h : zH) (hx : zfok (h.2.2 a) 9 16 = true), zD 84 53 [l0, l1, l2, l3] (.ref a :: r) h = zD 84 56 [l0, l1, l2, l3] (zfv (h.2.2 a) 16 :: r) h) ∧
  (∀ (l1 l2 l3 : Option Value) (x : Nat) (S : List Value) (h : zH), zD 84 56 [some (.ref x), l1, l2, l3] S h = zD 84 57 [some (.ref x), l1, l2, l3] (.ref x :: S) h) ∧
  (∀ (l0 l1 l2 l3 : Option Value) (a : Nat) (r : List Value) (h : zH) (hx : zfok (h.2.2 a) 9 15 = true), zD 84 57 [l0, l1, l2, l3] (.ref a :: r) h = zD 84 60 [l0, l1, l2, l3] (zfv (h.2.2 a) 15 :: r) h) ∧
  (∀ (l0 l2 l3 : Option Value) (x : Int32) (S : List Value) (h : zH), zD 84 60 [l0, some (.int x), l2, l3] S h = zD 84 61 [l0, some (.int x), l2, l3] (.int x :: S) h) ∧
  (∀ (l0 l1 l2 l3 : Option Value) (w i : Int32) (a : Nat) (r : List Value) (h : zH) (hx : zpok (h.2.2 a) i = true), zD 84 61 [l0, l1, l2, l3] (.int w :: .int i :: .ref a :: r) h = zD 84 62 [l0, l1, l2, l3] r (zw h a (zis' (h.2.2 a) i w))) ∧
  (∀ (l1 l2 l3 : Option Value) (x : Nat) (S : List Value) (h : zH), zD 84 62 [some (.ref x), l1, l2, l3] S h = zD 84 63 [some (.ref x), l1, l2, l3] (.ref x :: S) h) ∧
  (∀ (l0 l1 l2 l3 : Option Value) (a : Nat) (r : List Value) (h : zH) (hx : zfok (h.2.2 a) 9 17 = true), zD 84 63 [l0, l1, l2, l3] (.ref a :: r) h = zD 84 66 [l0, l1, l2, l3] (zfv (h.2.2 a) 17 :: r) h) ∧
  (∀ (l1 l2 l3 : Option Value) (x : Nat) (S : List Value) (h : zH), zD 84 66 [some (.ref x), l1, l2, l3] S h = zD 84 67 [some (.ref x), l1, l2, l3] (.ref x :: S) h) ∧
  (∀ (l0 l1 l2 l3 : Option Value) (a : Nat) (r : List Value) (h : zH) (hx : zfok (h.2.2 a) 9 15 = true), zD 84 67 [l0, l1, l2, l3] (.ref a :: r) h = zD 84 70 [l0, l1, l2, l3] (zfv (h.2.2 a) 15 :: r) h) ∧
  (∀ (l0 l1 l3 : Option Value) (x : Int32) (S : List Value) (h : zH), zD 84 70 [l0, l1, some (.int x), l3] S h = zD 84 71 [l0, l1, some (.int x), l3] (.int x :: S) h) ∧
  (∀ (l0 l1 l2 l3 : Option Value) (w i : Int32) (a : Nat) (r : List Value) (h : zH) (hx : zpok (h.2.2 a) i = true), zD 84 71 [l0, l1, l2, l3] (.int w :: .int i :: .ref a :: r) h = zD 84 72 [l0, l1, l2, l3] r (zw h a (zis' (h.2.2 a) i w))) ∧
  (∀ (l1 l2 l3 : Option Value) (x : Nat) (S : List Value) (h : zH), zD 84 72 [some (.ref x), l1, l2, l3] S h = zD 84 73 [some (.ref x), l1, l2, l3] (.ref x :: S) h) ∧
  (∀ (l0 l1 l2 l3 : Option Value) (a : Nat) (r : List Value) (h : zH) (hx : zfok (h.2.2 a) 9 18 = true), zD 84 73 [l0, l1, l2, l3] (.ref a :: r) h = zD 84 76 [l0, l1, l2, l3] (zfv (h.2.2 a) 18 :: r) h) ∧
  (∀ (l1 l2 l3 : Option Value) (x : Nat) (S : List Value) (h : zH), zD 84 76 [some (.ref x), l1, l2, l3] S h = zD 84 77 [some (.ref x), l1, l2, l3] (.ref x :: S) h) ∧
  (∀ (l0 l1 l2 l3 : Option Value) (a : Nat) (r : List Value) (h : zH) (hx : zfok (h.2.2 a) 9 15 = true), zD 84 77 [l0, l1, l2, l3] (.ref a :: r) h = zD 84 80 [l0, l1, l2, l3] (zfv (h.2.2 a) 15 :: r) h) ∧
  (∀ (l0 l1 l2 : Option Value) (x : Int32) (S : List Value) (h : zH), zD 84 80 [l0, l1, l2, some (.int x)] S h = zD 84 81 [l0, l1, l2, some (.int x)] (.int x :: S) h) ∧
  (∀ (l0 l1 l2 l3 : Option Value) (w i : Int32) (a : Nat) (r : List Value) (h : zH) (hx : zpok (h.2.2 a) i = true), zD 84 81 [l0, l1, l2, l3] (.int w :: .int i :: .ref a :: r) h = zD 84 82 [l0, l1, l2, l3] r (zw h a (zis' (h.2.2 a) i w))) ∧
  (∀ (l1 l2 l3 : Option Value) (x : Nat) (S : List Value) (h : zH), zD 84 82 [some (.ref x), l1, l2, l3] S h = zD 84 83 [some (.ref x), l1, l2, l3] (.ref x :: S) h) ∧
  (∀ (l0 l1 l2 l3 : Option Value) (x : Int32) (r : List Value) (h : zH), zD 84 83 [l0, l1, l2, l3] (.int x :: r) h = zD 84 84 [l0, l1, l2, l3] (.int x :: .int x :: r) h) ∧
  (∀ (l0 l1 l2 l3 : Option Value) (x : Nat) (r : List Value) (h : zH), zD 84 83 [l0, l1, l2, l3] (.ref x :: r) h = zD 84 84 [l0, l1, l2, l3] (.ref x :: .ref x :: r) h) ∧
  (∀ (l0 l1 l2 l3 : Option Value) (a : Nat) (r : List Value) (h : zH) (hx : zfok (h.2.2 a) 9 15 = true), zD 84 84 [l0, l1, l2, l3] (.ref a :: r) h = zD 84 87 [l0, l1, l2, l3] (zfv (h.2.2 a) 15 :: r) h) ∧
  (∀ (l0 l1 l2 l3 : Option Value) (S : List Value) (h : zH), zD 84 87 [l0, l1, l2, l3] S h = zD 84 88 [l0, l1, l2, l3] (.int (1 : Int32) :: S) h) ∧
  (∀ (l0 l1 l2 l3 : Option Value) (x y : Int32) (r : List Value) (h : zH), zD 84 88 [l0, l1, l2, l3] (.int y :: .int x :: r) h = zD 84 89 [l0, l1, l2, l3] (.int (x + y) :: r) h) ∧
  (∀ (l0 l1 l2 l3 : Option Value) (v : Int32) (a : Nat) (r : List Value) (h : zH) (hx : zfok (h.2.2 a) 9 15 = true), zD 84 89 [l0, l1, l2, l3] (.int v :: .ref a :: r) h = zD 84 92 [l0, l1, l2, l3] r (zw h a (zfs' (h.2.2 a) 15 (.int v)))) ∧
  (∀ (l1 l2 l3 : Option Value) (x : Nat) (S : List Value) (h : zH), zD 84 92 [some (.ref x), l1, l2, l3] S h = zD 84 93 [some (.ref x), l1, l2, l3] (.ref x :: S) h) ∧
  (∀ (l0 l1 l2 l3 : Option Value) (a : Nat) (r : List Value) (h : zH) (hx : zfok (h.2.2 a) 9 15 = true), zD 84 93 [l0, l1, l2, l3] (.ref a :: r) h = zD 84 96 [l0, l1, l2, l3] (zfv (h.2.2 a) 15 :: r) h) ∧
  (∀ (l0 l1 l2 l3 : Option Value) (v : Int32) (h : zH), zD 84 96 [l0, l1, l2, l3] [.int v] h = some (some (.int v), h)) :=
  ⟨fun l0 l2 l3 x S h => zD_op (ins := .iload_n 1) (len := 1) (c := (1, [l0, some (.int x), l2, l3], (.int x :: S), h)) (by decide +kernel) rfl rfl rfl rfl,
  fun l0 l1 l2 l3 S h => zD_icst (n := 0) (by decide +kernel) (by decide +kernel),
  fun l0 l1 l2 l3 S h => zD_icst (n := 4) (by decide +kernel) (by decide +kernel),
  fun l0 l1 l2 l3 p0 p1 p2 r h hcat hC => zD_calls (i := 77) (y := 26) (n := 3) (as := [.int p0, .int p1, .int p2]) (by decide +kernel) (by decide +kernel) rfl (by decide +kernel) (Nat.le_of_ble_eq_true rfl) hcat hC,
  fun l0 l1 l2 l3 x r h => zD_if0 (cnd := .eq) (off := 31) (by decide +kernel) (by decide) rfl,
  fun l0 l1 l3 x S h => zD_op (ins := .iload_n 2) (len := 1) (c := (10, [l0, l1, some (.int x), l3], (.int x :: S), h)) (by decide +kernel) rfl rfl rfl rfl,
  fun l0 l1 l2 l3 S h => zD_icst (n := 0) (by decide +kernel) (by decide +kernel),
  fun l0 l1 l2 l3 S h => zD_icst (n := 3) (by decide +kernel) (by decide +kernel),
  fun l0 l1 l2 l3 p0 p1 p2 r h hcat hC => zD_calls (i := 77) (y := 26) (n := 3) (as := [.int p0, .int p1, .int p2]) (by decide +kernel) (by decide +kernel) rfl (by decide +kernel) (Nat.le_of_ble_eq_true rfl) hcat hC,
  fun l0 l1 l2 l3 x r h => zD_if0 (cnd := .eq) (off := 22) (by decide +kernel) (by decide) rfl,
  fun l0 l1 l2 x S h => zD_op (ins := .iload_n 3) (len := 1) (c := (19, [l0, l1, l2, some (.int x)], (.int x :: S), h)) (by decide +kernel) rfl rfl rfl rfl,
  fun l0 l1 l2 l3 S h => zD_icst (n := 0) (by decide +kernel) (by decide +kernel),
  fun l0 l2 l3 x S h => zD_op (ins := .iload_n 1) (len := 1) (c := (21, [l0, some (.int x), l2, l3], (.int x :: S), h)) (by decide +kernel) rfl rfl rfl rfl,
  fun l0 l1 l2 l3 S h => zD_icst (n := 3) (by decide +kernel) (by decide +kernel),
  fun l0 l1 l2 l3 x y r h => zD_if (cnd := .ne) (off := 8) (by decide +kernel) (by decide) rfl,
  fun l0 l1 l2 l3 S h => zD_bip (n := 9) (by decide +kernel) (by decide +kernel),
  fun l0 l1 l2 l3 S h => zD_goto (off := 4) (by decide +kernel) (by decide),
  fun l0 l1 l2 l3 S h => zD_icst (n := 3) (by decide +kernel) (by decide +kernel),
  fun l0 l1 l2 l3 p0 p1 p2 r h hcat hC => zD_calls (i := 77) (y := 26) (n := 3) (as := [.int p0, .int p1, .int p2]) (by decide +kernel) (by decide +kernel) rfl (by decide +kernel) (Nat.le_of_ble_eq_true rfl) hcat hC,
  fun l0 l1 l2 l3 x r h => zD_if0 (cnd := .ne) (off := 6) (by decide +kernel) (by decide) rfl,
  fun l0 l1 l2 l3 S h => zD_bip (n := (-102)) (by decide +kernel) (by decide +kernel),
  fun l0 l1 l2 l3 v h => zD_ireti (by decide +kernel) rfl,
  fun l1 l2 l3 x S h => zD_op (ins := .aload_n 0) (len := 1) (c := (41, [some (.ref x), l1, l2, l3], (.ref x :: S), h)) (by decide +kernel) rfl rfl rfl rfl,
  fun l0 l1 l2 l3 a r h hx => zD_getf (i := 136) (ci := 9) (k := 15) (q := (726, 0)) (by decide +kernel) (by decide +kernel) hx,
  fun l0 l1 l2 l3 S h => zD_bip (n := 6) (by decide +kernel) (by decide +kernel),
  fun l0 l1 l2 l3 x y r h => zD_if (cnd := .ne) (off := 6) (by decide +kernel) (by decide) rfl,
  fun l0 l1 l2 l3 S h => zD_bip (n := (-104)) (by decide +kernel) (by decide +kernel),
  fun l0 l1 l2 l3 v h => zD_ireti (by decide +kernel) rfl,
  fun l1 l2 l3 x S h => zD_op (ins := .aload_n 0) (len := 1) (c := (53, [some (.ref x), l1, l2, l3], (.ref x :: S), h)) (by decide +kernel) rfl rfl rfl rfl,
  fun l0 l1 l2 l3 a r h hx => zD_getf (i := 52) (ci := 9) (k := 16) (q := (727, 0)) (by decide +kernel) (by decide +kernel) hx,
  fun l1 l2 l3 x S h => zD_op (ins := .aload_n 0) (len := 1) (c := (57, [some (.ref x), l1, l2, l3], (.ref x :: S), h)) (by decide +kernel) rfl rfl rfl rfl,
  fun l0 l1 l2 l3 a r h hx => zD_getf (i := 136) (ci := 9) (k := 15) (q := (726, 0)) (by decide +kernel) (by decide +kernel) hx,
  fun l0 l2 l3 x S h => zD_op (ins := .iload_n 1) (len := 1) (c := (61, [l0, some (.int x), l2, l3], (.int x :: S), h)) (by decide +kernel) rfl rfl rfl rfl,
  fun l0 l1 l2 l3 w i a r h hx => zD_iast (by decide +kernel) hx,
  fun l1 l2 l3 x S h => zD_op (ins := .aload_n 0) (len := 1) (c := (63, [some (.ref x), l1, l2, l3], (.ref x :: S), h)) (by decide +kernel) rfl rfl rfl rfl,
  fun l0 l1 l2 l3 a r h hx => zD_getf (i := 55) (ci := 9) (k := 17) (q := (728, 0)) (by decide +kernel) (by decide +kernel) hx,
  fun l1 l2 l3 x S h => zD_op (ins := .aload_n 0) (len := 1) (c := (67, [some (.ref x), l1, l2, l3], (.ref x :: S), h)) (by decide +kernel) rfl rfl rfl rfl,
  fun l0 l1 l2 l3 a r h hx => zD_getf (i := 136) (ci := 9) (k := 15) (q := (726, 0)) (by decide +kernel) (by decide +kernel) hx,
  fun l0 l1 l3 x S h => zD_op (ins := .iload_n 2) (len := 1) (c := (71, [l0, l1, some (.int x), l3], (.int x :: S), h)) (by decide +kernel) rfl rfl rfl rfl,
  fun l0 l1 l2 l3 w i a r h hx => zD_iast (by decide +kernel) hx,
  fun l1 l2 l3 x S h => zD_op (ins := .aload_n 0) (len := 1) (c := (73, [some (.ref x), l1, l2, l3], (.ref x :: S), h)) (by decide +kernel) rfl rfl rfl rfl,
  fun l0 l1 l2 l3 a r h hx => zD_getf (i := 58) (ci := 9) (k := 18) (q := (729, 0)) (by decide +kernel) (by decide +kernel) hx,
  fun l1 l2 l3 x S h => zD_op (ins := .aload_n 0) (len := 1) (c := (77, [some (.ref x), l1, l2, l3], (.ref x :: S), h)) (by decide +kernel) rfl rfl rfl rfl,
  fun l0 l1 l2 l3 a r h hx => zD_getf (i := 136) (ci := 9) (k := 15) (q := (726, 0)) (by decide +kernel) (by decide +kernel) hx,
  fun l0 l1 l2 x S h => zD_op (ins := .iload_n 3) (len := 1) (c := (81, [l0, l1, l2, some (.int x)], (.int x :: S), h)) (by decide +kernel) rfl rfl rfl rfl,
  fun l0 l1 l2 l3 w i a r h hx => zD_iast (by decide +kernel) hx,
  fun l1 l2 l3 x S h => zD_op (ins := .aload_n 0) (len := 1) (c := (83, [some (.ref x), l1, l2, l3], (.ref x :: S), h)) (by decide +kernel) rfl rfl rfl rfl,
  fun l0 l1 l2 l3 x r h => zD_op (ins := .dup) (len := 1) (c := (84, [l0, l1, l2, l3], (.int x :: .int x :: r), h)) (by decide +kernel) rfl rfl rfl rfl,
  fun l0 l1 l2 l3 x r h => zD_op (ins := .dup) (len := 1) (c := (84, [l0, l1, l2, l3], (.ref x :: .ref x :: r), h)) (by decide +kernel) rfl rfl rfl rfl,
  fun l0 l1 l2 l3 a r h hx => zD_getf (i := 136) (ci := 9) (k := 15) (q := (726, 0)) (by decide +kernel) (by decide +kernel) hx,
  fun l0 l1 l2 l3 S h => zD_icst (n := 1) (by decide +kernel) (by decide +kernel),
  fun l0 l1 l2 l3 x y r h => zD_op (ins := .iadd) (len := 1) (c := (89, [l0, l1, l2, l3], (.int (x + y) :: r), h)) (by decide +kernel) rfl rfl rfl rfl,
  fun l0 l1 l2 l3 v a r h hx => zD_putf (i := 136) (ci := 9) (k := 15) (q := (726, 0)) (by decide +kernel) (by decide +kernel) (by decide +kernel) hx rfl rfl,
  fun l1 l2 l3 x S h => zD_op (ins := .aload_n 0) (len := 1) (c := (93, [some (.ref x), l1, l2, l3], (.ref x :: S), h)) (by decide +kernel) rfl rfl rfl rfl,
  fun l0 l1 l2 l3 a r h hx => zD_getf (i := 136) (ci := 9) (k := 15) (q := (726, 0)) (by decide +kernel) (by decide +kernel) hx,
  fun l0 l1 l2 l3 v h => zD_ireti (by decide +kernel) rfl⟩
set_option maxRecDepth 100000 in
theorem I_X10_ask : (∀ (a : Nat) (p0 : Int32) (p1 : Int32) (p2 : Int32) (h : zH), zC 84 [.ref a, .int p0, .int p1, .int p2] h = zD 84 0 [some (.ref a), some (.int p0), some (.int p1), some (.int p2)] [] h) :=
  fun a p0 p1 p2 h => zC_def rfl
set_option maxRecDepth 100000 in
theorem E_X10_holds : (∀ (l0 l1 l2 l3 l4 l5 : Option Value) (S : List Value) (h : zH), zD 85 0 [l0, l1, l2, l3, l4, l5] S h = zD 85 1 [l0, l1, l2, l3, l4, l5] (.int (1 : Int32) :: S) h) ∧
  (∀ (l0 l1 l2 l3 l4 l5 : Option Value) (x : Int32) (r : List Value) (h : zH), zD 85 1 [l0, l1, l2, l3, l4, l5] (.int x :: r) h = zD 85 2 [l0, zclr l1, some (.int x), l3, l4, l5] r h) ∧
  (∀ (l0 l1 l2 l3 l4 l5 : Option Value) (S : List Value) (h : zH), zD 85 2 [l0, l1, l2, l3, l4, l5] S h = zD 85 3 [l0, l1, l2, l3, l4, l5] (.int (0 : Int32) :: S) h) ∧
  (∀ (l0 l1 l2 l3 l4 l5 : Option Value) (x : Int32) (r : List Value) (h : zH), zD 85 3 [l0, l1, l2, l3, l4, l5] (.int x :: r) h = zD 85 4 [l0, l1, zclr l2, some (.int x), l4, l5] r h) ∧
  (∀ (l1 l2 l3 l4 l5 : Option Value) (x : Nat) (S : List Value) (h : zH), zD 85 5 [some (.ref x), l1, l2, l3, l4, l5] S h = zD 85 6 [some (.ref x), l1, l2, l3, l4, l5] (.ref x :: S) h) ∧
  (∀ (l0 l1 l2 l3 l4 l5 : Option Value) (a : Nat) (r : List Value) (h : zH) (hx : zfok (h.2.2 a) 9 15 = true), zD 85 6 [l0, l1, l2, l3, l4, l5] (.ref a :: r) h = zD 85 9 [l0, l1, l2, l3, l4, l5] (zfv (h.2.2 a) 15 :: r) h) ∧
  (∀ (l0 l1 l2 l3 l4 l5 : Option Value) (x y : Int32) (r : List Value) (h : zH), zD 85 9 [l0, l1, l2, l3, l4, l5] (.int y :: .int x :: r) h = if y ≤ x then zD 85 205 [l0, l1, l2, l3, l4, l5] r h else zD 85 12 [l0, l1, l2, l3, l4, l5] r h) ∧
  (∀ (l0 l1 l3 l4 l5 : Option Value) (x : Int32) (S : List Value) (h : zH), zD 85 12 [l0, l1, some (.int x), l3, l4, l5] S h = zD 85 13 [l0, l1, some (.int x), l3, l4, l5] (.int x :: S) h) ∧
  (∀ (l0 l1 l2 l3 l4 l5 : Option Value) (x : Int32) (r : List Value) (h : zH), zD 85 13 [l0, l1, l2, l3, l4, l5] (.int x :: r) h = if x = 0 then zD 85 205 [l0, l1, l2, l3, l4, l5] r h else zD 85 16 [l0, l1, l2, l3, l4, l5] r h) ∧
  (∀ (l1 l2 l3 l4 l5 : Option Value) (x : Nat) (S : List Value) (h : zH), zD 85 16 [some (.ref x), l1, l2, l3, l4, l5] S h = zD 85 17 [some (.ref x), l1, l2, l3, l4, l5] (.ref x :: S) h) ∧
  (∀ (l0 l1 l2 l3 l4 l5 : Option Value) (a : Nat) (r : List Value) (h : zH) (hx : zfok (h.2.2 a) 9 20 = true), zD 85 17 [l0, l1, l2, l3, l4, l5] (.ref a :: r) h = zD 85 20 [l0, l1, l2, l3, l4, l5] (zfv (h.2.2 a) 20 :: r) h) ∧
  (∀ (l1 l2 l3 l4 l5 : Option Value) (x : Nat) (S : List Value) (h : zH), zD 85 20 [some (.ref x), l1, l2, l3, l4, l5] S h = zD 85 21 [some (.ref x), l1, l2, l3, l4, l5] (.ref x :: S) h) ∧
  (∀ (l0 l1 l2 l3 l4 l5 : Option Value) (a : Nat) (r : List Value) (h : zH) (hx : zfok (h.2.2 a) 9 17 = true), zD 85 21 [l0, l1, l2, l3, l4, l5] (.ref a :: r) h = zD 85 24 [l0, l1, l2, l3, l4, l5] (zfv (h.2.2 a) 17 :: r) h) ∧
  (∀ (l0 l1 l2 l4 l5 : Option Value) (x : Int32) (S : List Value) (h : zH), zD 85 24 [l0, l1, l2, some (.int x), l4, l5] S h = zD 85 25 [l0, l1, l2, some (.int x), l4, l5] (.int x :: S) h) ∧
  (∀ (l0 l1 l2 l3 l4 l5 : Option Value) (i : Int32) (a : Nat) (r : List Value) (h : zH) (hx : ziok a (h.2.2 a) i = true), zD 85 25 [l0, l1, l2, l3, l4, l5] (.int i :: .ref a :: r) h = zD 85 26 [l0, l1, l2, l3, l4, l5] (.int (ziv (h.2.2 a) i) :: r) h) ∧
  (∀ (l0 l1 l2 l3 l4 l5 : Option Value) (i : Int32) (a : Nat) (r : List Value) (h : zH) (hx : ziok a (h.2.2 a) i = true), zD 85 26 [l0, l1, l2, l3, l4, l5] (.int i :: .ref a :: r) h = zD 85 27 [l0, l1, l2, l3, l4, l5] (.int (ziv (h.2.2 a) i) :: r) h) ∧
  (∀ (l0 l1 l2 l3 l4 l5 : Option Value) (x : Int32) (r : List Value) (h : zH), zD 85 27 [l0, l1, l2, l3, l4, l5] (.int x :: r) h = zD 85 29 [l0, l1, l2, zclr l3, some (.int x), l5] r h) ∧
  (∀ (l1 l2 l3 l4 l5 : Option Value) (x : Nat) (S : List Value) (h : zH), zD 85 29 [some (.ref x), l1, l2, l3, l4, l5] S h = zD 85 30 [some (.ref x), l1, l2, l3, l4, l5] (.ref x :: S) h) ∧
  (∀ (l0 l1 l2 l3 l4 l5 : Option Value) (a : Nat) (r : List Value) (h : zH) (hx : zfok (h.2.2 a) 9 16 = true), zD 85 30 [l0, l1, l2, l3, l4, l5] (.ref a :: r) h = zD 85 33 [l0, l1, l2, l3, l4, l5] (zfv (h.2.2 a) 16 :: r) h) ∧
  (∀ (l0 l1 l2 l4 l5 : Option Value) (x : Int32) (S : List Value) (h : zH), zD 85 33 [l0, l1, l2, some (.int x), l4, l5] S h = zD 85 34 [l0, l1, l2, some (.int x), l4, l5] (.int x :: S) h) ∧
  (∀ (l0 l1 l2 l3 l4 l5 : Option Value) (i : Int32) (a : Nat) (r : List Value) (h : zH) (hx : ziok a (h.2.2 a) i = true), zD 85 34 [l0, l1, l2, l3, l4, l5] (.int i :: .ref a :: r) h = zD 85 35 [l0, l1, l2, l3, l4, l5] (.int (ziv (h.2.2 a) i) :: r) h) ∧
  (∀ (l0 l1 l2 l3 l4 l5 : Option Value) (S : List Value) (h : zH), zD 85 35 [l0, l1, l2, l3, l4, l5] S h = zD 85 36 [l0, l1, l2, l3, l4, l5] (.int (3 : Int32) :: S) h) ∧
  (∀ (l0 l1 l2 l3 l4 l5 : Option Value) (x y : Int32) (r : List Value) (h : zH), zD 85 36 [l0, l1, l2, l3, l4, l5] (.int y :: .int x :: r) h = if ¬ x = y then zD 85 48 [l0, l1, l2, l3, l4, l5] r h else zD 85 39 [l0, l1, l2, l3, l4, l5] r h) ∧
  (∀ (l1 l2 l3 l4 l5 : Option Value) (x : Nat) (S : List Value) (h : zH), zD 85 39 [some (.ref x), l1, l2, l3, l4, l5] S h = zD 85 40 [some (.ref x), l1, l2, l3, l4, l5] (.ref x :: S) h) ∧
  (∀ (l0 l1 l2 l3 l4 l5 : Option Value) (a : Nat) (r : List Value) (h : zH) (hx : zfok (h.2.2 a) 9 18 = true), zD 85 40 [l0, l1, l2, l3, l4, l5] (.ref a :: r) h = zD 85 43 [l0, l1, l2, l3, l4, l5] (zfv (h.2.2 a) 18 :: r) h) ∧
  (∀ (l0 l1 l2 l4 l5 : Option Value) (x : Int32) (S : List Value) (h : zH), zD 85 43 [l0, l1, l2, some (.int x), l4, l5] S h = zD 85 44 [l0, l1, l2, some (.int x), l4, l5] (.int x :: S) h) ∧
  (∀ (l0 l1 l2 l3 l4 l5 : Option Value) (i : Int32) (a : Nat) (r : List Value) (h : zH) (hx : ziok a (h.2.2 a) i = true), zD 85 44 [l0, l1, l2, l3, l4, l5] (.int i :: .ref a :: r) h = zD 85 45 [l0, l1, l2, l3, l4, l5] (.int (ziv (h.2.2 a) i) :: r) h) ∧
  (∀ (l0 l1 l2 l3 l4 l5 : Option Value) (S : List Value) (h : zH), zD 85 45 [l0, l1, l2, l3, l4, l5] S h = zD 85 59 [l0, l1, l2, l3, l4, l5] S h) ∧
  (∀ (l1 l2 l3 l4 l5 : Option Value) (x : Nat) (S : List Value) (h : zH), zD 85 48 [some (.ref x), l1, l2, l3, l4, l5] S h = zD 85 49 [some (.ref x), l1, l2, l3, l4, l5] (.ref x :: S) h) ∧
  (∀ (l0 l1 l2 l3 l4 l5 : Option Value) (a : Nat) (r : List Value) (h : zH) (hx : zfok (h.2.2 a) 9 20 = true), zD 85 49 [l0, l1, l2, l3, l4, l5] (.ref a :: r) h = zD 85 52 [l0, l1, l2, l3, l4, l5] (zfv (h.2.2 a) 20 :: r) h) ∧
  (∀ (l1 l2 l3 l4 l5 : Option Value) (x : Nat) (S : List Value) (h : zH), zD 85 52 [some (.ref x), l1, l2, l3, l4, l5] S h = zD 85 53 [some (.ref x), l1, l2, l3, l4, l5] (.ref x :: S) h) ∧
  (∀ (l0 l1 l2 l3 l4 l5 : Option Value) (a : Nat) (r : List Value) (h : zH) (hx : zfok (h.2.2 a) 9 18 = true), zD 85 53 [l0, l1, l2, l3, l4, l5] (.ref a :: r) h = zD 85 56 [l0, l1, l2, l3, l4, l5] (zfv (h.2.2 a) 18 :: r) h) ∧
  (∀ (l0 l1 l2 l4 l5 : Option Value) (x : Int32) (S : List Value) (h : zH), zD 85 56 [l0, l1, l2, some (.int x), l4, l5] S h = zD 85 57 [l0, l1, l2, some (.int x), l4, l5] (.int x :: S) h) ∧
  (∀ (l0 l1 l2 l3 l4 l5 : Option Value) (i : Int32) (a : Nat) (r : List Value) (h : zH) (hx : ziok a (h.2.2 a) i = true), zD 85 57 [l0, l1, l2, l3, l4, l5] (.int i :: .ref a :: r) h = zD 85 58 [l0, l1, l2, l3, l4, l5] (.int (ziv (h.2.2 a) i) :: r) h) ∧
  (∀ (l0 l1 l2 l3 l4 l5 : Option Value) (i : Int32) (a : Nat) (r : List Value) (h : zH) (hx : ziok a (h.2.2 a) i = true), zD 85 58 [l0, l1, l2, l3, l4, l5] (.int i :: .ref a :: r) h = zD 85 59 [l0, l1, l2, l3, l4, l5] (.int (ziv (h.2.2 a) i) :: r) h) ∧
  (∀ (l0 l1 l2 l3 l4 l5 : Option Value) (x : Int32) (r : List Value) (h : zH), zD 85 59 [l0, l1, l2, l3, l4, l5] (.int x :: r) h = zD 85 61 [l0, l1, l2, l3, zclr l4, some (.int x)] r h) ∧
  (∀ (l1 l2 l3 l4 l5 : Option Value) (x : Nat) (S : List Value) (h : zH), zD 85 61 [some (.ref x), l1, l2, l3, l4, l5] S h = zD 85 62 [some (.ref x), l1, l2, l3, l4, l5] (.ref x :: S) h) ∧
  (∀ (l0 l1 l2 l3 l4 l5 : Option Value) (a : Nat) (r : List Value) (h : zH) (hx : zfok (h.2.2 a) 9 16 = true), zD 85 62 [l0, l1, l2, l3, l4, l5] (.ref a :: r) h = zD 85 65 [l0, l1, l2, l3, l4, l5] (zfv (h.2.2 a) 16 :: r) h) ∧
  (∀ (l0 l1 l2 l4 l5 : Option Value) (x : Int32) (S : List Value) (h : zH), zD 85 65 [l0, l1, l2, some (.int x), l4, l5] S h = zD 85 66 [l0, l1, l2, some (.int x), l4, l5] (.int x :: S) h) ∧
  (∀ (l0 l1 l2 l3 l4 l5 : Option Value) (i : Int32) (a : Nat) (r : List Value) (h : zH) (hx : ziok a (h.2.2 a) i = true), zD 85 66 [l0, l1, l2, l3, l4, l5] (.int i :: .ref a :: r) h = zD 85 67 [l0, l1, l2, l3, l4, l5] (.int (ziv (h.2.2 a) i) :: r) h) ∧
  (∀ (l0 l1 l2 l3 l4 l5 : Option Value) (x : Int32) (t : Nat) (r : List Value) (h : zH) (hx : ztab 67 119 0 3 #[29, 41, 62, 78] x [l0, l1, l2, l3, l4, l5] r h = some (t, [l0, l1, l2, l3, l4, l5], r, h)), zD 85 67 [l0, l1, l2, l3, l4, l5] (.int x :: r) h = zD 85 t [l0, l1, l2, l3, l4, l5] r h) ∧
  (∀ (l1 l2 l3 l4 l5 : Option Value) (x : Nat) (S : List Value) (h : zH), zD 85 96 [some (.ref x), l1, l2, l3, l4, l5] S h = zD 85 97 [some (.ref x), l1, l2, l3, l4, l5] (.ref x :: S) h) ∧
  (∀ (l0 l1 l2 l3 l5 : Option Value) (x : Int32) (S : List Value) (h : zH), zD 85 97 [l0, l1, l2, l3, some (.int x), l5] S h = zD 85 99 [l0, l1, l2, l3, some (.int x), l5] (.int x :: S) h) ∧
  (∀ (l0 l1 l2 l3 l4 : Option Value) (x : Int32) (S : List Value) (h : zH), zD 85 99 [l0, l1, l2, l3, l4, some (.int x)] S h = zD 85 101 [l0, l1, l2, l3, l4, some (.int x)] (.int x :: S) h) ∧
  (∀ (l0 l1 l2 l3 l4 l5 : Option Value) (p0 : Int32) (p1 : Int32) (a : Nat) (r : List Value) (h : zH) (hcat : zcat r ≤ 8) (hr : zis (h.2.2 a) 9 = true) (hC : (zC 30 (.ref a :: [.int p0, .int p1]) h).isSome = true), zD 85 101 [l0, l1, l2, l3, l4, l5] (.int p1 :: .int p0 :: .ref a :: r) h = zD 85 104 [l0, l1, l2, l3, l4, l5] (zgv (zC 30 (.ref a :: [.int p0, .int p1]) h) ++ r) (zgh h (zC 30 (.ref a :: [.int p0, .int p1]) h))) ∧
  (∀ (l0 l1 l2 l3 l4 l5 : Option Value) (x : Int32) (r : List Value) (h : zH), zD 85 104 [l0, l1, l2, l3, l4, l5] (.int x :: r) h = zD 85 105 [l0, zclr l1, some (.int x), l3, l4, l5] r h) ∧
  (∀ (l0 l1 l2 l3 l4 l5 : Option Value) (S : List Value) (h : zH), zD 85 105 [l0, l1, l2, l3, l4, l5] S h = zD 85 199 [l0, l1, l2, l3, l4, l5] S h) ∧
  (∀ (l1 l2 l3 l4 l5 : Option Value) (x : Nat) (S : List Value) (h : zH), zD 85 108 [some (.ref x), l1, l2, l3, l4, l5] S h = zD 85 109 [some (.ref x), l1, l2, l3, l4, l5] (.ref x :: S) h) ∧
  (∀ (l0 l1 l2 l3 l4 l5 : Option Value) (a : Nat) (r : List Value) (h : zH) (hx : zfok (h.2.2 a) 9 19 = true), zD 85 109 [l0, l1, l2, l3, l4, l5] (.ref a :: r) h = zD 85 112 [l0, l1, l2, l3, l4, l5] (zfv (h.2.2 a) 19 :: r) h) ∧
  (∀ (l0 l1 l2 l3 l4 : Option Value) (x : Int32) (S : List Value) (h : zH), zD 85 112 [l0, l1, l2, l3, l4, some (.int x)] S h = zD 85 114 [l0, l1, l2, l3, l4, some (.int x)] (.int x :: S) h) ∧
  (∀ (l0 l1 l2 l3 l4 l5 : Option Value) (i : Int32) (a : Nat) (r : List Value) (h : zH) (hx : ziok a (h.2.2 a) i = true), zD 85 114 [l0, l1, l2, l3, l4, l5] (.int i :: .ref a :: r) h = zD 85 115 [l0, l1, l2, l3, l4, l5] (.int (ziv (h.2.2 a) i) :: r) h) ∧
  (∀ (l0 l1 l2 l3 l5 : Option Value) (x : Int32) (S : List Value) (h : zH), zD 85 115 [l0, l1, l2, l3, some (.int x), l5] S h = zD 85 117 [l0, l1, l2, l3, some (.int x), l5] (.int x :: S) h) ∧
  (∀ (l0 l1 l2 l3 l4 l5 : Option Value) (x y : Int32) (r : List Value) (h : zH), zD 85 117 [l0, l1, l2, l3, l4, l5] (.int y :: .int x :: r) h = if ¬ x = y then zD 85 124 [l0, l1, l2, l3, l4, l5] r h else zD 85 120 [l0, l1, l2, l3, l4, l5] r h) ∧
  (∀ (l0 l1 l2 l3 l4 l5 : Option Value) (S : List Value) (h : zH), zD 85 120 [l0, l1, l2, l3, l4, l5] S h = zD 85 121 [l0, l1, l2, l3, l4, l5] (.int (1 : Int32) :: S) h) ∧
  (∀ (l0 l1 l2 l3 l4 l5 : Option Value) (S : List Value) (h : zH), zD 85 121 [l0, l1, l2, l3, l4, l5] S h = zD 85 125 [l0, l1, l2, l3, l4, l5] S h) ∧
  (∀ (l0 l1 l2 l3 l4 l5 : Option Value) (S : List Value) (h : zH), zD 85 124 [l0, l1, l2, l3, l4, l5] S h = zD 85 125 [l0, l1, l2, l3, l4, l5] (.int (0 : Int32) :: S) h) ∧
  (∀ (l0 l1 l2 l3 l4 l5 : Option Value) (x : Int32) (r : List Value) (h : zH), zD 85 125 [l0, l1, l2, l3, l4, l5] (.int x :: r) h = zD 85 126 [l0, zclr l1, some (.int x), l3, l4, l5] r h) ∧
  (∀ (l0 l1 l2 l3 l4 l5 : Option Value) (S : List Value) (h : zH), zD 85 126 [l0, l1, l2, l3, l4, l5] S h = zD 85 199 [l0, l1, l2, l3, l4, l5] S h) ∧
  (∀ (l0 l1 l2 l3 l5 : Option Value) (x : Int32) (S : List Value) (h : zH), zD 85 129 [l0, l1, l2, l3, some (.int x), l5] S h = zD 85 131 [l0, l1, l2, l3, some (.int x), l5] (.int x :: S) h) ∧
  (∀ (l0 l1 l2 l3 l4 : Option Value) (x : Int32) (S : List Value) (h : zH), zD 85 131 [l0, l1, l2, l3, l4, some (.int x)] S h = zD 85 133 [l0, l1, l2, l3, l4, some (.int x)] (.int x :: S) h) ∧
  (∀ (l0 l1 l2 l3 l4 l5 : Option Value) (x y : Int32) (r : List Value) (h : zH), zD 85 133 [l0, l1, l2, l3, l4, l5] (.int y :: .int x :: r) h = if y ≤ x then zD 85 140 [l0, l1, l2, l3, l4, l5] r h else zD 85 136 [l0, l1, l2, l3, l4, l5] r h) ∧
  (∀ (l0 l1 l2 l3 l4 l5 : Option Value) (S : List Value) (h : zH), zD 85 136 [l0, l1, l2, l3, l4, l5] S h = zD 85 137 [l0, l1, l2, l3, l4, l5] (.int (1 : Int32) :: S) h) ∧
  (∀ (l0 l1 l2 l3 l4 l5 : Option Value) (S : List Value) (h : zH), zD 85 137 [l0, l1, l2, l3, l4, l5] S h = zD 85 141 [l0, l1, l2, l3, l4, l5] S h) ∧
  (∀ (l0 l1 l2 l3 l4 l5 : Option Value) (S : List Value) (h : zH), zD 85 140 [l0, l1, l2, l3, l4, l5] S h = zD 85 141 [l0, l1, l2, l3, l4, l5] (.int (0 : Int32) :: S) h) ∧
  (∀ (l0 l1 l2 l3 l4 l5 : Option Value) (x : Int32) (r : List Value) (h : zH), zD 85 141 [l0, l1, l2, l3, l4, l5] (.int x :: r) h = zD 85 142 [l0, zclr l1, some (.int x), l3, l4, l5] r h) ∧
  (∀ (l0 l1 l2 l3 l4 l5 : Option Value) (S : List Value) (h : zH), zD 85 142 [l0, l1, l2, l3, l4, l5] S h = zD 85 199 [l0, l1, l2, l3, l4, l5] S h) ∧
  (∀ (l0 l2 l3 l4 l5 : Option Value) (x : Int32) (S : List Value) (h : zH), zD 85 145 [l0, some (.int x), l2, l3, l4, l5] S h = zD 85 146 [l0, some (.int x), l2, l3, l4, l5] (.int x :: S) h) ∧
  (∀ (l0 l1 l2 l3 l4 l5 : Option Value) (S : List Value) (h : zH), zD 85 146 [l0, l1, l2, l3, l4, l5] S h = zD 85 147 [l0, l1, l2, l3, l4, l5] (.int (-1 : Int32) :: S) h) ∧
  (∀ (l0 l1 l2 l3 l4 l5 : Option Value) (x y : Int32) (r : List Value) (h : zH), zD 85 147 [l0, l1, l2, l3, l4, l5] (.int y :: .int x :: r) h = if ¬ x = y then zD 85 160 [l0, l1, l2, l3, l4, l5] r h else zD 85 150 [l0, l1, l2, l3, l4, l5] r h) ∧
  (∀ (l1 l2 l3 l4 l5 : Option Value) (x : Nat) (S : List Value) (h : zH), zD 85 150 [some (.ref x), l1, l2, l3, l4, l5] S h = zD 85 151 [some (.ref x), l1, l2, l3, l4, l5] (.ref x :: S) h) ∧
  (∀ (l0 l1 l2 l3 l4 l5 : Option Value) (a : Nat) (r : List Value) (h : zH) (hx : zfok (h.2.2 a) 9 1 = true), zD 85 151 [l0, l1, l2, l3, l4, l5] (.ref a :: r) h = zD 85 154 [l0, l1, l2, l3, l4, l5] (zfv (h.2.2 a) 1 :: r) h) ∧
  (∀ (l0 l1 l2 l3 l5 : Option Value) (x : Int32) (S : List Value) (h : zH), zD 85 154 [l0, l1, l2, l3, some (.int x), l5] S h = zD 85 156 [l0, l1, l2, l3, some (.int x), l5] (.int x :: S) h) ∧
  (∀ (l0 l1 l2 l3 l4 l5 : Option Value) (i : Int32) (a : Nat) (r : List Value) (h : zH) (hx : ziok a (h.2.2 a) i = true), zD 85 156 [l0, l1, l2, l3, l4, l5] (.int i :: .ref a :: r) h = zD 85 157 [l0, l1, l2, l3, l4, l5] (.int (ziv (h.2.2 a) i) :: r) h) ∧
  (∀ (l0 l1 l2 l3 l4 l5 : Option Value) (S : List Value) (h : zH), zD 85 157 [l0, l1, l2, l3, l4, l5] S h = zD 85 172 [l0, l1, l2, l3, l4, l5] S h) ∧
  (∀ (l1 l2 l3 l4 l5 : Option Value) (x : Nat) (S : List Value) (h : zH), zD 85 160 [some (.ref x), l1, l2, l3, l4, l5] S h = zD 85 161 [some (.ref x), l1, l2, l3, l4, l5] (.ref x :: S) h) ∧
  (∀ (l0 l1 l2 l3 l4 l5 : Option Value) (a : Nat) (r : List Value) (h : zH) (hx : zfok (h.2.2 a) 9 13 = true), zD 85 161 [l0, l1, l2, l3, l4, l5] (.ref a :: r) h = zD 85 164 [l0, l1, l2, l3, l4, l5] (zfv (h.2.2 a) 13 :: r) h) ∧
  (∀ (l0 l1 l2 l3 l4 l5 : Option Value) (S : List Value) (h : zH), zD 85 164 [l0, l1, l2, l3, l4, l5] S h = zD 85 166 [l0, l1, l2, l3, l4, l5] (.int (8 : Int32) :: S) h) ∧
  (∀ (l0 l2 l3 l4 l5 : Option Value) (x : Int32) (S : List Value) (h : zH), zD 85 166 [l0, some (.int x), l2, l3, l4, l5] S h = zD 85 167 [l0, some (.int x), l2, l3, l4, l5] (.int x :: S) h) ∧
  (∀ (l0 l1 l2 l3 l4 l5 : Option Value) (x y : Int32) (r : List Value) (h : zH), zD 85 167 [l0, l1, l2, l3, l4, l5] (.int y :: .int x :: r) h = zD 85 168 [l0, l1, l2, l3, l4, l5] (.int (x * y) :: r) h) ∧
  (∀ (l0 l1 l2 l3 l5 : Option Value) (x : Int32) (S : List Value) (h : zH), zD 85 168 [l0, l1, l2, l3, some (.int x), l5] S h = zD 85 170 [l0, l1, l2, l3, some (.int x), l5] (.int x :: S) h) ∧
  (∀ (l0 l1 l2 l3 l4 l5 : Option Value) (x y : Int32) (r : List Value) (h : zH), zD 85 170 [l0, l1, l2, l3, l4, l5] (.int y :: .int x :: r) h = zD 85 171 [l0, l1, l2, l3, l4, l5] (.int (x + y) :: r) h) ∧
  (∀ (l0 l1 l2 l3 l4 l5 : Option Value) (i : Int32) (a : Nat) (r : List Value) (h : zH) (hx : ziok a (h.2.2 a) i = true), zD 85 171 [l0, l1, l2, l3, l4, l5] (.int i :: .ref a :: r) h = zD 85 172 [l0, l1, l2, l3, l4, l5] (.int (ziv (h.2.2 a) i) :: r) h) ∧
  (∀ (l0 l1 l2 l3 l4 : Option Value) (x : Int32) (S : List Value) (h : zH), zD 85 172 [l0, l1, l2, l3, l4, some (.int x)] S h = zD 85 174 [l0, l1, l2, l3, l4, some (.int x)] (.int x :: S) h) ∧
  (∀ (l0 l1 l2 l3 l4 l5 : Option Value) (x y : Int32) (r : List Value) (h : zH), zD 85 174 [l0, l1, l2, l3, l4, l5] (.int y :: .int x :: r) h = if ¬ x = y then zD 85 181 [l0, l1, l2, l3, l4, l5] r h else zD 85 177 [l0, l1, l2, l3, l4, l5] r h) ∧
  (∀ (l0 l1 l2 l3 l4 l5 : Option Value) (S : List Value) (h : zH), zD 85 177 [l0, l1, l2, l3, l4, l5] S h = zD 85 178 [l0, l1, l2, l3, l4, l5] (.int (1 : Int32) :: S) h) ∧
  (∀ (l0 l1 l2 l3 l4 l5 : Option Value) (S : List Value) (h : zH), zD 85 178 [l0, l1, l2, l3, l4, l5] S h = zD 85 182 [l0, l1, l2, l3, l4, l5] S h) ∧
  (∀ (l0 l1 l2 l3 l4 l5 : Option Value) (S : List Value) (h : zH), zD 85 181 [l0, l1, l2, l3, l4, l5] S h = zD 85 182 [l0, l1, l2, l3, l4, l5] (.int (0 : Int32) :: S) h) ∧
  (∀ (l0 l1 l2 l3 l4 l5 : Option Value) (x : Int32) (r : List Value) (h : zH), zD 85 182 [l0, l1, l2, l3, l4, l5] (.int x :: r) h = zD 85 183 [l0, zclr l1, some (.int x), l3, l4, l5] r h) ∧
  (∀ (l0 l1 l2 l3 l4 l5 : Option Value) (S : List Value) (h : zH), zD 85 183 [l0, l1, l2, l3, l4, l5] S h = zD 85 199 [l0, l1, l2, l3, l4, l5] S h) ∧
  (∀ (l0 l1 l2 l3 l5 : Option Value) (x : Int32) (S : List Value) (h : zH), zD 85 186 [l0, l1, l2, l3, some (.int x), l5] S h = zD 85 188 [l0, l1, l2, l3, some (.int x), l5] (.int x :: S) h) ∧
  (∀ (l0 l1 l2 l3 l4 : Option Value) (x : Int32) (S : List Value) (h : zH), zD 85 188 [l0, l1, l2, l3, l4, some (.int x)] S h = zD 85 190 [l0, l1, l2, l3, l4, some (.int x)] (.int x :: S) h) ∧
  (∀ (l0 l1 l2 l3 l4 l5 : Option Value) (x y : Int32) (r : List Value) (h : zH), zD 85 190 [l0, l1, l2, l3, l4, l5] (.int y :: .int x :: r) h = if x = y then zD 85 197 [l0, l1, l2, l3, l4, l5] r h else zD 85 193 [l0, l1, l2, l3, l4, l5] r h) ∧
  (∀ (l0 l1 l2 l3 l4 l5 : Option Value) (S : List Value) (h : zH), zD 85 193 [l0, l1, l2, l3, l4, l5] S h = zD 85 194 [l0, l1, l2, l3, l4, l5] (.int (1 : Int32) :: S) h) ∧
  (∀ (l0 l1 l2 l3 l4 l5 : Option Value) (S : List Value) (h : zH), zD 85 194 [l0, l1, l2, l3, l4, l5] S h = zD 85 198 [l0, l1, l2, l3, l4, l5] S h) ∧
  (∀ (l0 l1 l2 l3 l4 l5 : Option Value) (S : List Value) (h : zH), zD 85 197 [l0, l1, l2, l3, l4, l5] S h = zD 85 198 [l0, l1, l2, l3, l4, l5] (.int (0 : Int32) :: S) h) ∧
  (∀ (l0 l1 l2 l3 l4 l5 : Option Value) (x : Int32) (r : List Value) (h : zH), zD 85 198 [l0, l1, l2, l3, l4, l5] (.int x :: r) h = zD 85 199 [l0, zclr l1, some (.int x), l3, l4, l5] r h) ∧
  (∀ (l0 l1 l2 l4 l5 : Option Value) (x : Int32) (S : List Value) (h : zH), zD 85 199 [l0, l1, l2, some (.int x), l4, l5] S h = zD 85 202 [l0, l1, zclr l2, some (.int (x + (1 : Int32))), l4, l5] S h) ∧
  (∀ (l0 l1 l2 l3 l4 l5 : Option Value) (S : List Value) (h : zH), zD 85 202 [l0, l1, l2, l3, l4, l5] S h = zD 85 4 [l0, l1, l2, l3, l4, l5] S h) ∧
  (∀ (l0 l1 l3 l4 l5 : Option Value) (x : Int32) (S : List Value) (h : zH), zD 85 205 [l0, l1, some (.int x), l3, l4, l5] S h = zD 85 206 [l0, l1, some (.int x), l3, l4, l5] (.int x :: S) h) ∧
  (∀ (l0 l1 l2 l3 l4 l5 : Option Value) (v : Int32) (h : zH) (hv : zbv v), zD 85 206 [l0, l1, l2, l3, l4, l5] [.int v] h = some (some (.int v), h)) :=
  ⟨fun l0 l1 l2 l3 l4 l5 S h => zD_icst (n := 1) (by decide +kernel) (by decide +kernel),
  fun l0 l1 l2 l3 l4 l5 x r h => zD_st1 (k := 2) (ins := .istore_n 2) (len := 1) (by decide +kernel) rfl rfl rfl (by decide +kernel) rfl rfl,
  fun l0 l1 l2 l3 l4 l5 S h => zD_icst (n := 0) (by decide +kernel) (by decide +kernel),
  fun l0 l1 l2 l3 l4 l5 x r h => zD_st1 (k := 3) (ins := .istore_n 3) (len := 1) (by decide +kernel) rfl rfl rfl (by decide +kernel) rfl rfl,
  fun l1 l2 l3 l4 l5 x S h => zD_op (ins := .aload_n 0) (len := 1) (c := (6, [some (.ref x), l1, l2, l3, l4, l5], (.ref x :: S), h)) (by decide +kernel) rfl rfl rfl rfl,
  fun l0 l1 l2 l3 l4 l5 a r h hx => zD_getf (i := 136) (ci := 9) (k := 15) (q := (726, 0)) (by decide +kernel) (by decide +kernel) hx,
  fun l0 l1 l2 l3 l4 l5 x y r h => zD_if (cnd := .ge) (off := 196) (by decide +kernel) (by decide) rfl,
  fun l0 l1 l3 l4 l5 x S h => zD_op (ins := .iload_n 2) (len := 1) (c := (13, [l0, l1, some (.int x), l3, l4, l5], (.int x :: S), h)) (by decide +kernel) rfl rfl rfl rfl,
  fun l0 l1 l2 l3 l4 l5 x r h => zD_if0 (cnd := .eq) (off := 192) (by decide +kernel) (by decide) rfl,
  fun l1 l2 l3 l4 l5 x S h => zD_op (ins := .aload_n 0) (len := 1) (c := (17, [some (.ref x), l1, l2, l3, l4, l5], (.ref x :: S), h)) (by decide +kernel) rfl rfl rfl rfl,
  fun l0 l1 l2 l3 l4 l5 a r h hx => zD_getf (i := 64) (ci := 9) (k := 20) (q := (731, 0)) (by decide +kernel) (by decide +kernel) hx,
  fun l1 l2 l3 l4 l5 x S h => zD_op (ins := .aload_n 0) (len := 1) (c := (21, [some (.ref x), l1, l2, l3, l4, l5], (.ref x :: S), h)) (by decide +kernel) rfl rfl rfl rfl,
  fun l0 l1 l2 l3 l4 l5 a r h hx => zD_getf (i := 55) (ci := 9) (k := 17) (q := (728, 0)) (by decide +kernel) (by decide +kernel) hx,
  fun l0 l1 l2 l4 l5 x S h => zD_op (ins := .iload_n 3) (len := 1) (c := (25, [l0, l1, l2, some (.int x), l4, l5], (.int x :: S), h)) (by decide +kernel) rfl rfl rfl rfl,
  fun l0 l1 l2 l3 l4 l5 i a r h hx => zD_iald (by decide +kernel) hx,
  fun l0 l1 l2 l3 l4 l5 i a r h hx => zD_iald (by decide +kernel) hx,
  fun l0 l1 l2 l3 l4 l5 x r h => zD_st1 (k := 4) (ins := .istore 4) (len := 2) (by decide +kernel) rfl rfl rfl (by decide +kernel) rfl rfl,
  fun l1 l2 l3 l4 l5 x S h => zD_op (ins := .aload_n 0) (len := 1) (c := (30, [some (.ref x), l1, l2, l3, l4, l5], (.ref x :: S), h)) (by decide +kernel) rfl rfl rfl rfl,
  fun l0 l1 l2 l3 l4 l5 a r h hx => zD_getf (i := 52) (ci := 9) (k := 16) (q := (727, 0)) (by decide +kernel) (by decide +kernel) hx,
  fun l0 l1 l2 l4 l5 x S h => zD_op (ins := .iload_n 3) (len := 1) (c := (34, [l0, l1, l2, some (.int x), l4, l5], (.int x :: S), h)) (by decide +kernel) rfl rfl rfl rfl,
  fun l0 l1 l2 l3 l4 l5 i a r h hx => zD_iald (by decide +kernel) hx,
  fun l0 l1 l2 l3 l4 l5 S h => zD_icst (n := 3) (by decide +kernel) (by decide +kernel),
  fun l0 l1 l2 l3 l4 l5 x y r h => zD_if (cnd := .ne) (off := 12) (by decide +kernel) (by decide) rfl,
  fun l1 l2 l3 l4 l5 x S h => zD_op (ins := .aload_n 0) (len := 1) (c := (40, [some (.ref x), l1, l2, l3, l4, l5], (.ref x :: S), h)) (by decide +kernel) rfl rfl rfl rfl,
  fun l0 l1 l2 l3 l4 l5 a r h hx => zD_getf (i := 58) (ci := 9) (k := 18) (q := (729, 0)) (by decide +kernel) (by decide +kernel) hx,
  fun l0 l1 l2 l4 l5 x S h => zD_op (ins := .iload_n 3) (len := 1) (c := (44, [l0, l1, l2, some (.int x), l4, l5], (.int x :: S), h)) (by decide +kernel) rfl rfl rfl rfl,
  fun l0 l1 l2 l3 l4 l5 i a r h hx => zD_iald (by decide +kernel) hx,
  fun l0 l1 l2 l3 l4 l5 S h => zD_goto (off := 14) (by decide +kernel) (by decide),
  fun l1 l2 l3 l4 l5 x S h => zD_op (ins := .aload_n 0) (len := 1) (c := (49, [some (.ref x), l1, l2, l3, l4, l5], (.ref x :: S), h)) (by decide +kernel) rfl rfl rfl rfl,
  fun l0 l1 l2 l3 l4 l5 a r h hx => zD_getf (i := 64) (ci := 9) (k := 20) (q := (731, 0)) (by decide +kernel) (by decide +kernel) hx,
  fun l1 l2 l3 l4 l5 x S h => zD_op (ins := .aload_n 0) (len := 1) (c := (53, [some (.ref x), l1, l2, l3, l4, l5], (.ref x :: S), h)) (by decide +kernel) rfl rfl rfl rfl,
  fun l0 l1 l2 l3 l4 l5 a r h hx => zD_getf (i := 58) (ci := 9) (k := 18) (q := (729, 0)) (by decide +kernel) (by decide +kernel) hx,
  fun l0 l1 l2 l4 l5 x S h => zD_op (ins := .iload_n 3) (len := 1) (c := (57, [l0, l1, l2, some (.int x), l4, l5], (.int x :: S), h)) (by decide +kernel) rfl rfl rfl rfl,
  fun l0 l1 l2 l3 l4 l5 i a r h hx => zD_iald (by decide +kernel) hx,
  fun l0 l1 l2 l3 l4 l5 i a r h hx => zD_iald (by decide +kernel) hx,
  fun l0 l1 l2 l3 l4 l5 x r h => zD_st1 (k := 5) (ins := .istore 5) (len := 2) (by decide +kernel) rfl rfl rfl (by decide +kernel) rfl rfl,
  fun l1 l2 l3 l4 l5 x S h => zD_op (ins := .aload_n 0) (len := 1) (c := (62, [some (.ref x), l1, l2, l3, l4, l5], (.ref x :: S), h)) (by decide +kernel) rfl rfl rfl rfl,
  fun l0 l1 l2 l3 l4 l5 a r h hx => zD_getf (i := 52) (ci := 9) (k := 16) (q := (727, 0)) (by decide +kernel) (by decide +kernel) hx,
  fun l0 l1 l2 l4 l5 x S h => zD_op (ins := .iload_n 3) (len := 1) (c := (66, [l0, l1, l2, some (.int x), l4, l5], (.int x :: S), h)) (by decide +kernel) rfl rfl rfl rfl,
  fun l0 l1 l2 l3 l4 l5 i a r h hx => zD_iald (by decide +kernel) hx,
  fun l0 l1 l2 l3 l4 l5 x t r h hx => zD_sw (len := 29) (by decide +kernel) hx,
  fun l1 l2 l3 l4 l5 x S h => zD_op (ins := .aload_n 0) (len := 1) (c := (97, [some (.ref x), l1, l2, l3, l4, l5], (.ref x :: S), h)) (by decide +kernel) rfl rfl rfl rfl,
  fun l0 l1 l2 l3 l5 x S h => zD_op (ins := .iload 4) (len := 2) (c := (99, [l0, l1, l2, l3, some (.int x), l5], (.int x :: S), h)) (by decide +kernel) rfl rfl rfl rfl,
  fun l0 l1 l2 l3 l4 x S h => zD_op (ins := .iload 5) (len := 2) (c := (101, [l0, l1, l2, l3, l4, some (.int x)], (.int x :: S), h)) (by decide +kernel) rfl rfl rfl rfl,
  fun l0 l1 l2 l3 l4 l5 p0 p1 a r h hcat hr hC => zD_callv (i := 96) (y := 30) (n := 2) (as := [.int p0, .int p1]) (ci := 9) (by decide +kernel) (by decide +kernel) rfl (by decide +kernel) (Nat.le_of_ble_eq_true rfl) (by decide +kernel) hcat hr hC,
  fun l0 l1 l2 l3 l4 l5 x r h => zD_st1 (k := 2) (ins := .istore_n 2) (len := 1) (by decide +kernel) rfl rfl rfl (by decide +kernel) rfl rfl,
  fun l0 l1 l2 l3 l4 l5 S h => zD_goto (off := 94) (by decide +kernel) (by decide),
  fun l1 l2 l3 l4 l5 x S h => zD_op (ins := .aload_n 0) (len := 1) (c := (109, [some (.ref x), l1, l2, l3, l4, l5], (.ref x :: S), h)) (by decide +kernel) rfl rfl rfl rfl,
  fun l0 l1 l2 l3 l4 l5 a r h hx => zD_getf (i := 61) (ci := 9) (k := 19) (q := (730, 0)) (by decide +kernel) (by decide +kernel) hx,
  fun l0 l1 l2 l3 l4 x S h => zD_op (ins := .iload 5) (len := 2) (c := (114, [l0, l1, l2, l3, l4, some (.int x)], (.int x :: S), h)) (by decide +kernel) rfl rfl rfl rfl,
  fun l0 l1 l2 l3 l4 l5 i a r h hx => zD_iald (by decide +kernel) hx,
  fun l0 l1 l2 l3 l5 x S h => zD_op (ins := .iload 4) (len := 2) (c := (117, [l0, l1, l2, l3, some (.int x), l5], (.int x :: S), h)) (by decide +kernel) rfl rfl rfl rfl,
  fun l0 l1 l2 l3 l4 l5 x y r h => zD_if (cnd := .ne) (off := 7) (by decide +kernel) (by decide) rfl,
  fun l0 l1 l2 l3 l4 l5 S h => zD_icst (n := 1) (by decide +kernel) (by decide +kernel),
  fun l0 l1 l2 l3 l4 l5 S h => zD_goto (off := 4) (by decide +kernel) (by decide),
  fun l0 l1 l2 l3 l4 l5 S h => zD_icst (n := 0) (by decide +kernel) (by decide +kernel),
  fun l0 l1 l2 l3 l4 l5 x r h => zD_st1 (k := 2) (ins := .istore_n 2) (len := 1) (by decide +kernel) rfl rfl rfl (by decide +kernel) rfl rfl,
  fun l0 l1 l2 l3 l4 l5 S h => zD_goto (off := 73) (by decide +kernel) (by decide),
  fun l0 l1 l2 l3 l5 x S h => zD_op (ins := .iload 4) (len := 2) (c := (131, [l0, l1, l2, l3, some (.int x), l5], (.int x :: S), h)) (by decide +kernel) rfl rfl rfl rfl,
  fun l0 l1 l2 l3 l4 x S h => zD_op (ins := .iload 5) (len := 2) (c := (133, [l0, l1, l2, l3, l4, some (.int x)], (.int x :: S), h)) (by decide +kernel) rfl rfl rfl rfl,
  fun l0 l1 l2 l3 l4 l5 x y r h => zD_if (cnd := .ge) (off := 7) (by decide +kernel) (by decide) rfl,
  fun l0 l1 l2 l3 l4 l5 S h => zD_icst (n := 1) (by decide +kernel) (by decide +kernel),
  fun l0 l1 l2 l3 l4 l5 S h => zD_goto (off := 4) (by decide +kernel) (by decide),
  fun l0 l1 l2 l3 l4 l5 S h => zD_icst (n := 0) (by decide +kernel) (by decide +kernel),
  fun l0 l1 l2 l3 l4 l5 x r h => zD_st1 (k := 2) (ins := .istore_n 2) (len := 1) (by decide +kernel) rfl rfl rfl (by decide +kernel) rfl rfl,
  fun l0 l1 l2 l3 l4 l5 S h => zD_goto (off := 57) (by decide +kernel) (by decide),
  fun l0 l2 l3 l4 l5 x S h => zD_op (ins := .iload_n 1) (len := 1) (c := (146, [l0, some (.int x), l2, l3, l4, l5], (.int x :: S), h)) (by decide +kernel) rfl rfl rfl rfl,
  fun l0 l1 l2 l3 l4 l5 S h => zD_icst (n := (-1)) (by decide +kernel) (by decide +kernel),
  fun l0 l1 l2 l3 l4 l5 x y r h => zD_if (cnd := .ne) (off := 13) (by decide +kernel) (by decide) rfl,
  fun l1 l2 l3 l4 l5 x S h => zD_op (ins := .aload_n 0) (len := 1) (c := (151, [some (.ref x), l1, l2, l3, l4, l5], (.ref x :: S), h)) (by decide +kernel) rfl rfl rfl rfl,
  fun l0 l1 l2 l3 l4 l5 a r h hx => zD_getf (i := 13) (ci := 9) (k := 1) (q := (712, 0)) (by decide +kernel) (by decide +kernel) hx,
  fun l0 l1 l2 l3 l5 x S h => zD_op (ins := .iload 4) (len := 2) (c := (156, [l0, l1, l2, l3, some (.int x), l5], (.int x :: S), h)) (by decide +kernel) rfl rfl rfl rfl,
  fun l0 l1 l2 l3 l4 l5 i a r h hx => zD_iald (by decide +kernel) hx,
  fun l0 l1 l2 l3 l4 l5 S h => zD_goto (off := 15) (by decide +kernel) (by decide),
  fun l1 l2 l3 l4 l5 x S h => zD_op (ins := .aload_n 0) (len := 1) (c := (161, [some (.ref x), l1, l2, l3, l4, l5], (.ref x :: S), h)) (by decide +kernel) rfl rfl rfl rfl,
  fun l0 l1 l2 l3 l4 l5 a r h hx => zD_getf (i := 46) (ci := 9) (k := 13) (q := (724, 0)) (by decide +kernel) (by decide +kernel) hx,
  fun l0 l1 l2 l3 l4 l5 S h => zD_bip (n := 8) (by decide +kernel) (by decide +kernel),
  fun l0 l2 l3 l4 l5 x S h => zD_op (ins := .iload_n 1) (len := 1) (c := (167, [l0, some (.int x), l2, l3, l4, l5], (.int x :: S), h)) (by decide +kernel) rfl rfl rfl rfl,
  fun l0 l1 l2 l3 l4 l5 x y r h => zD_op (ins := .imul) (len := 1) (c := (168, [l0, l1, l2, l3, l4, l5], (.int (x * y) :: r), h)) (by decide +kernel) rfl rfl rfl rfl,
  fun l0 l1 l2 l3 l5 x S h => zD_op (ins := .iload 4) (len := 2) (c := (170, [l0, l1, l2, l3, some (.int x), l5], (.int x :: S), h)) (by decide +kernel) rfl rfl rfl rfl,
  fun l0 l1 l2 l3 l4 l5 x y r h => zD_op (ins := .iadd) (len := 1) (c := (171, [l0, l1, l2, l3, l4, l5], (.int (x + y) :: r), h)) (by decide +kernel) rfl rfl rfl rfl,
  fun l0 l1 l2 l3 l4 l5 i a r h hx => zD_iald (by decide +kernel) hx,
  fun l0 l1 l2 l3 l4 x S h => zD_op (ins := .iload 5) (len := 2) (c := (174, [l0, l1, l2, l3, l4, some (.int x)], (.int x :: S), h)) (by decide +kernel) rfl rfl rfl rfl,
  fun l0 l1 l2 l3 l4 l5 x y r h => zD_if (cnd := .ne) (off := 7) (by decide +kernel) (by decide) rfl,
  fun l0 l1 l2 l3 l4 l5 S h => zD_icst (n := 1) (by decide +kernel) (by decide +kernel),
  fun l0 l1 l2 l3 l4 l5 S h => zD_goto (off := 4) (by decide +kernel) (by decide),
  fun l0 l1 l2 l3 l4 l5 S h => zD_icst (n := 0) (by decide +kernel) (by decide +kernel),
  fun l0 l1 l2 l3 l4 l5 x r h => zD_st1 (k := 2) (ins := .istore_n 2) (len := 1) (by decide +kernel) rfl rfl rfl (by decide +kernel) rfl rfl,
  fun l0 l1 l2 l3 l4 l5 S h => zD_goto (off := 16) (by decide +kernel) (by decide),
  fun l0 l1 l2 l3 l5 x S h => zD_op (ins := .iload 4) (len := 2) (c := (188, [l0, l1, l2, l3, some (.int x), l5], (.int x :: S), h)) (by decide +kernel) rfl rfl rfl rfl,
  fun l0 l1 l2 l3 l4 x S h => zD_op (ins := .iload 5) (len := 2) (c := (190, [l0, l1, l2, l3, l4, some (.int x)], (.int x :: S), h)) (by decide +kernel) rfl rfl rfl rfl,
  fun l0 l1 l2 l3 l4 l5 x y r h => zD_if (cnd := .eq) (off := 7) (by decide +kernel) (by decide) rfl,
  fun l0 l1 l2 l3 l4 l5 S h => zD_icst (n := 1) (by decide +kernel) (by decide +kernel),
  fun l0 l1 l2 l3 l4 l5 S h => zD_goto (off := 4) (by decide +kernel) (by decide),
  fun l0 l1 l2 l3 l4 l5 S h => zD_icst (n := 0) (by decide +kernel) (by decide +kernel),
  fun l0 l1 l2 l3 l4 l5 x r h => zD_st1 (k := 2) (ins := .istore_n 2) (len := 1) (by decide +kernel) rfl rfl rfl (by decide +kernel) rfl rfl,
  fun l0 l1 l2 l4 l5 x S h => zD_iinc (k := 3) (x := x) (c := (1 : Int32)) (n := 1) (by decide +kernel) (by decide +kernel) rfl (by decide +kernel) rfl,
  fun l0 l1 l2 l3 l4 l5 S h => zD_goto (off := (-198)) (by decide +kernel) (by decide),
  fun l0 l1 l3 l4 l5 x S h => zD_op (ins := .iload_n 2) (len := 1) (c := (206, [l0, l1, some (.int x), l3, l4, l5], (.int x :: S), h)) (by decide +kernel) rfl rfl rfl rfl,
  fun l0 l1 l2 l3 l4 l5 v h hv => zD_iretz (by decide +kernel) rfl hv⟩
set_option maxRecDepth 100000 in
theorem E_X10_holds_h4 : (∀ (l0 l1 l2 l4 l5 : Option Value) (x : Int32) (S : List Value) (h : zH), zD 85 4 [l0, l1, l2, some (.int x), l4, l5] S h = zD 85 5 [l0, l1, l2, some (.int x), l4, l5] (.int x :: S) h) :=
  fun l0 l1 l2 l4 l5 x S h => zD_op (ins := .iload_n 3) (len := 1) (c := (5, [l0, l1, l2, some (.int x), l4, l5], (.int x :: S), h)) (by decide +kernel) rfl rfl rfl rfl
set_option maxRecDepth 100000 in
theorem I_X10_holds : (∀ (a : Nat) (p0 : Int32) (h : zH), zC 85 [.ref a, .int p0] h = zD 85 0 [some (.ref a), some (.int p0), none, none, none, none] [] h) :=
  fun a p0 h => zC_def rfl
set_option maxRecDepth 100000 in
theorem E_X10_digest : (∀ (l1 l2 : Option Value) (x : Nat) (S : List Value) (h : zH), zD 86 0 [some (.ref x), l1, l2] S h = zD 86 1 [some (.ref x), l1, l2] (.ref x :: S) h) ∧
  (∀ (l0 l1 l2 : Option Value) (S : List Value) (h : zH), zD 86 1 [l0, l1, l2] S h = zD 86 4 [l0, l1, l2] (.long (139 : Int64) :: S) h) ∧
  (∀ (l0 l1 l2 : Option Value) (v : Int64) (a : Nat) (r : List Value) (h : zH) (hx : zfok (h.2.2 a) 9 24 = true), zD 86 4 [l0, l1, l2] (.long v :: .ref a :: r) h = zD 86 7 [l0, l1, l2] r (zw h a (zfs' (h.2.2 a) 24 (.long v)))) ∧
  (∀ (l1 l2 : Option Value) (x : Nat) (S : List Value) (h : zH), zD 86 7 [some (.ref x), l1, l2] S h = zD 86 8 [some (.ref x), l1, l2] (.ref x :: S) h) ∧
  (∀ (l1 l2 : Option Value) (x : Nat) (S : List Value) (h : zH), zD 86 8 [some (.ref x), l1, l2] S h = zD 86 9 [some (.ref x), l1, l2] (.ref x :: S) h) ∧
  (∀ (l0 l1 l2 : Option Value) (a : Nat) (r : List Value) (h : zH) (hx : zfok (h.2.2 a) 9 0 = true), zD 86 9 [l0, l1, l2] (.ref a :: r) h = zD 86 12 [l0, l1, l2] (zfv (h.2.2 a) 0 :: r) h) ∧
  (∀ (l0 l1 l2 : Option Value) (x : Int32) (r : List Value) (h : zH), zD 86 12 [l0, l1, l2] (.int x :: r) h = zD 86 13 [l0, l1, l2] (.long x.toInt64 :: r) h) ∧
  (∀ (l0 l1 l2 : Option Value) (p0 : Int64) (a : Nat) (r : List Value) (h : zH) (hcat : zcat r ≤ 8) (hr : zis (h.2.2 a) 9 = true) (hC : (zC 39 (.ref a :: [.long p0]) h).isSome = true), zD 86 13 [l0, l1, l2] (.long p0 :: .ref a :: r) h = zD 86 16 [l0, l1, l2] (zgv (zC 39 (.ref a :: [.long p0]) h) ++ r) (zgh h (zC 39 (.ref a :: [.long p0]) h))) ∧
  (∀ (l0 l1 l2 : Option Value) (S : List Value) (h : zH), zD 86 16 [l0, l1, l2] S h = zD 86 17 [l0, l1, l2] (.int (1 : Int32) :: S) h) ∧
  (∀ (l0 l1 l2 : Option Value) (x : Int32) (r : List Value) (h : zH), zD 86 17 [l0, l1, l2] (.int x :: r) h = zD 86 18 [zclr l0, some (.int x), l2] r h) ∧
  (∀ (l1 l2 : Option Value) (x : Nat) (S : List Value) (h : zH), zD 86 19 [some (.ref x), l1, l2] S h = zD 86 20 [some (.ref x), l1, l2] (.ref x :: S) h) ∧
  (∀ (l0 l1 l2 : Option Value) (a : Nat) (r : List Value) (h : zH) (hx : zfok (h.2.2 a) 9 0 = true), zD 86 20 [l0, l1, l2] (.ref a :: r) h = zD 86 23 [l0, l1, l2] (zfv (h.2.2 a) 0 :: r) h) ∧
  (∀ (l0 l1 l2 : Option Value) (x y : Int32) (r : List Value) (h : zH), zD 86 23 [l0, l1, l2] (.int y :: .int x :: r) h = if y < x then zD 86 114 [l0, l1, l2] r h else zD 86 26 [l0, l1, l2] r h) ∧
  (∀ (l1 l2 : Option Value) (x : Nat) (S : List Value) (h : zH), zD 86 26 [some (.ref x), l1, l2] S h = zD 86 27 [some (.ref x), l1, l2] (.ref x :: S) h) ∧
  (∀ (l1 l2 : Option Value) (x : Nat) (S : List Value) (h : zH), zD 86 27 [some (.ref x), l1, l2] S h = zD 86 28 [some (.ref x), l1, l2] (.ref x :: S) h) ∧
  (∀ (l0 l1 l2 : Option Value) (a : Nat) (r : List Value) (h : zH) (hx : zfok (h.2.2 a) 9 1 = true), zD 86 28 [l0, l1, l2] (.ref a :: r) h = zD 86 31 [l0, l1, l2] (zfv (h.2.2 a) 1 :: r) h) ∧
  (∀ (l0 l2 : Option Value) (x : Int32) (S : List Value) (h : zH), zD 86 31 [l0, some (.int x), l2] S h = zD 86 32 [l0, some (.int x), l2] (.int x :: S) h) ∧
  (∀ (l0 l1 l2 : Option Value) (i : Int32) (a : Nat) (r : List Value) (h : zH) (hx : ziok a (h.2.2 a) i = true), zD 86 32 [l0, l1, l2] (.int i :: .ref a :: r) h = zD 86 33 [l0, l1, l2] (.int (ziv (h.2.2 a) i) :: r) h) ∧
  (∀ (l0 l1 l2 : Option Value) (x : Int32) (r : List Value) (h : zH), zD 86 33 [l0, l1, l2] (.int x :: r) h = zD 86 34 [l0, l1, l2] (.long x.toInt64 :: r) h) ∧
  (∀ (l0 l1 l2 : Option Value) (p0 : Int64) (a : Nat) (r : List Value) (h : zH) (hcat : zcat r ≤ 8) (hr : zis (h.2.2 a) 9 = true) (hC : (zC 39 (.ref a :: [.long p0]) h).isSome = true), zD 86 34 [l0, l1, l2] (.long p0 :: .ref a :: r) h = zD 86 37 [l0, l1, l2] (zgv (zC 39 (.ref a :: [.long p0]) h) ++ r) (zgh h (zC 39 (.ref a :: [.long p0]) h))) ∧
  (∀ (l1 l2 : Option Value) (x : Nat) (S : List Value) (h : zH), zD 86 37 [some (.ref x), l1, l2] S h = zD 86 38 [some (.ref x), l1, l2] (.ref x :: S) h) ∧
  (∀ (l1 l2 : Option Value) (x : Nat) (S : List Value) (h : zH), zD 86 38 [some (.ref x), l1, l2] S h = zD 86 39 [some (.ref x), l1, l2] (.ref x :: S) h) ∧
  (∀ (l0 l1 l2 : Option Value) (a : Nat) (r : List Value) (h : zH) (hx : zfok (h.2.2 a) 9 2 = true), zD 86 39 [l0, l1, l2] (.ref a :: r) h = zD 86 42 [l0, l1, l2] (zfv (h.2.2 a) 2 :: r) h) ∧
  (∀ (l0 l2 : Option Value) (x : Int32) (S : List Value) (h : zH), zD 86 42 [l0, some (.int x), l2] S h = zD 86 43 [l0, some (.int x), l2] (.int x :: S) h) ∧
  (∀ (l0 l1 l2 : Option Value) (i : Int32) (a : Nat) (r : List Value) (h : zH) (hx : ziok a (h.2.2 a) i = true), zD 86 43 [l0, l1, l2] (.int i :: .ref a :: r) h = zD 86 44 [l0, l1, l2] (.int (ziv (h.2.2 a) i) :: r) h) ∧
  (∀ (l0 l1 l2 : Option Value) (x : Int32) (r : List Value) (h : zH), zD 86 44 [l0, l1, l2] (.int x :: r) h = zD 86 45 [l0, l1, l2] (.long x.toInt64 :: r) h) ∧
  (∀ (l0 l1 l2 : Option Value) (p0 : Int64) (a : Nat) (r : List Value) (h : zH) (hcat : zcat r ≤ 8) (hr : zis (h.2.2 a) 9 = true) (hC : (zC 39 (.ref a :: [.long p0]) h).isSome = true), zD 86 45 [l0, l1, l2] (.long p0 :: .ref a :: r) h = zD 86 48 [l0, l1, l2] (zgv (zC 39 (.ref a :: [.long p0]) h) ++ r) (zgh h (zC 39 (.ref a :: [.long p0]) h))) ∧
  (∀ (l0 l1 l2 : Option Value) (S : List Value) (h : zH), zD 86 48 [l0, l1, l2] S h = zD 86 49 [l0, l1, l2] (.int (0 : Int32) :: S) h) ∧
  (∀ (l0 l1 l2 : Option Value) (x : Int32) (r : List Value) (h : zH), zD 86 49 [l0, l1, l2] (.int x :: r) h = zD 86 50 [l0, zclr l1, some (.int x)] r h) ∧
  (∀ (l1 l2 : Option Value) (x : Nat) (S : List Value) (h : zH), zD 86 51 [some (.ref x), l1, l2] S h = zD 86 52 [some (.ref x), l1, l2] (.ref x :: S) h) ∧
  (∀ (l0 l1 l2 : Option Value) (a : Nat) (r : List Value) (h : zH) (hx : zfok (h.2.2 a) 9 0 = true), zD 86 52 [l0, l1, l2] (.ref a :: r) h = zD 86 55 [l0, l1, l2] (zfv (h.2.2 a) 0 :: r) h) ∧
  (∀ (l0 l1 l2 : Option Value) (x y : Int32) (r : List Value) (h : zH), zD 86 55 [l0, l1, l2] (.int y :: .int x :: r) h = if y < x then zD 86 108 [l0, l1, l2] r h else zD 86 58 [l0, l1, l2] r h) ∧
  (∀ (l0 l1 : Option Value) (x : Int32) (S : List Value) (h : zH), zD 86 58 [l0, l1, some (.int x)] S h = zD 86 59 [l0, l1, some (.int x)] (.int x :: S) h) ∧
  (∀ (l0 l2 : Option Value) (x : Int32) (S : List Value) (h : zH), zD 86 59 [l0, some (.int x), l2] S h = zD 86 60 [l0, some (.int x), l2] (.int x :: S) h) ∧
  (∀ (l0 l1 l2 : Option Value) (x y : Int32) (r : List Value) (h : zH), zD 86 60 [l0, l1, l2] (.int y :: .int x :: r) h = if x = y then zD 86 102 [l0, l1, l2] r h else zD 86 63 [l0, l1, l2] r h) ∧
  (∀ (l1 l2 : Option Value) (x : Nat) (S : List Value) (h : zH), zD 86 63 [some (.ref x), l1, l2] S h = zD 86 64 [some (.ref x), l1, l2] (.ref x :: S) h) ∧
  (∀ (l1 l2 : Option Value) (x : Nat) (S : List Value) (h : zH), zD 86 64 [some (.ref x), l1, l2] S h = zD 86 65 [some (.ref x), l1, l2] (.ref x :: S) h) ∧
  (∀ (l0 l1 l2 : Option Value) (a : Nat) (r : List Value) (h : zH) (hx : zfok (h.2.2 a) 9 3 = true), zD 86 65 [l0, l1, l2] (.ref a :: r) h = zD 86 68 [l0, l1, l2] (zfv (h.2.2 a) 3 :: r) h) ∧
  (∀ (l0 l1 l2 : Option Value) (S : List Value) (h : zH), zD 86 68 [l0, l1, l2] S h = zD 86 70 [l0, l1, l2] (.int (8 : Int32) :: S) h) ∧
  (∀ (l0 l2 : Option Value) (x : Int32) (S : List Value) (h : zH), zD 86 70 [l0, some (.int x), l2] S h = zD 86 71 [l0, some (.int x), l2] (.int x :: S) h) ∧
  (∀ (l0 l1 l2 : Option Value) (x y : Int32) (r : List Value) (h : zH), zD 86 71 [l0, l1, l2] (.int y :: .int x :: r) h = zD 86 72 [l0, l1, l2] (.int (x * y) :: r) h) ∧
  (∀ (l0 l1 : Option Value) (x : Int32) (S : List Value) (h : zH), zD 86 72 [l0, l1, some (.int x)] S h = zD 86 73 [l0, l1, some (.int x)] (.int x :: S) h) ∧
  (∀ (l0 l1 l2 : Option Value) (x y : Int32) (r : List Value) (h : zH), zD 86 73 [l0, l1, l2] (.int y :: .int x :: r) h = zD 86 74 [l0, l1, l2] (.int (x + y) :: r) h) ∧
  (∀ (l0 l1 l2 : Option Value) (i : Int32) (a : Nat) (r : List Value) (h : zH) (hx : ziok a (h.2.2 a) i = true), zD 86 74 [l0, l1, l2] (.int i :: .ref a :: r) h = zD 86 75 [l0, l1, l2] (.int (ziv (h.2.2 a) i) :: r) h) ∧
  (∀ (l0 l1 l2 : Option Value) (x : Int32) (r : List Value) (h : zH), zD 86 75 [l0, l1, l2] (.int x :: r) h = zD 86 76 [l0, l1, l2] (.long x.toInt64 :: r) h) ∧
  (∀ (l0 l1 l2 : Option Value) (p0 : Int64) (a : Nat) (r : List Value) (h : zH) (hcat : zcat r ≤ 8) (hr : zis (h.2.2 a) 9 = true) (hC : (zC 39 (.ref a :: [.long p0]) h).isSome = true), zD 86 76 [l0, l1, l2] (.long p0 :: .ref a :: r) h = zD 86 79 [l0, l1, l2] (zgv (zC 39 (.ref a :: [.long p0]) h) ++ r) (zgh h (zC 39 (.ref a :: [.long p0]) h))) ∧
  (∀ (l1 l2 : Option Value) (x : Nat) (S : List Value) (h : zH), zD 86 79 [some (.ref x), l1, l2] S h = zD 86 80 [some (.ref x), l1, l2] (.ref x :: S) h) ∧
  (∀ (l1 l2 : Option Value) (x : Nat) (S : List Value) (h : zH), zD 86 80 [some (.ref x), l1, l2] S h = zD 86 81 [some (.ref x), l1, l2] (.ref x :: S) h) ∧
  (∀ (l0 l1 l2 : Option Value) (a : Nat) (r : List Value) (h : zH) (hx : zfok (h.2.2 a) 9 4 = true), zD 86 81 [l0, l1, l2] (.ref a :: r) h = zD 86 84 [l0, l1, l2] (zfv (h.2.2 a) 4 :: r) h) ∧
  (∀ (l0 l1 l2 : Option Value) (S : List Value) (h : zH), zD 86 84 [l0, l1, l2] S h = zD 86 86 [l0, l1, l2] (.int (8 : Int32) :: S) h) ∧
  (∀ (l0 l2 : Option Value) (x : Int32) (S : List Value) (h : zH), zD 86 86 [l0, some (.int x), l2] S h = zD 86 87 [l0, some (.int x), l2] (.int x :: S) h) ∧
  (∀ (l0 l1 l2 : Option Value) (x y : Int32) (r : List Value) (h : zH), zD 86 87 [l0, l1, l2] (.int y :: .int x :: r) h = zD 86 88 [l0, l1, l2] (.int (x * y) :: r) h) ∧
  (∀ (l0 l1 : Option Value) (x : Int32) (S : List Value) (h : zH), zD 86 88 [l0, l1, some (.int x)] S h = zD 86 89 [l0, l1, some (.int x)] (.int x :: S) h) ∧
  (∀ (l0 l1 l2 : Option Value) (x y : Int32) (r : List Value) (h : zH), zD 86 89 [l0, l1, l2] (.int y :: .int x :: r) h = zD 86 90 [l0, l1, l2] (.int (x + y) :: r) h) ∧
  (∀ (l0 l1 l2 : Option Value) (i : Int32) (a : Nat) (r : List Value) (h : zH) (hx : zbok (h.2.2 a) i = true), zD 86 90 [l0, l1, l2] (.int i :: .ref a :: r) h = zD 86 91 [l0, l1, l2] (.int (ziv (h.2.2 a) i) :: r) h) ∧
  (∀ (l0 l1 l2 : Option Value) (x : Int32) (r : List Value) (h : zH), zD 86 91 [l0, l1, l2] (.int x :: r) h = if x = 0 then zD 86 98 [l0, l1, l2] r h else zD 86 94 [l0, l1, l2] r h) ∧
  (∀ (l0 l1 l2 : Option Value) (S : List Value) (h : zH), zD 86 94 [l0, l1, l2] S h = zD 86 95 [l0, l1, l2] (.long (1 : Int64) :: S) h) ∧
  (∀ (l0 l1 l2 : Option Value) (S : List Value) (h : zH), zD 86 95 [l0, l1, l2] S h = zD 86 99 [l0, l1, l2] S h) ∧
  (∀ (l0 l1 l2 : Option Value) (S : List Value) (h : zH), zD 86 98 [l0, l1, l2] S h = zD 86 99 [l0, l1, l2] (.long (0 : Int64) :: S) h) ∧
  (∀ (l0 l1 l2 : Option Value) (p0 : Int64) (a : Nat) (r : List Value) (h : zH) (hcat : zcat r ≤ 8) (hr : zis (h.2.2 a) 9 = true) (hC : (zC 39 (.ref a :: [.long p0]) h).isSome = true), zD 86 99 [l0, l1, l2] (.long p0 :: .ref a :: r) h = zD 86 102 [l0, l1, l2] (zgv (zC 39 (.ref a :: [.long p0]) h) ++ r) (zgh h (zC 39 (.ref a :: [.long p0]) h))) ∧
  (∀ (l0 l1 : Option Value) (x : Int32) (S : List Value) (h : zH), zD 86 102 [l0, l1, some (.int x)] S h = zD 86 105 [l0, zclr l1, some (.int (x + (1 : Int32)))] S h) ∧
  (∀ (l0 l1 l2 : Option Value) (S : List Value) (h : zH), zD 86 105 [l0, l1, l2] S h = zD 86 50 [l0, l1, l2] S h) ∧
  (∀ (l0 l2 : Option Value) (x : Int32) (S : List Value) (h : zH), zD 86 108 [l0, some (.int x), l2] S h = zD 86 111 [zclr l0, some (.int (x + (1 : Int32))), l2] S h) ∧
  (∀ (l0 l1 l2 : Option Value) (S : List Value) (h : zH), zD 86 111 [l0, l1, l2] S h = zD 86 18 [l0, l1, l2] S h) ∧
  (∀ (l0 l1 l2 : Option Value) (S : List Value) (h : zH), zD 86 114 [l0, l1, l2] S h = zD 86 115 [l0, l1, l2] (.int (0 : Int32) :: S) h) ∧
  (∀ (l0 l1 l2 : Option Value) (x : Int32) (r : List Value) (h : zH), zD 86 115 [l0, l1, l2] (.int x :: r) h = zD 86 116 [zclr l0, some (.int x), l2] r h) ∧
  (∀ (l1 l2 : Option Value) (x : Nat) (S : List Value) (h : zH), zD 86 117 [some (.ref x), l1, l2] S h = zD 86 118 [some (.ref x), l1, l2] (.ref x :: S) h) ∧
  (∀ (l0 l1 l2 : Option Value) (a : Nat) (r : List Value) (h : zH) (hx : zfok (h.2.2 a) 9 10 = true), zD 86 118 [l0, l1, l2] (.ref a :: r) h = zD 86 121 [l0, l1, l2] (zfv (h.2.2 a) 10 :: r) h) ∧
  (∀ (l0 l1 l2 : Option Value) (x y : Int32) (r : List Value) (h : zH), zD 86 121 [l0, l1, l2] (.int y :: .int x :: r) h = if y ≤ x then zD 86 215 [l0, l1, l2] r h else zD 86 124 [l0, l1, l2] r h) ∧
  (∀ (l1 l2 : Option Value) (x : Nat) (S : List Value) (h : zH), zD 86 124 [some (.ref x), l1, l2] S h = zD 86 125 [some (.ref x), l1, l2] (.ref x :: S) h) ∧
  (∀ (l1 l2 : Option Value) (x : Nat) (S : List Value) (h : zH), zD 86 125 [some (.ref x), l1, l2] S h = zD 86 126 [some (.ref x), l1, l2] (.ref x :: S) h) ∧
  (∀ (l0 l1 l2 : Option Value) (a : Nat) (r : List Value) (h : zH) (hx : zfok (h.2.2 a) 9 11 = true), zD 86 126 [l0, l1, l2] (.ref a :: r) h = zD 86 129 [l0, l1, l2] (zfv (h.2.2 a) 11 :: r) h) ∧
  (∀ (l0 l2 : Option Value) (x : Int32) (S : List Value) (h : zH), zD 86 129 [l0, some (.int x), l2] S h = zD 86 130 [l0, some (.int x), l2] (.int x :: S) h) ∧
  (∀ (l0 l1 l2 : Option Value) (i : Int32) (a : Nat) (r : List Value) (h : zH) (hx : zbok (h.2.2 a) i = true), zD 86 130 [l0, l1, l2] (.int i :: .ref a :: r) h = zD 86 131 [l0, l1, l2] (.int (ziv (h.2.2 a) i) :: r) h) ∧
  (∀ (l0 l1 l2 : Option Value) (x : Int32) (r : List Value) (h : zH), zD 86 131 [l0, l1, l2] (.int x :: r) h = if x = 0 then zD 86 140 [l0, l1, l2] r h else zD 86 134 [l0, l1, l2] r h) ∧
  (∀ (l0 l1 l2 : Option Value) (S : List Value) (h : zH), zD 86 134 [l0, l1, l2] S h = zD 86 137 [l0, l1, l2] (.long (-1 : Int64) :: S) h) ∧
  (∀ (l0 l1 l2 : Option Value) (S : List Value) (h : zH), zD 86 137 [l0, l1, l2] S h = zD 86 147 [l0, l1, l2] S h) ∧
  (∀ (l1 l2 : Option Value) (x : Nat) (S : List Value) (h : zH), zD 86 140 [some (.ref x), l1, l2] S h = zD 86 141 [some (.ref x), l1, l2] (.ref x :: S) h) ∧
  (∀ (l0 l1 l2 : Option Value) (a : Nat) (r : List Value) (h : zH) (hx : zfok (h.2.2 a) 9 12 = true), zD 86 141 [l0, l1, l2] (.ref a :: r) h = zD 86 144 [l0, l1, l2] (zfv (h.2.2 a) 12 :: r) h) ∧
  (∀ (l0 l2 : Option Value) (x : Int32) (S : List Value) (h : zH), zD 86 144 [l0, some (.int x), l2] S h = zD 86 145 [l0, some (.int x), l2] (.int x :: S) h) ∧
  (∀ (l0 l1 l2 : Option Value) (i : Int32) (a : Nat) (r : List Value) (h : zH) (hx : ziok a (h.2.2 a) i = true), zD 86 145 [l0, l1, l2] (.int i :: .ref a :: r) h = zD 86 146 [l0, l1, l2] (.int (ziv (h.2.2 a) i) :: r) h) ∧
  (∀ (l0 l1 l2 : Option Value) (x : Int32) (r : List Value) (h : zH), zD 86 146 [l0, l1, l2] (.int x :: r) h = zD 86 147 [l0, l1, l2] (.long x.toInt64 :: r) h) ∧
  (∀ (l0 l1 l2 : Option Value) (p0 : Int64) (a : Nat) (r : List Value) (h : zH) (hcat : zcat r ≤ 8) (hr : zis (h.2.2 a) 9 = true) (hC : (zC 39 (.ref a :: [.long p0]) h).isSome = true), zD 86 147 [l0, l1, l2] (.long p0 :: .ref a :: r) h = zD 86 150 [l0, l1, l2] (zgv (zC 39 (.ref a :: [.long p0]) h) ++ r) (zgh h (zC 39 (.ref a :: [.long p0]) h))) ∧
  (∀ (l0 l1 l2 : Option Value) (S : List Value) (h : zH), zD 86 150 [l0, l1, l2] S h = zD 86 151 [l0, l1, l2] (.int (1 : Int32) :: S) h) ∧
  (∀ (l0 l1 l2 : Option Value) (x : Int32) (r : List Value) (h : zH), zD 86 151 [l0, l1, l2] (.int x :: r) h = zD 86 152 [l0, zclr l1, some (.int x)] r h) ∧
  (∀ (l1 l2 : Option Value) (x : Nat) (S : List Value) (h : zH), zD 86 153 [some (.ref x), l1, l2] S h = zD 86 154 [some (.ref x), l1, l2] (.ref x :: S) h) ∧
  (∀ (l0 l1 l2 : Option Value) (a : Nat) (r : List Value) (h : zH) (hx : zfok (h.2.2 a) 9 12 = true), zD 86 154 [l0, l1, l2] (.ref a :: r) h = zD 86 157 [l0, l1, l2] (zfv (h.2.2 a) 12 :: r) h) ∧
  (∀ (l0 l2 : Option Value) (x : Int32) (S : List Value) (h : zH), zD 86 157 [l0, some (.int x), l2] S h = zD 86 158 [l0, some (.int x), l2] (.int x :: S) h) ∧
  (∀ (l0 l1 l2 : Option Value) (i : Int32) (a : Nat) (r : List Value) (h : zH) (hx : ziok a (h.2.2 a) i = true), zD 86 158 [l0, l1, l2] (.int i :: .ref a :: r) h = zD 86 159 [l0, l1, l2] (.int (ziv (h.2.2 a) i) :: r) h) ∧
  (∀ (l0 l1 l2 : Option Value) (x y : Int32) (r : List Value) (h : zH), zD 86 159 [l0, l1, l2] (.int y :: .int x :: r) h = if y < x then zD 86 209 [l0, l1, l2] r h else zD 86 162 [l0, l1, l2] r h) ∧
  (∀ (l1 l2 : Option Value) (x : Nat) (S : List Value) (h : zH), zD 86 162 [some (.ref x), l1, l2] S h = zD 86 163 [some (.ref x), l1, l2] (.ref x :: S) h) ∧
  (∀ (l0 l1 l2 : Option Value) (a : Nat) (r : List Value) (h : zH) (hx : zfok (h.2.2 a) 9 11 = true), zD 86 163 [l0, l1, l2] (.ref a :: r) h = zD 86 166 [l0, l1, l2] (zfv (h.2.2 a) 11 :: r) h) ∧
  (∀ (l0 l2 : Option Value) (x : Int32) (S : List Value) (h : zH), zD 86 166 [l0, some (.int x), l2] S h = zD 86 167 [l0, some (.int x), l2] (.int x :: S) h) ∧
  (∀ (l0 l1 l2 : Option Value) (i : Int32) (a : Nat) (r : List Value) (h : zH) (hx : zbok (h.2.2 a) i = true), zD 86 167 [l0, l1, l2] (.int i :: .ref a :: r) h = zD 86 168 [l0, l1, l2] (.int (ziv (h.2.2 a) i) :: r) h) ∧
  (∀ (l0 l1 l2 : Option Value) (x : Int32) (r : List Value) (h : zH), zD 86 168 [l0, l1, l2] (.int x :: r) h = if ¬ x = 0 then zD 86 209 [l0, l1, l2] r h else zD 86 171 [l0, l1, l2] r h) ∧
  (∀ (l1 l2 : Option Value) (x : Nat) (S : List Value) (h : zH), zD 86 171 [some (.ref x), l1, l2] S h = zD 86 172 [some (.ref x), l1, l2] (.ref x :: S) h) ∧
  (∀ (l1 l2 : Option Value) (x : Nat) (S : List Value) (h : zH), zD 86 172 [some (.ref x), l1, l2] S h = zD 86 173 [some (.ref x), l1, l2] (.ref x :: S) h) ∧
  (∀ (l0 l1 l2 : Option Value) (a : Nat) (r : List Value) (h : zH) (hx : zfok (h.2.2 a) 9 13 = true), zD 86 173 [l0, l1, l2] (.ref a :: r) h = zD 86 176 [l0, l1, l2] (zfv (h.2.2 a) 13 :: r) h) ∧
  (∀ (l0 l1 l2 : Option Value) (S : List Value) (h : zH), zD 86 176 [l0, l1, l2] S h = zD 86 178 [l0, l1, l2] (.int (8 : Int32) :: S) h) ∧
  (∀ (l0 l2 : Option Value) (x : Int32) (S : List Value) (h : zH), zD 86 178 [l0, some (.int x), l2] S h = zD 86 179 [l0, some (.int x), l2] (.int x :: S) h) ∧
  (∀ (l0 l1 l2 : Option Value) (x y : Int32) (r : List Value) (h : zH), zD 86 179 [l0, l1, l2] (.int y :: .int x :: r) h = zD 86 180 [l0, l1, l2] (.int (x * y) :: r) h) ∧
  (∀ (l0 l1 : Option Value) (x : Int32) (S : List Value) (h : zH), zD 86 180 [l0, l1, some (.int x)] S h = zD 86 181 [l0, l1, some (.int x)] (.int x :: S) h) ∧
  (∀ (l0 l1 l2 : Option Value) (x y : Int32) (r : List Value) (h : zH), zD 86 181 [l0, l1, l2] (.int y :: .int x :: r) h = zD 86 182 [l0, l1, l2] (.int (x + y) :: r) h) ∧
  (∀ (l0 l1 l2 : Option Value) (i : Int32) (a : Nat) (r : List Value) (h : zH) (hx : ziok a (h.2.2 a) i = true), zD 86 182 [l0, l1, l2] (.int i :: .ref a :: r) h = zD 86 183 [l0, l1, l2] (.int (ziv (h.2.2 a) i) :: r) h) ∧
  (∀ (l0 l1 l2 : Option Value) (x : Int32) (r : List Value) (h : zH), zD 86 183 [l0, l1, l2] (.int x :: r) h = zD 86 184 [l0, l1, l2] (.long x.toInt64 :: r) h) ∧
  (∀ (l0 l1 l2 : Option Value) (p0 : Int64) (a : Nat) (r : List Value) (h : zH) (hcat : zcat r ≤ 8) (hr : zis (h.2.2 a) 9 = true) (hC : (zC 39 (.ref a :: [.long p0]) h).isSome = true), zD 86 184 [l0, l1, l2] (.long p0 :: .ref a :: r) h = zD 86 187 [l0, l1, l2] (zgv (zC 39 (.ref a :: [.long p0]) h) ++ r) (zgh h (zC 39 (.ref a :: [.long p0]) h))) ∧
  (∀ (l1 l2 : Option Value) (x : Nat) (S : List Value) (h : zH), zD 86 187 [some (.ref x), l1, l2] S h = zD 86 188 [some (.ref x), l1, l2] (.ref x :: S) h) ∧
  (∀ (l1 l2 : Option Value) (x : Nat) (S : List Value) (h : zH), zD 86 188 [some (.ref x), l1, l2] S h = zD 86 189 [some (.ref x), l1, l2] (.ref x :: S) h) ∧
  (∀ (l0 l1 l2 : Option Value) (a : Nat) (r : List Value) (h : zH) (hx : zfok (h.2.2 a) 9 14 = true), zD 86 189 [l0, l1, l2] (.ref a :: r) h = zD 86 192 [l0, l1, l2] (zfv (h.2.2 a) 14 :: r) h) ∧
  (∀ (l0 l1 l2 : Option Value) (S : List Value) (h : zH), zD 86 192 [l0, l1, l2] S h = zD 86 194 [l0, l1, l2] (.int (8 : Int32) :: S) h) ∧
  (∀ (l0 l2 : Option Value) (x : Int32) (S : List Value) (h : zH), zD 86 194 [l0, some (.int x), l2] S h = zD 86 195 [l0, some (.int x), l2] (.int x :: S) h) ∧
  (∀ (l0 l1 l2 : Option Value) (x y : Int32) (r : List Value) (h : zH), zD 86 195 [l0, l1, l2] (.int y :: .int x :: r) h = zD 86 196 [l0, l1, l2] (.int (x * y) :: r) h) ∧
  (∀ (l0 l1 : Option Value) (x : Int32) (S : List Value) (h : zH), zD 86 196 [l0, l1, some (.int x)] S h = zD 86 197 [l0, l1, some (.int x)] (.int x :: S) h) ∧
  (∀ (l0 l1 l2 : Option Value) (x y : Int32) (r : List Value) (h : zH), zD 86 197 [l0, l1, l2] (.int y :: .int x :: r) h = zD 86 198 [l0, l1, l2] (.int (x + y) :: r) h) ∧
  (∀ (l0 l1 l2 : Option Value) (i : Int32) (a : Nat) (r : List Value) (h : zH) (hx : ziok a (h.2.2 a) i = true), zD 86 198 [l0, l1, l2] (.int i :: .ref a :: r) h = zD 86 199 [l0, l1, l2] (.int (ziv (h.2.2 a) i) :: r) h) ∧
  (∀ (l0 l1 l2 : Option Value) (x : Int32) (r : List Value) (h : zH), zD 86 199 [l0, l1, l2] (.int x :: r) h = zD 86 200 [l0, l1, l2] (.long x.toInt64 :: r) h) ∧
  (∀ (l0 l1 l2 : Option Value) (p0 : Int64) (a : Nat) (r : List Value) (h : zH) (hcat : zcat r ≤ 8) (hr : zis (h.2.2 a) 9 = true) (hC : (zC 39 (.ref a :: [.long p0]) h).isSome = true), zD 86 200 [l0, l1, l2] (.long p0 :: .ref a :: r) h = zD 86 203 [l0, l1, l2] (zgv (zC 39 (.ref a :: [.long p0]) h) ++ r) (zgh h (zC 39 (.ref a :: [.long p0]) h))) ∧
  (∀ (l0 l1 : Option Value) (x : Int32) (S : List Value) (h : zH), zD 86 203 [l0, l1, some (.int x)] S h = zD 86 206 [l0, zclr l1, some (.int (x + (1 : Int32)))] S h) ∧
  (∀ (l0 l1 l2 : Option Value) (S : List Value) (h : zH), zD 86 206 [l0, l1, l2] S h = zD 86 152 [l0, l1, l2] S h) ∧
  (∀ (l0 l2 : Option Value) (x : Int32) (S : List Value) (h : zH), zD 86 209 [l0, some (.int x), l2] S h = zD 86 212 [zclr l0, some (.int (x + (1 : Int32))), l2] S h) ∧
  (∀ (l0 l1 l2 : Option Value) (S : List Value) (h : zH), zD 86 212 [l0, l1, l2] S h = zD 86 116 [l0, l1, l2] S h) ∧
  (∀ (l0 l1 l2 : Option Value) (S : List Value) (h : zH), zD 86 215 [l0, l1, l2] S h = zD 86 216 [l0, l1, l2] (.int (0 : Int32) :: S) h) ∧
  (∀ (l0 l1 l2 : Option Value) (x : Int32) (r : List Value) (h : zH), zD 86 216 [l0, l1, l2] (.int x :: r) h = zD 86 217 [zclr l0, some (.int x), l2] r h) ∧
  (∀ (l1 l2 : Option Value) (x : Nat) (S : List Value) (h : zH), zD 86 218 [some (.ref x), l1, l2] S h = zD 86 219 [some (.ref x), l1, l2] (.ref x :: S) h) ∧
  (∀ (l0 l1 l2 : Option Value) (a : Nat) (r : List Value) (h : zH) (hx : zfok (h.2.2 a) 9 15 = true), zD 86 219 [l0, l1, l2] (.ref a :: r) h = zD 86 222 [l0, l1, l2] (zfv (h.2.2 a) 15 :: r) h) ∧
  (∀ (l0 l1 l2 : Option Value) (x y : Int32) (r : List Value) (h : zH), zD 86 222 [l0, l1, l2] (.int y :: .int x :: r) h = if y ≤ x then zD 86 264 [l0, l1, l2] r h else zD 86 225 [l0, l1, l2] r h) ∧
  (∀ (l1 l2 : Option Value) (x : Nat) (S : List Value) (h : zH), zD 86 225 [some (.ref x), l1, l2] S h = zD 86 226 [some (.ref x), l1, l2] (.ref x :: S) h) ∧
  (∀ (l1 l2 : Option Value) (x : Nat) (S : List Value) (h : zH), zD 86 226 [some (.ref x), l1, l2] S h = zD 86 227 [some (.ref x), l1, l2] (.ref x :: S) h) ∧
  (∀ (l0 l1 l2 : Option Value) (a : Nat) (r : List Value) (h : zH) (hx : zfok (h.2.2 a) 9 16 = true), zD 86 227 [l0, l1, l2] (.ref a :: r) h = zD 86 230 [l0, l1, l2] (zfv (h.2.2 a) 16 :: r) h) ∧
  (∀ (l0 l2 : Option Value) (x : Int32) (S : List Value) (h : zH), zD 86 230 [l0, some (.int x), l2] S h = zD 86 231 [l0, some (.int x), l2] (.int x :: S) h) ∧
  (∀ (l0 l1 l2 : Option Value) (i : Int32) (a : Nat) (r : List Value) (h : zH) (hx : ziok a (h.2.2 a) i = true), zD 86 231 [l0, l1, l2] (.int i :: .ref a :: r) h = zD 86 232 [l0, l1, l2] (.int (ziv (h.2.2 a) i) :: r) h) ∧
  (∀ (l0 l1 l2 : Option Value) (x : Int32) (r : List Value) (h : zH), zD 86 232 [l0, l1, l2] (.int x :: r) h = zD 86 233 [l0, l1, l2] (.long x.toInt64 :: r) h) ∧
  (∀ (l0 l1 l2 : Option Value) (p0 : Int64) (a : Nat) (r : List Value) (h : zH) (hcat : zcat r ≤ 8) (hr : zis (h.2.2 a) 9 = true) (hC : (zC 39 (.ref a :: [.long p0]) h).isSome = true), zD 86 233 [l0, l1, l2] (.long p0 :: .ref a :: r) h = zD 86 236 [l0, l1, l2] (zgv (zC 39 (.ref a :: [.long p0]) h) ++ r) (zgh h (zC 39 (.ref a :: [.long p0]) h))) ∧
  (∀ (l1 l2 : Option Value) (x : Nat) (S : List Value) (h : zH), zD 86 236 [some (.ref x), l1, l2] S h = zD 86 237 [some (.ref x), l1, l2] (.ref x :: S) h) ∧
  (∀ (l1 l2 : Option Value) (x : Nat) (S : List Value) (h : zH), zD 86 237 [some (.ref x), l1, l2] S h = zD 86 238 [some (.ref x), l1, l2] (.ref x :: S) h) ∧
  (∀ (l0 l1 l2 : Option Value) (a : Nat) (r : List Value) (h : zH) (hx : zfok (h.2.2 a) 9 17 = true), zD 86 238 [l0, l1, l2] (.ref a :: r) h = zD 86 241 [l0, l1, l2] (zfv (h.2.2 a) 17 :: r) h) ∧
  (∀ (l0 l2 : Option Value) (x : Int32) (S : List Value) (h : zH), zD 86 241 [l0, some (.int x), l2] S h = zD 86 242 [l0, some (.int x), l2] (.int x :: S) h) ∧
  (∀ (l0 l1 l2 : Option Value) (i : Int32) (a : Nat) (r : List Value) (h : zH) (hx : ziok a (h.2.2 a) i = true), zD 86 242 [l0, l1, l2] (.int i :: .ref a :: r) h = zD 86 243 [l0, l1, l2] (.int (ziv (h.2.2 a) i) :: r) h) ∧
  (∀ (l0 l1 l2 : Option Value) (x : Int32) (r : List Value) (h : zH), zD 86 243 [l0, l1, l2] (.int x :: r) h = zD 86 244 [l0, l1, l2] (.long x.toInt64 :: r) h) ∧
  (∀ (l0 l1 l2 : Option Value) (p0 : Int64) (a : Nat) (r : List Value) (h : zH) (hcat : zcat r ≤ 8) (hr : zis (h.2.2 a) 9 = true) (hC : (zC 39 (.ref a :: [.long p0]) h).isSome = true), zD 86 244 [l0, l1, l2] (.long p0 :: .ref a :: r) h = zD 86 247 [l0, l1, l2] (zgv (zC 39 (.ref a :: [.long p0]) h) ++ r) (zgh h (zC 39 (.ref a :: [.long p0]) h))) ∧
  (∀ (l1 l2 : Option Value) (x : Nat) (S : List Value) (h : zH), zD 86 247 [some (.ref x), l1, l2] S h = zD 86 248 [some (.ref x), l1, l2] (.ref x :: S) h) ∧
  (∀ (l1 l2 : Option Value) (x : Nat) (S : List Value) (h : zH), zD 86 248 [some (.ref x), l1, l2] S h = zD 86 249 [some (.ref x), l1, l2] (.ref x :: S) h) ∧
  (∀ (l0 l1 l2 : Option Value) (a : Nat) (r : List Value) (h : zH) (hx : zfok (h.2.2 a) 9 18 = true), zD 86 249 [l0, l1, l2] (.ref a :: r) h = zD 86 252 [l0, l1, l2] (zfv (h.2.2 a) 18 :: r) h) ∧
  (∀ (l0 l2 : Option Value) (x : Int32) (S : List Value) (h : zH), zD 86 252 [l0, some (.int x), l2] S h = zD 86 253 [l0, some (.int x), l2] (.int x :: S) h) ∧
  (∀ (l0 l1 l2 : Option Value) (i : Int32) (a : Nat) (r : List Value) (h : zH) (hx : ziok a (h.2.2 a) i = true), zD 86 253 [l0, l1, l2] (.int i :: .ref a :: r) h = zD 86 254 [l0, l1, l2] (.int (ziv (h.2.2 a) i) :: r) h) ∧
  (∀ (l0 l1 l2 : Option Value) (x : Int32) (r : List Value) (h : zH), zD 86 254 [l0, l1, l2] (.int x :: r) h = zD 86 255 [l0, l1, l2] (.long x.toInt64 :: r) h) ∧
  (∀ (l0 l1 l2 : Option Value) (p0 : Int64) (a : Nat) (r : List Value) (h : zH) (hcat : zcat r ≤ 8) (hr : zis (h.2.2 a) 9 = true) (hC : (zC 39 (.ref a :: [.long p0]) h).isSome = true), zD 86 255 [l0, l1, l2] (.long p0 :: .ref a :: r) h = zD 86 258 [l0, l1, l2] (zgv (zC 39 (.ref a :: [.long p0]) h) ++ r) (zgh h (zC 39 (.ref a :: [.long p0]) h))) ∧
  (∀ (l0 l2 : Option Value) (x : Int32) (S : List Value) (h : zH), zD 86 258 [l0, some (.int x), l2] S h = zD 86 261 [zclr l0, some (.int (x + (1 : Int32))), l2] S h) ∧
  (∀ (l0 l1 l2 : Option Value) (S : List Value) (h : zH), zD 86 261 [l0, l1, l2] S h = zD 86 217 [l0, l1, l2] S h) ∧
  (∀ (l1 l2 : Option Value) (x : Nat) (S : List Value) (h : zH), zD 86 264 [some (.ref x), l1, l2] S h = zD 86 265 [some (.ref x), l1, l2] (.ref x :: S) h) ∧
  (∀ (l0 l1 l2 : Option Value) (a : Nat) (r : List Value) (h : zH) (hx : zfok (h.2.2 a) 9 24 = true), zD 86 265 [l0, l1, l2] (.ref a :: r) h = zD 86 268 [l0, l1, l2] (zfv (h.2.2 a) 24 :: r) h) ∧
  (∀ (l0 l1 l2 : Option Value) (v : Int64) (h : zH), zD 86 268 [l0, l1, l2] [.long v] h = some (some (.long v), h)) :=
  ⟨fun l1 l2 x S h => zD_op (ins := .aload_n 0) (len := 1) (c := (1, [some (.ref x), l1, l2], (.ref x :: S), h)) (by decide +kernel) rfl rfl rfl rfl,
  fun l0 l1 l2 S h => zD_ldc2 (i := 168) (q := 981) (by decide +kernel) (by decide +kernel),
  fun l0 l1 l2 v a r h hx => zD_putf (i := 164) (ci := 9) (k := 24) (q := (735, 0)) (by decide +kernel) (by decide +kernel) (by decide +kernel) hx rfl rfl,
  fun l1 l2 x S h => zD_op (ins := .aload_n 0) (len := 1) (c := (8, [some (.ref x), l1, l2], (.ref x :: S), h)) (by decide +kernel) rfl rfl rfl rfl,
  fun l1 l2 x S h => zD_op (ins := .aload_n 0) (len := 1) (c := (9, [some (.ref x), l1, l2], (.ref x :: S), h)) (by decide +kernel) rfl rfl rfl rfl,
  fun l0 l1 l2 a r h hx => zD_getf (i := 7) (ci := 9) (k := 0) (q := (711, 0)) (by decide +kernel) (by decide +kernel) hx,
  fun l0 l1 l2 x r h => zD_op (ins := .i2l) (len := 1) (c := (13, [l0, l1, l2], (.long x.toInt64 :: r), h)) (by decide +kernel) rfl rfl rfl rfl,
  fun l0 l1 l2 p0 a r h hcat hr hC => zD_callv (i := 170) (y := 39) (n := 1) (as := [.long p0]) (ci := 9) (by decide +kernel) (by decide +kernel) rfl (by decide +kernel) (Nat.le_of_ble_eq_true rfl) (by decide +kernel) hcat hr hC,
  fun l0 l1 l2 S h => zD_icst (n := 1) (by decide +kernel) (by decide +kernel),
  fun l0 l1 l2 x r h => zD_st1 (k := 1) (ins := .istore_n 1) (len := 1) (by decide +kernel) rfl rfl rfl (by decide +kernel) rfl rfl,
  fun l1 l2 x S h => zD_op (ins := .aload_n 0) (len := 1) (c := (20, [some (.ref x), l1, l2], (.ref x :: S), h)) (by decide +kernel) rfl rfl rfl rfl,
  fun l0 l1 l2 a r h hx => zD_getf (i := 7) (ci := 9) (k := 0) (q := (711, 0)) (by decide +kernel) (by decide +kernel) hx,
  fun l0 l1 l2 x y r h => zD_if (cnd := .gt) (off := 91) (by decide +kernel) (by decide) rfl,
  fun l1 l2 x S h => zD_op (ins := .aload_n 0) (len := 1) (c := (27, [some (.ref x), l1, l2], (.ref x :: S), h)) (by decide +kernel) rfl rfl rfl rfl,
  fun l1 l2 x S h => zD_op (ins := .aload_n 0) (len := 1) (c := (28, [some (.ref x), l1, l2], (.ref x :: S), h)) (by decide +kernel) rfl rfl rfl rfl,
  fun l0 l1 l2 a r h hx => zD_getf (i := 13) (ci := 9) (k := 1) (q := (712, 0)) (by decide +kernel) (by decide +kernel) hx,
  fun l0 l2 x S h => zD_op (ins := .iload_n 1) (len := 1) (c := (32, [l0, some (.int x), l2], (.int x :: S), h)) (by decide +kernel) rfl rfl rfl rfl,
  fun l0 l1 l2 i a r h hx => zD_iald (by decide +kernel) hx,
  fun l0 l1 l2 x r h => zD_op (ins := .i2l) (len := 1) (c := (34, [l0, l1, l2], (.long x.toInt64 :: r), h)) (by decide +kernel) rfl rfl rfl rfl,
  fun l0 l1 l2 p0 a r h hcat hr hC => zD_callv (i := 170) (y := 39) (n := 1) (as := [.long p0]) (ci := 9) (by decide +kernel) (by decide +kernel) rfl (by decide +kernel) (Nat.le_of_ble_eq_true rfl) (by decide +kernel) hcat hr hC,
  fun l1 l2 x S h => zD_op (ins := .aload_n 0) (len := 1) (c := (38, [some (.ref x), l1, l2], (.ref x :: S), h)) (by decide +kernel) rfl rfl rfl rfl,
  fun l1 l2 x S h => zD_op (ins := .aload_n 0) (len := 1) (c := (39, [some (.ref x), l1, l2], (.ref x :: S), h)) (by decide +kernel) rfl rfl rfl rfl,
  fun l0 l1 l2 a r h hx => zD_getf (i := 17) (ci := 9) (k := 2) (q := (713, 0)) (by decide +kernel) (by decide +kernel) hx,
  fun l0 l2 x S h => zD_op (ins := .iload_n 1) (len := 1) (c := (43, [l0, some (.int x), l2], (.int x :: S), h)) (by decide +kernel) rfl rfl rfl rfl,
  fun l0 l1 l2 i a r h hx => zD_iald (by decide +kernel) hx,
  fun l0 l1 l2 x r h => zD_op (ins := .i2l) (len := 1) (c := (45, [l0, l1, l2], (.long x.toInt64 :: r), h)) (by decide +kernel) rfl rfl rfl rfl,
  fun l0 l1 l2 p0 a r h hcat hr hC => zD_callv (i := 170) (y := 39) (n := 1) (as := [.long p0]) (ci := 9) (by decide +kernel) (by decide +kernel) rfl (by decide +kernel) (Nat.le_of_ble_eq_true rfl) (by decide +kernel) hcat hr hC,
  fun l0 l1 l2 S h => zD_icst (n := 0) (by decide +kernel) (by decide +kernel),
  fun l0 l1 l2 x r h => zD_st1 (k := 2) (ins := .istore_n 2) (len := 1) (by decide +kernel) rfl rfl rfl (by decide +kernel) rfl rfl,
  fun l1 l2 x S h => zD_op (ins := .aload_n 0) (len := 1) (c := (52, [some (.ref x), l1, l2], (.ref x :: S), h)) (by decide +kernel) rfl rfl rfl rfl,
  fun l0 l1 l2 a r h hx => zD_getf (i := 7) (ci := 9) (k := 0) (q := (711, 0)) (by decide +kernel) (by decide +kernel) hx,
  fun l0 l1 l2 x y r h => zD_if (cnd := .gt) (off := 53) (by decide +kernel) (by decide) rfl,
  fun l0 l1 x S h => zD_op (ins := .iload_n 2) (len := 1) (c := (59, [l0, l1, some (.int x)], (.int x :: S), h)) (by decide +kernel) rfl rfl rfl rfl,
  fun l0 l2 x S h => zD_op (ins := .iload_n 1) (len := 1) (c := (60, [l0, some (.int x), l2], (.int x :: S), h)) (by decide +kernel) rfl rfl rfl rfl,
  fun l0 l1 l2 x y r h => zD_if (cnd := .eq) (off := 42) (by decide +kernel) (by decide) rfl,
  fun l1 l2 x S h => zD_op (ins := .aload_n 0) (len := 1) (c := (64, [some (.ref x), l1, l2], (.ref x :: S), h)) (by decide +kernel) rfl rfl rfl rfl,
  fun l1 l2 x S h => zD_op (ins := .aload_n 0) (len := 1) (c := (65, [some (.ref x), l1, l2], (.ref x :: S), h)) (by decide +kernel) rfl rfl rfl rfl,
  fun l0 l1 l2 a r h hx => zD_getf (i := 20) (ci := 9) (k := 3) (q := (714, 0)) (by decide +kernel) (by decide +kernel) hx,
  fun l0 l1 l2 S h => zD_bip (n := 8) (by decide +kernel) (by decide +kernel),
  fun l0 l2 x S h => zD_op (ins := .iload_n 1) (len := 1) (c := (71, [l0, some (.int x), l2], (.int x :: S), h)) (by decide +kernel) rfl rfl rfl rfl,
  fun l0 l1 l2 x y r h => zD_op (ins := .imul) (len := 1) (c := (72, [l0, l1, l2], (.int (x * y) :: r), h)) (by decide +kernel) rfl rfl rfl rfl,
  fun l0 l1 x S h => zD_op (ins := .iload_n 2) (len := 1) (c := (73, [l0, l1, some (.int x)], (.int x :: S), h)) (by decide +kernel) rfl rfl rfl rfl,
  fun l0 l1 l2 x y r h => zD_op (ins := .iadd) (len := 1) (c := (74, [l0, l1, l2], (.int (x + y) :: r), h)) (by decide +kernel) rfl rfl rfl rfl,
  fun l0 l1 l2 i a r h hx => zD_iald (by decide +kernel) hx,
  fun l0 l1 l2 x r h => zD_op (ins := .i2l) (len := 1) (c := (76, [l0, l1, l2], (.long x.toInt64 :: r), h)) (by decide +kernel) rfl rfl rfl rfl,
  fun l0 l1 l2 p0 a r h hcat hr hC => zD_callv (i := 170) (y := 39) (n := 1) (as := [.long p0]) (ci := 9) (by decide +kernel) (by decide +kernel) rfl (by decide +kernel) (Nat.le_of_ble_eq_true rfl) (by decide +kernel) hcat hr hC,
  fun l1 l2 x S h => zD_op (ins := .aload_n 0) (len := 1) (c := (80, [some (.ref x), l1, l2], (.ref x :: S), h)) (by decide +kernel) rfl rfl rfl rfl,
  fun l1 l2 x S h => zD_op (ins := .aload_n 0) (len := 1) (c := (81, [some (.ref x), l1, l2], (.ref x :: S), h)) (by decide +kernel) rfl rfl rfl rfl,
  fun l0 l1 l2 a r h hx => zD_getf (i := 23) (ci := 9) (k := 4) (q := (715, 0)) (by decide +kernel) (by decide +kernel) hx,
  fun l0 l1 l2 S h => zD_bip (n := 8) (by decide +kernel) (by decide +kernel),
  fun l0 l2 x S h => zD_op (ins := .iload_n 1) (len := 1) (c := (87, [l0, some (.int x), l2], (.int x :: S), h)) (by decide +kernel) rfl rfl rfl rfl,
  fun l0 l1 l2 x y r h => zD_op (ins := .imul) (len := 1) (c := (88, [l0, l1, l2], (.int (x * y) :: r), h)) (by decide +kernel) rfl rfl rfl rfl,
  fun l0 l1 x S h => zD_op (ins := .iload_n 2) (len := 1) (c := (89, [l0, l1, some (.int x)], (.int x :: S), h)) (by decide +kernel) rfl rfl rfl rfl,
  fun l0 l1 l2 x y r h => zD_op (ins := .iadd) (len := 1) (c := (90, [l0, l1, l2], (.int (x + y) :: r), h)) (by decide +kernel) rfl rfl rfl rfl,
  fun l0 l1 l2 i a r h hx => zD_bald (by decide +kernel) hx,
  fun l0 l1 l2 x r h => zD_if0 (cnd := .eq) (off := 7) (by decide +kernel) (by decide) rfl,
  fun l0 l1 l2 S h => zD_op (ins := .lconst 1) (len := 1) (c := (95, [l0, l1, l2], (.long (1 : Int64) :: S), h)) (by decide +kernel) rfl rfl rfl rfl,
  fun l0 l1 l2 S h => zD_goto (off := 4) (by decide +kernel) (by decide),
  fun l0 l1 l2 S h => zD_op (ins := .lconst 0) (len := 1) (c := (99, [l0, l1, l2], (.long (0 : Int64) :: S), h)) (by decide +kernel) rfl rfl rfl rfl,
  fun l0 l1 l2 p0 a r h hcat hr hC => zD_callv (i := 170) (y := 39) (n := 1) (as := [.long p0]) (ci := 9) (by decide +kernel) (by decide +kernel) rfl (by decide +kernel) (Nat.le_of_ble_eq_true rfl) (by decide +kernel) hcat hr hC,
  fun l0 l1 x S h => zD_iinc (k := 2) (x := x) (c := (1 : Int32)) (n := 1) (by decide +kernel) (by decide +kernel) rfl (by decide +kernel) rfl,
  fun l0 l1 l2 S h => zD_goto (off := (-55)) (by decide +kernel) (by decide),
  fun l0 l2 x S h => zD_iinc (k := 1) (x := x) (c := (1 : Int32)) (n := 1) (by decide +kernel) (by decide +kernel) rfl (by decide +kernel) rfl,
  fun l0 l1 l2 S h => zD_goto (off := (-93)) (by decide +kernel) (by decide),
  fun l0 l1 l2 S h => zD_icst (n := 0) (by decide +kernel) (by decide +kernel),
  fun l0 l1 l2 x r h => zD_st1 (k := 1) (ins := .istore_n 1) (len := 1) (by decide +kernel) rfl rfl rfl (by decide +kernel) rfl rfl,
  fun l1 l2 x S h => zD_op (ins := .aload_n 0) (len := 1) (c := (118, [some (.ref x), l1, l2], (.ref x :: S), h)) (by decide +kernel) rfl rfl rfl rfl,
  fun l0 l1 l2 a r h hx => zD_getf (i := 126) (ci := 9) (k := 10) (q := (721, 0)) (by decide +kernel) (by decide +kernel) hx,
  fun l0 l1 l2 x y r h => zD_if (cnd := .ge) (off := 94) (by decide +kernel) (by decide) rfl,
  fun l1 l2 x S h => zD_op (ins := .aload_n 0) (len := 1) (c := (125, [some (.ref x), l1, l2], (.ref x :: S), h)) (by decide +kernel) rfl rfl rfl rfl,
  fun l1 l2 x S h => zD_op (ins := .aload_n 0) (len := 1) (c := (126, [some (.ref x), l1, l2], (.ref x :: S), h)) (by decide +kernel) rfl rfl rfl rfl,
  fun l0 l1 l2 a r h hx => zD_getf (i := 40) (ci := 9) (k := 11) (q := (722, 0)) (by decide +kernel) (by decide +kernel) hx,
  fun l0 l2 x S h => zD_op (ins := .iload_n 1) (len := 1) (c := (130, [l0, some (.int x), l2], (.int x :: S), h)) (by decide +kernel) rfl rfl rfl rfl,
  fun l0 l1 l2 i a r h hx => zD_bald (by decide +kernel) hx,
  fun l0 l1 l2 x r h => zD_if0 (cnd := .eq) (off := 9) (by decide +kernel) (by decide) rfl,
  fun l0 l1 l2 S h => zD_ldc2 (i := 174) (q := 987) (by decide +kernel) (by decide +kernel),
  fun l0 l1 l2 S h => zD_goto (off := 10) (by decide +kernel) (by decide),
  fun l1 l2 x S h => zD_op (ins := .aload_n 0) (len := 1) (c := (141, [some (.ref x), l1, l2], (.ref x :: S), h)) (by decide +kernel) rfl rfl rfl rfl,
  fun l0 l1 l2 a r h hx => zD_getf (i := 43) (ci := 9) (k := 12) (q := (723, 0)) (by decide +kernel) (by decide +kernel) hx,
  fun l0 l2 x S h => zD_op (ins := .iload_n 1) (len := 1) (c := (145, [l0, some (.int x), l2], (.int x :: S), h)) (by decide +kernel) rfl rfl rfl rfl,
  fun l0 l1 l2 i a r h hx => zD_iald (by decide +kernel) hx,
  fun l0 l1 l2 x r h => zD_op (ins := .i2l) (len := 1) (c := (147, [l0, l1, l2], (.long x.toInt64 :: r), h)) (by decide +kernel) rfl rfl rfl rfl,
  fun l0 l1 l2 p0 a r h hcat hr hC => zD_callv (i := 170) (y := 39) (n := 1) (as := [.long p0]) (ci := 9) (by decide +kernel) (by decide +kernel) rfl (by decide +kernel) (Nat.le_of_ble_eq_true rfl) (by decide +kernel) hcat hr hC,
  fun l0 l1 l2 S h => zD_icst (n := 1) (by decide +kernel) (by decide +kernel),
  fun l0 l1 l2 x r h => zD_st1 (k := 2) (ins := .istore_n 2) (len := 1) (by decide +kernel) rfl rfl rfl (by decide +kernel) rfl rfl,
  fun l1 l2 x S h => zD_op (ins := .aload_n 0) (len := 1) (c := (154, [some (.ref x), l1, l2], (.ref x :: S), h)) (by decide +kernel) rfl rfl rfl rfl,
  fun l0 l1 l2 a r h hx => zD_getf (i := 43) (ci := 9) (k := 12) (q := (723, 0)) (by decide +kernel) (by decide +kernel) hx,
  fun l0 l2 x S h => zD_op (ins := .iload_n 1) (len := 1) (c := (158, [l0, some (.int x), l2], (.int x :: S), h)) (by decide +kernel) rfl rfl rfl rfl,
  fun l0 l1 l2 i a r h hx => zD_iald (by decide +kernel) hx,
  fun l0 l1 l2 x y r h => zD_if (cnd := .gt) (off := 50) (by decide +kernel) (by decide) rfl,
  fun l1 l2 x S h => zD_op (ins := .aload_n 0) (len := 1) (c := (163, [some (.ref x), l1, l2], (.ref x :: S), h)) (by decide +kernel) rfl rfl rfl rfl,
  fun l0 l1 l2 a r h hx => zD_getf (i := 40) (ci := 9) (k := 11) (q := (722, 0)) (by decide +kernel) (by decide +kernel) hx,
  fun l0 l2 x S h => zD_op (ins := .iload_n 1) (len := 1) (c := (167, [l0, some (.int x), l2], (.int x :: S), h)) (by decide +kernel) rfl rfl rfl rfl,
  fun l0 l1 l2 i a r h hx => zD_bald (by decide +kernel) hx,
  fun l0 l1 l2 x r h => zD_if0 (cnd := .ne) (off := 41) (by decide +kernel) (by decide) rfl,
  fun l1 l2 x S h => zD_op (ins := .aload_n 0) (len := 1) (c := (172, [some (.ref x), l1, l2], (.ref x :: S), h)) (by decide +kernel) rfl rfl rfl rfl,
  fun l1 l2 x S h => zD_op (ins := .aload_n 0) (len := 1) (c := (173, [some (.ref x), l1, l2], (.ref x :: S), h)) (by decide +kernel) rfl rfl rfl rfl,
  fun l0 l1 l2 a r h hx => zD_getf (i := 46) (ci := 9) (k := 13) (q := (724, 0)) (by decide +kernel) (by decide +kernel) hx,
  fun l0 l1 l2 S h => zD_bip (n := 8) (by decide +kernel) (by decide +kernel),
  fun l0 l2 x S h => zD_op (ins := .iload_n 1) (len := 1) (c := (179, [l0, some (.int x), l2], (.int x :: S), h)) (by decide +kernel) rfl rfl rfl rfl,
  fun l0 l1 l2 x y r h => zD_op (ins := .imul) (len := 1) (c := (180, [l0, l1, l2], (.int (x * y) :: r), h)) (by decide +kernel) rfl rfl rfl rfl,
  fun l0 l1 x S h => zD_op (ins := .iload_n 2) (len := 1) (c := (181, [l0, l1, some (.int x)], (.int x :: S), h)) (by decide +kernel) rfl rfl rfl rfl,
  fun l0 l1 l2 x y r h => zD_op (ins := .iadd) (len := 1) (c := (182, [l0, l1, l2], (.int (x + y) :: r), h)) (by decide +kernel) rfl rfl rfl rfl,
  fun l0 l1 l2 i a r h hx => zD_iald (by decide +kernel) hx,
  fun l0 l1 l2 x r h => zD_op (ins := .i2l) (len := 1) (c := (184, [l0, l1, l2], (.long x.toInt64 :: r), h)) (by decide +kernel) rfl rfl rfl rfl,
  fun l0 l1 l2 p0 a r h hcat hr hC => zD_callv (i := 170) (y := 39) (n := 1) (as := [.long p0]) (ci := 9) (by decide +kernel) (by decide +kernel) rfl (by decide +kernel) (Nat.le_of_ble_eq_true rfl) (by decide +kernel) hcat hr hC,
  fun l1 l2 x S h => zD_op (ins := .aload_n 0) (len := 1) (c := (188, [some (.ref x), l1, l2], (.ref x :: S), h)) (by decide +kernel) rfl rfl rfl rfl,
  fun l1 l2 x S h => zD_op (ins := .aload_n 0) (len := 1) (c := (189, [some (.ref x), l1, l2], (.ref x :: S), h)) (by decide +kernel) rfl rfl rfl rfl,
  fun l0 l1 l2 a r h hx => zD_getf (i := 49) (ci := 9) (k := 14) (q := (725, 0)) (by decide +kernel) (by decide +kernel) hx,
  fun l0 l1 l2 S h => zD_bip (n := 8) (by decide +kernel) (by decide +kernel),
  fun l0 l2 x S h => zD_op (ins := .iload_n 1) (len := 1) (c := (195, [l0, some (.int x), l2], (.int x :: S), h)) (by decide +kernel) rfl rfl rfl rfl,
  fun l0 l1 l2 x y r h => zD_op (ins := .imul) (len := 1) (c := (196, [l0, l1, l2], (.int (x * y) :: r), h)) (by decide +kernel) rfl rfl rfl rfl,
  fun l0 l1 x S h => zD_op (ins := .iload_n 2) (len := 1) (c := (197, [l0, l1, some (.int x)], (.int x :: S), h)) (by decide +kernel) rfl rfl rfl rfl,
  fun l0 l1 l2 x y r h => zD_op (ins := .iadd) (len := 1) (c := (198, [l0, l1, l2], (.int (x + y) :: r), h)) (by decide +kernel) rfl rfl rfl rfl,
  fun l0 l1 l2 i a r h hx => zD_iald (by decide +kernel) hx,
  fun l0 l1 l2 x r h => zD_op (ins := .i2l) (len := 1) (c := (200, [l0, l1, l2], (.long x.toInt64 :: r), h)) (by decide +kernel) rfl rfl rfl rfl,
  fun l0 l1 l2 p0 a r h hcat hr hC => zD_callv (i := 170) (y := 39) (n := 1) (as := [.long p0]) (ci := 9) (by decide +kernel) (by decide +kernel) rfl (by decide +kernel) (Nat.le_of_ble_eq_true rfl) (by decide +kernel) hcat hr hC,
  fun l0 l1 x S h => zD_iinc (k := 2) (x := x) (c := (1 : Int32)) (n := 1) (by decide +kernel) (by decide +kernel) rfl (by decide +kernel) rfl,
  fun l0 l1 l2 S h => zD_goto (off := (-54)) (by decide +kernel) (by decide),
  fun l0 l2 x S h => zD_iinc (k := 1) (x := x) (c := (1 : Int32)) (n := 1) (by decide +kernel) (by decide +kernel) rfl (by decide +kernel) rfl,
  fun l0 l1 l2 S h => zD_goto (off := (-96)) (by decide +kernel) (by decide),
  fun l0 l1 l2 S h => zD_icst (n := 0) (by decide +kernel) (by decide +kernel),
  fun l0 l1 l2 x r h => zD_st1 (k := 1) (ins := .istore_n 1) (len := 1) (by decide +kernel) rfl rfl rfl (by decide +kernel) rfl rfl,
  fun l1 l2 x S h => zD_op (ins := .aload_n 0) (len := 1) (c := (219, [some (.ref x), l1, l2], (.ref x :: S), h)) (by decide +kernel) rfl rfl rfl rfl,
  fun l0 l1 l2 a r h hx => zD_getf (i := 136) (ci := 9) (k := 15) (q := (726, 0)) (by decide +kernel) (by decide +kernel) hx,
  fun l0 l1 l2 x y r h => zD_if (cnd := .ge) (off := 42) (by decide +kernel) (by decide) rfl,
  fun l1 l2 x S h => zD_op (ins := .aload_n 0) (len := 1) (c := (226, [some (.ref x), l1, l2], (.ref x :: S), h)) (by decide +kernel) rfl rfl rfl rfl,
  fun l1 l2 x S h => zD_op (ins := .aload_n 0) (len := 1) (c := (227, [some (.ref x), l1, l2], (.ref x :: S), h)) (by decide +kernel) rfl rfl rfl rfl,
  fun l0 l1 l2 a r h hx => zD_getf (i := 52) (ci := 9) (k := 16) (q := (727, 0)) (by decide +kernel) (by decide +kernel) hx,
  fun l0 l2 x S h => zD_op (ins := .iload_n 1) (len := 1) (c := (231, [l0, some (.int x), l2], (.int x :: S), h)) (by decide +kernel) rfl rfl rfl rfl,
  fun l0 l1 l2 i a r h hx => zD_iald (by decide +kernel) hx,
  fun l0 l1 l2 x r h => zD_op (ins := .i2l) (len := 1) (c := (233, [l0, l1, l2], (.long x.toInt64 :: r), h)) (by decide +kernel) rfl rfl rfl rfl,
  fun l0 l1 l2 p0 a r h hcat hr hC => zD_callv (i := 170) (y := 39) (n := 1) (as := [.long p0]) (ci := 9) (by decide +kernel) (by decide +kernel) rfl (by decide +kernel) (Nat.le_of_ble_eq_true rfl) (by decide +kernel) hcat hr hC,
  fun l1 l2 x S h => zD_op (ins := .aload_n 0) (len := 1) (c := (237, [some (.ref x), l1, l2], (.ref x :: S), h)) (by decide +kernel) rfl rfl rfl rfl,
  fun l1 l2 x S h => zD_op (ins := .aload_n 0) (len := 1) (c := (238, [some (.ref x), l1, l2], (.ref x :: S), h)) (by decide +kernel) rfl rfl rfl rfl,
  fun l0 l1 l2 a r h hx => zD_getf (i := 55) (ci := 9) (k := 17) (q := (728, 0)) (by decide +kernel) (by decide +kernel) hx,
  fun l0 l2 x S h => zD_op (ins := .iload_n 1) (len := 1) (c := (242, [l0, some (.int x), l2], (.int x :: S), h)) (by decide +kernel) rfl rfl rfl rfl,
  fun l0 l1 l2 i a r h hx => zD_iald (by decide +kernel) hx,
  fun l0 l1 l2 x r h => zD_op (ins := .i2l) (len := 1) (c := (244, [l0, l1, l2], (.long x.toInt64 :: r), h)) (by decide +kernel) rfl rfl rfl rfl,
  fun l0 l1 l2 p0 a r h hcat hr hC => zD_callv (i := 170) (y := 39) (n := 1) (as := [.long p0]) (ci := 9) (by decide +kernel) (by decide +kernel) rfl (by decide +kernel) (Nat.le_of_ble_eq_true rfl) (by decide +kernel) hcat hr hC,
  fun l1 l2 x S h => zD_op (ins := .aload_n 0) (len := 1) (c := (248, [some (.ref x), l1, l2], (.ref x :: S), h)) (by decide +kernel) rfl rfl rfl rfl,
  fun l1 l2 x S h => zD_op (ins := .aload_n 0) (len := 1) (c := (249, [some (.ref x), l1, l2], (.ref x :: S), h)) (by decide +kernel) rfl rfl rfl rfl,
  fun l0 l1 l2 a r h hx => zD_getf (i := 58) (ci := 9) (k := 18) (q := (729, 0)) (by decide +kernel) (by decide +kernel) hx,
  fun l0 l2 x S h => zD_op (ins := .iload_n 1) (len := 1) (c := (253, [l0, some (.int x), l2], (.int x :: S), h)) (by decide +kernel) rfl rfl rfl rfl,
  fun l0 l1 l2 i a r h hx => zD_iald (by decide +kernel) hx,
  fun l0 l1 l2 x r h => zD_op (ins := .i2l) (len := 1) (c := (255, [l0, l1, l2], (.long x.toInt64 :: r), h)) (by decide +kernel) rfl rfl rfl rfl,
  fun l0 l1 l2 p0 a r h hcat hr hC => zD_callv (i := 170) (y := 39) (n := 1) (as := [.long p0]) (ci := 9) (by decide +kernel) (by decide +kernel) rfl (by decide +kernel) (Nat.le_of_ble_eq_true rfl) (by decide +kernel) hcat hr hC,
  fun l0 l2 x S h => zD_iinc (k := 1) (x := x) (c := (1 : Int32)) (n := 1) (by decide +kernel) (by decide +kernel) rfl (by decide +kernel) rfl,
  fun l0 l1 l2 S h => zD_goto (off := (-44)) (by decide +kernel) (by decide),
  fun l1 l2 x S h => zD_op (ins := .aload_n 0) (len := 1) (c := (265, [some (.ref x), l1, l2], (.ref x :: S), h)) (by decide +kernel) rfl rfl rfl rfl,
  fun l0 l1 l2 a r h hx => zD_getf (i := 164) (ci := 9) (k := 24) (q := (735, 0)) (by decide +kernel) (by decide +kernel) hx,
  fun l0 l1 l2 v h => zD_lret (by decide +kernel) rfl⟩
set_option maxRecDepth 100000 in
theorem E_X10_digest_h18 : (∀ (l0 l2 : Option Value) (x : Int32) (S : List Value) (h : zH), zD 86 18 [l0, some (.int x), l2] S h = zD 86 19 [l0, some (.int x), l2] (.int x :: S) h) :=
  fun l0 l2 x S h => zD_op (ins := .iload_n 1) (len := 1) (c := (19, [l0, some (.int x), l2], (.int x :: S), h)) (by decide +kernel) rfl rfl rfl rfl
set_option maxRecDepth 100000 in
theorem E_X10_digest_h50 : (∀ (l0 l1 : Option Value) (x : Int32) (S : List Value) (h : zH), zD 86 50 [l0, l1, some (.int x)] S h = zD 86 51 [l0, l1, some (.int x)] (.int x :: S) h) :=
  fun l0 l1 x S h => zD_op (ins := .iload_n 2) (len := 1) (c := (51, [l0, l1, some (.int x)], (.int x :: S), h)) (by decide +kernel) rfl rfl rfl rfl
set_option maxRecDepth 100000 in
theorem E_X10_digest_h116 : (∀ (l0 l2 : Option Value) (x : Int32) (S : List Value) (h : zH), zD 86 116 [l0, some (.int x), l2] S h = zD 86 117 [l0, some (.int x), l2] (.int x :: S) h) :=
  fun l0 l2 x S h => zD_op (ins := .iload_n 1) (len := 1) (c := (117, [l0, some (.int x), l2], (.int x :: S), h)) (by decide +kernel) rfl rfl rfl rfl
set_option maxRecDepth 100000 in
theorem E_X10_digest_h152 : (∀ (l0 l1 : Option Value) (x : Int32) (S : List Value) (h : zH), zD 86 152 [l0, l1, some (.int x)] S h = zD 86 153 [l0, l1, some (.int x)] (.int x :: S) h) :=
  fun l0 l1 x S h => zD_op (ins := .iload_n 2) (len := 1) (c := (153, [l0, l1, some (.int x)], (.int x :: S), h)) (by decide +kernel) rfl rfl rfl rfl
set_option maxRecDepth 100000 in
theorem E_X10_digest_h217 : (∀ (l0 l2 : Option Value) (x : Int32) (S : List Value) (h : zH), zD 86 217 [l0, some (.int x), l2] S h = zD 86 218 [l0, some (.int x), l2] (.int x :: S) h) :=
  fun l0 l2 x S h => zD_op (ins := .iload_n 1) (len := 1) (c := (218, [l0, some (.int x), l2], (.int x :: S), h)) (by decide +kernel) rfl rfl rfl rfl
set_option maxRecDepth 100000 in
theorem I_X10_digest : (∀ (a : Nat) (h : zH), zC 86 [.ref a] h = zD 86 0 [some (.ref a), none, none] [] h) :=
  fun a h => zC_def rfl
