set_option maxRecDepth 100000 in
theorem E_X10_search : (∀ (l0 l2 l3 l4 l5 l6 l7 l8 : Option Value) (x : Int32) (S : List Value) (h : zH), zD 123 0 [l0, some (.int x), l2, l3, l4, l5, l6, l7, l8] S h = zD 123 1 [l0, some (.int x), l2, l3, l4, l5, l6, l7, l8] (.int x :: S) h) ∧
  (∀ (l0 l1 l2 l3 l4 l5 l6 l7 l8 : Option Value) (S : List Value) (h : zH), zD 123 1 [l0, l1, l2, l3, l4, l5, l6, l7, l8] S h = zD 123 2 [l0, l1, l2, l3, l4, l5, l6, l7, l8] (.int (-1 : Int32) :: S) h) ∧
  (∀ (l0 l1 l2 l3 l4 l5 l6 l7 l8 : Option Value) (x y : Int32) (r : List Value) (h : zH), zD 123 2 [l0, l1, l2, l3, l4, l5, l6, l7, l8] (.int y :: .int x :: r) h = if ¬ x = y then zD 123 12 [l0, l1, l2, l3, l4, l5, l6, l7, l8] r h else zD 123 5 [l0, l1, l2, l3, l4, l5, l6, l7, l8] r h) ∧
  (∀ (l1 l2 l3 l4 l5 l6 l7 l8 : Option Value) (x : Nat) (S : List Value) (h : zH), zD 123 5 [some (.ref x), l1, l2, l3, l4, l5, l6, l7, l8] S h = zD 123 6 [some (.ref x), l1, l2, l3, l4, l5, l6, l7, l8] (.ref x :: S) h) ∧
  (∀ (l0 l1 l2 l3 l4 l5 l6 l7 l8 : Option Value) (a : Nat) (r : List Value) (h : zH) (hx : zfok (h.2.2 a) 9 0 = true), zD 123 6 [l0, l1, l2, l3, l4, l5, l6, l7, l8] (.ref a :: r) h = zD 123 9 [l0, l1, l2, l3, l4, l5, l6, l7, l8] (zfv (h.2.2 a) 0 :: r) h) ∧
  (∀ (l0 l1 l2 l3 l4 l5 l6 l7 l8 : Option Value) (S : List Value) (h : zH), zD 123 9 [l0, l1, l2, l3, l4, l5, l6, l7, l8] S h = zD 123 18 [l0, l1, l2, l3, l4, l5, l6, l7, l8] S h) ∧
  (∀ (l1 l2 l3 l4 l5 l6 l7 l8 : Option Value) (x : Nat) (S : List Value) (h : zH), zD 123 12 [some (.ref x), l1, l2, l3, l4, l5, l6, l7, l8] S h = zD 123 13 [some (.ref x), l1, l2, l3, l4, l5, l6, l7, l8] (.ref x :: S) h) ∧
  (∀ (l0 l1 l2 l3 l4 l5 l6 l7 l8 : Option Value) (a : Nat) (r : List Value) (h : zH) (hx : zfok (h.2.2 a) 9 12 = true), zD 123 13 [l0, l1, l2, l3, l4, l5, l6, l7, l8] (.ref a :: r) h = zD 123 16 [l0, l1, l2, l3, l4, l5, l6, l7, l8] (zfv (h.2.2 a) 12 :: r) h) ∧
  (∀ (l0 l2 l3 l4 l5 l6 l7 l8 : Option Value) (x : Int32) (S : List Value) (h : zH), zD 123 16 [l0, some (.int x), l2, l3, l4, l5, l6, l7, l8] S h = zD 123 17 [l0, some (.int x), l2, l3, l4, l5, l6, l7, l8] (.int x :: S) h) ∧
  (∀ (l0 l1 l2 l3 l4 l5 l6 l7 l8 : Option Value) (i : Int32) (a : Nat) (r : List Value) (h : zH) (hx : ziok a (h.2.2 a) i = true), zD 123 17 [l0, l1, l2, l3, l4, l5, l6, l7, l8] (.int i :: .ref a :: r) h = zD 123 18 [l0, l1, l2, l3, l4, l5, l6, l7, l8] (.int (ziv (h.2.2 a) i) :: r) h) ∧
  (∀ (l0 l1 l2 l3 l4 l5 l6 l7 l8 : Option Value) (x : Int32) (r : List Value) (h : zH), zD 123 18 [l0, l1, l2, l3, l4, l5, l6, l7, l8] (.int x :: r) h = zD 123 19 [l0, l1, zclr l2, some (.int x), l4, l5, l6, l7, l8] r h) ∧
  (∀ (l1 l2 l3 l4 l5 l6 l7 l8 : Option Value) (x : Nat) (S : List Value) (h : zH), zD 123 19 [some (.ref x), l1, l2, l3, l4, l5, l6, l7, l8] S h = zD 123 20 [some (.ref x), l1, l2, l3, l4, l5, l6, l7, l8] (.ref x :: S) h) ∧
  (∀ (l0 l2 l3 l4 l5 l6 l7 l8 : Option Value) (x : Int32) (S : List Value) (h : zH), zD 123 20 [l0, some (.int x), l2, l3, l4, l5, l6, l7, l8] S h = zD 123 21 [l0, some (.int x), l2, l3, l4, l5, l6, l7, l8] (.int x :: S) h) ∧
  (∀ (l0 l1 l2 l3 l4 l5 l6 l7 l8 : Option Value) (p0 : Int32) (a : Nat) (r : List Value) (h : zH) (hcat : zcat r ≤ 8) (hr : zis (h.2.2 a) 9 = true) (hC : (zC 28 (.ref a :: [.int p0]) h).isSome = true), zD 123 21 [l0, l1, l2, l3, l4, l5, l6, l7, l8] (.int p0 :: .ref a :: r) h = zD 123 24 [l0, l1, l2, l3, l4, l5, l6, l7, l8] (zgv (zC 28 (.ref a :: [.int p0]) h) ++ r) (zgh h (zC 28 (.ref a :: [.int p0]) h))) ∧
  (∀ (l0 l1 l2 l3 l4 l5 l6 l7 l8 : Option Value) (S : List Value) (h : zH), zD 123 24 [l0, l1, l2, l3, l4, l5, l6, l7, l8] S h = zD 123 25 [l0, l1, l2, l3, l4, l5, l6, l7, l8] (.int (0 : Int32) :: S) h) ∧
  (∀ (l0 l1 l2 l3 l4 l5 l6 l7 l8 : Option Value) (x : Int32) (r : List Value) (h : zH), zD 123 25 [l0, l1, l2, l3, l4, l5, l6, l7, l8] (.int x :: r) h = zD 123 27 [l0, l1, l2, zclr l3, some (.int x), l5, l6, l7, l8] r h) ∧
  (∀ (l0 l1 l2 l3 l4 l5 l6 l7 l8 : Option Value) (S : List Value) (h : zH), zD 123 29 [l0, l1, l2, l3, l4, l5, l6, l7, l8] S h = zD 123 30 [l0, l1, l2, l3, l4, l5, l6, l7, l8] (.int (4 : Int32) :: S) h) ∧
  (∀ (l0 l1 l2 l3 l4 l5 l6 l7 l8 : Option Value) (x y : Int32) (r : List Value) (h : zH), zD 123 30 [l0, l1, l2, l3, l4, l5, l6, l7, l8] (.int y :: .int x :: r) h = if y ≤ x then zD 123 47 [l0, l1, l2, l3, l4, l5, l6, l7, l8] r h else zD 123 33 [l0, l1, l2, l3, l4, l5, l6, l7, l8] r h) ∧
  (∀ (l1 l2 l3 l4 l5 l6 l7 l8 : Option Value) (x : Nat) (S : List Value) (h : zH), zD 123 33 [some (.ref x), l1, l2, l3, l4, l5, l6, l7, l8] S h = zD 123 34 [some (.ref x), l1, l2, l3, l4, l5, l6, l7, l8] (.ref x :: S) h) ∧
  (∀ (l0 l1 l2 l3 l4 l5 l6 l7 l8 : Option Value) (a : Nat) (r : List Value) (h : zH) (hx : zfok (h.2.2 a) 9 21 = true), zD 123 34 [l0, l1, l2, l3, l4, l5, l6, l7, l8] (.ref a :: r) h = zD 123 37 [l0, l1, l2, l3, l4, l5, l6, l7, l8] (zfv (h.2.2 a) 21 :: r) h) ∧
  (∀ (l0 l1 l2 l3 l5 l6 l7 l8 : Option Value) (x : Int32) (S : List Value) (h : zH), zD 123 37 [l0, l1, l2, l3, some (.int x), l5, l6, l7, l8] S h = zD 123 39 [l0, l1, l2, l3, some (.int x), l5, l6, l7, l8] (.int x :: S) h) ∧
  (∀ (l0 l1 l2 l3 l4 l5 l6 l7 l8 : Option Value) (S : List Value) (h : zH), zD 123 39 [l0, l1, l2, l3, l4, l5, l6, l7, l8] S h = zD 123 40 [l0, l1, l2, l3, l4, l5, l6, l7, l8] (.int (0 : Int32) :: S) h) ∧
  (∀ (l0 l1 l2 l3 l4 l5 l6 l7 l8 : Option Value) (w i : Int32) (a : Nat) (r : List Value) (h : zH) (hx : zbok (h.2.2 a) i = true), zD 123 40 [l0, l1, l2, l3, l4, l5, l6, l7, l8] (.int w :: .int i :: .ref a :: r) h = zD 123 41 [l0, l1, l2, l3, l4, l5, l6, l7, l8] r (zw h a (zis' (h.2.2 a) i (vp_nar .boolean w)))) ∧
  (∀ (l0 l1 l2 l3 l5 l6 l7 l8 : Option Value) (x : Int32) (S : List Value) (h : zH), zD 123 41 [l0, l1, l2, l3, some (.int x), l5, l6, l7, l8] S h = zD 123 44 [l0, l1, l2, zclr l3, some (.int (x + (1 : Int32))), l5, l6, l7, l8] S h) ∧
  (∀ (l0 l1 l2 l3 l4 l5 l6 l7 l8 : Option Value) (S : List Value) (h : zH), zD 123 44 [l0, l1, l2, l3, l4, l5, l6, l7, l8] S h = zD 123 27 [l0, l1, l2, l3, l4, l5, l6, l7, l8] S h) ∧
  (∀ (l0 l1 l2 l3 l4 l5 l6 l7 l8 : Option Value) (S : List Value) (h : zH), zD 123 47 [l0, l1, l2, l3, l4, l5, l6, l7, l8] S h = zD 123 48 [l0, l1, l2, l3, l4, l5, l6, l7, l8] (.int (0 : Int32) :: S) h) ∧
  (∀ (l0 l1 l2 l3 l4 l5 l6 l7 l8 : Option Value) (x : Int32) (r : List Value) (h : zH), zD 123 48 [l0, l1, l2, l3, l4, l5, l6, l7, l8] (.int x :: r) h = zD 123 50 [l0, l1, l2, zclr l3, some (.int x), l5, l6, l7, l8] r h) ∧
  (∀ (l1 l2 l3 l4 l5 l6 l7 l8 : Option Value) (x : Nat) (S : List Value) (h : zH), zD 123 52 [some (.ref x), l1, l2, l3, l4, l5, l6, l7, l8] S h = zD 123 53 [some (.ref x), l1, l2, l3, l4, l5, l6, l7, l8] (.ref x :: S) h) ∧
  (∀ (l0 l1 l2 l3 l4 l5 l6 l7 l8 : Option Value) (a : Nat) (r : List Value) (h : zH) (hx : zfok (h.2.2 a) 9 15 = true), zD 123 53 [l0, l1, l2, l3, l4, l5, l6, l7, l8] (.ref a :: r) h = zD 123 56 [l0, l1, l2, l3, l4, l5, l6, l7, l8] (zfv (h.2.2 a) 15 :: r) h) ∧
  (∀ (l0 l1 l2 l3 l4 l5 l6 l7 l8 : Option Value) (x y : Int32) (r : List Value) (h : zH), zD 123 56 [l0, l1, l2, l3, l4, l5, l6, l7, l8] (.int y :: .int x :: r) h = if y ≤ x then zD 123 102 [l0, l1, l2, l3, l4, l5, l6, l7, l8] r h else zD 123 59 [l0, l1, l2, l3, l4, l5, l6, l7, l8] r h) ∧
  (∀ (l1 l2 l3 l4 l5 l6 l7 l8 : Option Value) (x : Nat) (S : List Value) (h : zH), zD 123 59 [some (.ref x), l1, l2, l3, l4, l5, l6, l7, l8] S h = zD 123 60 [some (.ref x), l1, l2, l3, l4, l5, l6, l7, l8] (.ref x :: S) h) ∧
  (∀ (l0 l1 l2 l3 l4 l5 l6 l7 l8 : Option Value) (a : Nat) (r : List Value) (h : zH) (hx : zfok (h.2.2 a) 9 21 = true), zD 123 60 [l0, l1, l2, l3, l4, l5, l6, l7, l8] (.ref a :: r) h = zD 123 63 [l0, l1, l2, l3, l4, l5, l6, l7, l8] (zfv (h.2.2 a) 21 :: r) h) ∧
  (∀ (l1 l2 l3 l4 l5 l6 l7 l8 : Option Value) (x : Nat) (S : List Value) (h : zH), zD 123 63 [some (.ref x), l1, l2, l3, l4, l5, l6, l7, l8] S h = zD 123 64 [some (.ref x), l1, l2, l3, l4, l5, l6, l7, l8] (.ref x :: S) h) ∧
  (∀ (l0 l1 l2 l3 l4 l5 l6 l7 l8 : Option Value) (a : Nat) (r : List Value) (h : zH) (hx : zfok (h.2.2 a) 9 17 = true), zD 123 64 [l0, l1, l2, l3, l4, l5, l6, l7, l8] (.ref a :: r) h = zD 123 67 [l0, l1, l2, l3, l4, l5, l6, l7, l8] (zfv (h.2.2 a) 17 :: r) h) ∧
  (∀ (l0 l1 l2 l3 l5 l6 l7 l8 : Option Value) (x : Int32) (S : List Value) (h : zH), zD 123 67 [l0, l1, l2, l3, some (.int x), l5, l6, l7, l8] S h = zD 123 69 [l0, l1, l2, l3, some (.int x), l5, l6, l7, l8] (.int x :: S) h) ∧
  (∀ (l0 l1 l2 l3 l4 l5 l6 l7 l8 : Option Value) (i : Int32) (a : Nat) (r : List Value) (h : zH) (hx : ziok a (h.2.2 a) i = true), zD 123 69 [l0, l1, l2, l3, l4, l5, l6, l7, l8] (.int i :: .ref a :: r) h = zD 123 70 [l0, l1, l2, l3, l4, l5, l6, l7, l8] (.int (ziv (h.2.2 a) i) :: r) h) ∧
  (∀ (l0 l1 l2 l3 l4 l5 l6 l7 l8 : Option Value) (S : List Value) (h : zH), zD 123 70 [l0, l1, l2, l3, l4, l5, l6, l7, l8] S h = zD 123 71 [l0, l1, l2, l3, l4, l5, l6, l7, l8] (.int (1 : Int32) :: S) h) ∧
  (∀ (l0 l1 l2 l3 l4 l5 l6 l7 l8 : Option Value) (w i : Int32) (a : Nat) (r : List Value) (h : zH) (hx : zbok (h.2.2 a) i = true), zD 123 71 [l0, l1, l2, l3, l4, l5, l6, l7, l8] (.int w :: .int i :: .ref a :: r) h = zD 123 72 [l0, l1, l2, l3, l4, l5, l6, l7, l8] r (zw h a (zis' (h.2.2 a) i (vp_nar .boolean w)))) ∧
  (∀ (l1 l2 l3 l4 l5 l6 l7 l8 : Option Value) (x : Nat) (S : List Value) (h : zH), zD 123 72 [some (.ref x), l1, l2, l3, l4, l5, l6, l7, l8] S h = zD 123 73 [some (.ref x), l1, l2, l3, l4, l5, l6, l7, l8] (.ref x :: S) h) ∧
  (∀ (l0 l1 l2 l3 l4 l5 l6 l7 l8 : Option Value) (a : Nat) (r : List Value) (h : zH) (hx : zfok (h.2.2 a) 9 16 = true), zD 123 73 [l0, l1, l2, l3, l4, l5, l6, l7, l8] (.ref a :: r) h = zD 123 76 [l0, l1, l2, l3, l4, l5, l6, l7, l8] (zfv (h.2.2 a) 16 :: r) h) ∧
  (∀ (l0 l1 l2 l3 l5 l6 l7 l8 : Option Value) (x : Int32) (S : List Value) (h : zH), zD 123 76 [l0, l1, l2, l3, some (.int x), l5, l6, l7, l8] S h = zD 123 78 [l0, l1, l2, l3, some (.int x), l5, l6, l7, l8] (.int x :: S) h) ∧
  (∀ (l0 l1 l2 l3 l4 l5 l6 l7 l8 : Option Value) (i : Int32) (a : Nat) (r : List Value) (h : zH) (hx : ziok a (h.2.2 a) i = true), zD 123 78 [l0, l1, l2, l3, l4, l5, l6, l7, l8] (.int i :: .ref a :: r) h = zD 123 79 [l0, l1, l2, l3, l4, l5, l6, l7, l8] (.int (ziv (h.2.2 a) i) :: r) h) ∧
  (∀ (l0 l1 l2 l3 l4 l5 l6 l7 l8 : Option Value) (S : List Value) (h : zH), zD 123 79 [l0, l1, l2, l3, l4, l5, l6, l7, l8] S h = zD 123 80 [l0, l1, l2, l3, l4, l5, l6, l7, l8] (.int (3 : Int32) :: S) h) ∧
  (∀ (l0 l1 l2 l3 l4 l5 l6 l7 l8 : Option Value) (x y : Int32) (r : List Value) (h : zH), zD 123 80 [l0, l1, l2, l3, l4, l5, l6, l7, l8] (.int y :: .int x :: r) h = if x = y then zD 123 96 [l0, l1, l2, l3, l4, l5, l6, l7, l8] r h else zD 123 83 [l0, l1, l2, l3, l4, l5, l6, l7, l8] r h) ∧
  (∀ (l1 l2 l3 l4 l5 l6 l7 l8 : Option Value) (x : Nat) (S : List Value) (h : zH), zD 123 83 [some (.ref x), l1, l2, l3, l4, l5, l6, l7, l8] S h = zD 123 84 [some (.ref x), l1, l2, l3, l4, l5, l6, l7, l8] (.ref x :: S) h) ∧
  (∀ (l0 l1 l2 l3 l4 l5 l6 l7 l8 : Option Value) (a : Nat) (r : List Value) (h : zH) (hx : zfok (h.2.2 a) 9 21 = true), zD 123 84 [l0, l1, l2, l3, l4, l5, l6, l7, l8] (.ref a :: r) h = zD 123 87 [l0, l1, l2, l3, l4, l5, l6, l7, l8] (zfv (h.2.2 a) 21 :: r) h) ∧
  (∀ (l1 l2 l3 l4 l5 l6 l7 l8 : Option Value) (x : Nat) (S : List Value) (h : zH), zD 123 87 [some (.ref x), l1, l2, l3, l4, l5, l6, l7, l8] S h = zD 123 88 [some (.ref x), l1, l2, l3, l4, l5, l6, l7, l8] (.ref x :: S) h) ∧
  (∀ (l0 l1 l2 l3 l4 l5 l6 l7 l8 : Option Value) (a : Nat) (r : List Value) (h : zH) (hx : zfok (h.2.2 a) 9 18 = true), zD 123 88 [l0, l1, l2, l3, l4, l5, l6, l7, l8] (.ref a :: r) h = zD 123 91 [l0, l1, l2, l3, l4, l5, l6, l7, l8] (zfv (h.2.2 a) 18 :: r) h) ∧
  (∀ (l0 l1 l2 l3 l5 l6 l7 l8 : Option Value) (x : Int32) (S : List Value) (h : zH), zD 123 91 [l0, l1, l2, l3, some (.int x), l5, l6, l7, l8] S h = zD 123 93 [l0, l1, l2, l3, some (.int x), l5, l6, l7, l8] (.int x :: S) h) ∧
  (∀ (l0 l1 l2 l3 l4 l5 l6 l7 l8 : Option Value) (i : Int32) (a : Nat) (r : List Value) (h : zH) (hx : ziok a (h.2.2 a) i = true), zD 123 93 [l0, l1, l2, l3, l4, l5, l6, l7, l8] (.int i :: .ref a :: r) h = zD 123 94 [l0, l1, l2, l3, l4, l5, l6, l7, l8] (.int (ziv (h.2.2 a) i) :: r) h) ∧
  (∀ (l0 l1 l2 l3 l4 l5 l6 l7 l8 : Option Value) (S : List Value) (h : zH), zD 123 94 [l0, l1, l2, l3, l4, l5, l6, l7, l8] S h = zD 123 95 [l0, l1, l2, l3, l4, l5, l6, l7, l8] (.int (1 : Int32) :: S) h) ∧
  (∀ (l0 l1 l2 l3 l4 l5 l6 l7 l8 : Option Value) (w i : Int32) (a : Nat) (r : List Value) (h : zH) (hx : zbok (h.2.2 a) i = true), zD 123 95 [l0, l1, l2, l3, l4, l5, l6, l7, l8] (.int w :: .int i :: .ref a :: r) h = zD 123 96 [l0, l1, l2, l3, l4, l5, l6, l7, l8] r (zw h a (zis' (h.2.2 a) i (vp_nar .boolean w)))) ∧
  (∀ (l0 l1 l2 l3 l5 l6 l7 l8 : Option Value) (x : Int32) (S : List Value) (h : zH), zD 123 96 [l0, l1, l2, l3, some (.int x), l5, l6, l7, l8] S h = zD 123 99 [l0, l1, l2, zclr l3, some (.int (x + (1 : Int32))), l5, l6, l7, l8] S h) ∧
  (∀ (l0 l1 l2 l3 l4 l5 l6 l7 l8 : Option Value) (S : List Value) (h : zH), zD 123 99 [l0, l1, l2, l3, l4, l5, l6, l7, l8] S h = zD 123 50 [l0, l1, l2, l3, l4, l5, l6, l7, l8] S h) ∧
  (∀ (l0 l1 l2 l3 l4 l5 l6 l7 l8 : Option Value) (S : List Value) (h : zH), zD 123 102 [l0, l1, l2, l3, l4, l5, l6, l7, l8] S h = zD 123 103 [l0, l1, l2, l3, l4, l5, l6, l7, l8] (.int (1 : Int32) :: S) h) ∧
  (∀ (l0 l1 l2 l3 l4 l5 l6 l7 l8 : Option Value) (x : Int32) (r : List Value) (h : zH), zD 123 103 [l0, l1, l2, l3, l4, l5, l6, l7, l8] (.int x :: r) h = zD 123 105 [l0, l1, l2, zclr l3, some (.int x), l5, l6, l7, l8] r h) ∧
  (∀ (l0 l1 l2 l3 l4 l5 l6 l7 l8 : Option Value) (S : List Value) (h : zH), zD 123 105 [l0, l1, l2, l3, l4, l5, l6, l7, l8] S h = zD 123 106 [l0, l1, l2, l3, l4, l5, l6, l7, l8] (.int (0 : Int32) :: S) h) ∧
  (∀ (l0 l1 l2 l3 l4 l5 l6 l7 l8 : Option Value) (x : Int32) (r : List Value) (h : zH), zD 123 106 [l0, l1, l2, l3, l4, l5, l6, l7, l8] (.int x :: r) h = zD 123 108 [l0, l1, l2, l3, zclr l4, some (.int x), l6, l7, l8] r h) ∧
  (∀ (l0 l1 l2 l3 l4 l5 l6 l7 l8 : Option Value) (S : List Value) (h : zH), zD 123 110 [l0, l1, l2, l3, l4, l5, l6, l7, l8] S h = zD 123 111 [l0, l1, l2, l3, l4, l5, l6, l7, l8] (.int (4 : Int32) :: S) h) ∧
  (∀ (l0 l1 l2 l3 l4 l5 l6 l7 l8 : Option Value) (x y : Int32) (r : List Value) (h : zH), zD 123 111 [l0, l1, l2, l3, l4, l5, l6, l7, l8] (.int y :: .int x :: r) h = if y ≤ x then zD 123 140 [l0, l1, l2, l3, l4, l5, l6, l7, l8] r h else zD 123 114 [l0, l1, l2, l3, l4, l5, l6, l7, l8] r h) ∧
  (∀ (l0 l1 l2 l3 l5 l6 l7 l8 : Option Value) (x : Int32) (S : List Value) (h : zH), zD 123 114 [l0, l1, l2, l3, some (.int x), l5, l6, l7, l8] S h = zD 123 116 [l0, l1, l2, l3, some (.int x), l5, l6, l7, l8] (.int x :: S) h) ∧
  (∀ (l1 l2 l3 l4 l5 l6 l7 l8 : Option Value) (x : Nat) (S : List Value) (h : zH), zD 123 116 [some (.ref x), l1, l2, l3, l4, l5, l6, l7, l8] S h = zD 123 117 [some (.ref x), l1, l2, l3, l4, l5, l6, l7, l8] (.ref x :: S) h) ∧
  (∀ (l0 l1 l2 l3 l4 l5 l6 l7 l8 : Option Value) (a : Nat) (r : List Value) (h : zH) (hx : zfok (h.2.2 a) 9 21 = true), zD 123 117 [l0, l1, l2, l3, l4, l5, l6, l7, l8] (.ref a :: r) h = zD 123 120 [l0, l1, l2, l3, l4, l5, l6, l7, l8] (zfv (h.2.2 a) 21 :: r) h) ∧
  (∀ (l0 l1 l2 l3 l4 l6 l7 l8 : Option Value) (x : Int32) (S : List Value) (h : zH), zD 123 120 [l0, l1, l2, l3, l4, some (.int x), l6, l7, l8] S h = zD 123 122 [l0, l1, l2, l3, l4, some (.int x), l6, l7, l8] (.int x :: S) h) ∧
  (∀ (l0 l1 l2 l3 l4 l5 l6 l7 l8 : Option Value) (i : Int32) (a : Nat) (r : List Value) (h : zH) (hx : zbok (h.2.2 a) i = true), zD 123 122 [l0, l1, l2, l3, l4, l5, l6, l7, l8] (.int i :: .ref a :: r) h = zD 123 123 [l0, l1, l2, l3, l4, l5, l6, l7, l8] (.int (ziv (h.2.2 a) i) :: r) h) ∧
  (∀ (l0 l1 l2 l3 l4 l5 l6 l7 l8 : Option Value) (x : Int32) (r : List Value) (h : zH), zD 123 123 [l0, l1, l2, l3, l4, l5, l6, l7, l8] (.int x :: r) h = if x = 0 then zD 123 130 [l0, l1, l2, l3, l4, l5, l6, l7, l8] r h else zD 123 126 [l0, l1, l2, l3, l4, l5, l6, l7, l8] r h) ∧
  (∀ (l0 l1 l2 l4 l5 l6 l7 l8 : Option Value) (x : Int32) (S : List Value) (h : zH), zD 123 126 [l0, l1, l2, some (.int x), l4, l5, l6, l7, l8] S h = zD 123 127 [l0, l1, l2, some (.int x), l4, l5, l6, l7, l8] (.int x :: S) h) ∧
  (∀ (l0 l1 l2 l3 l4 l5 l6 l7 l8 : Option Value) (S : List Value) (h : zH), zD 123 127 [l0, l1, l2, l3, l4, l5, l6, l7, l8] S h = zD 123 131 [l0, l1, l2, l3, l4, l5, l6, l7, l8] S h) ∧
  (∀ (l0 l1 l2 l3 l4 l5 l6 l7 l8 : Option Value) (S : List Value) (h : zH), zD 123 130 [l0, l1, l2, l3, l4, l5, l6, l7, l8] S h = zD 123 131 [l0, l1, l2, l3, l4, l5, l6, l7, l8] (.int (1 : Int32) :: S) h) ∧
  (∀ (l0 l1 l2 l3 l4 l5 l6 l7 l8 : Option Value) (x y : Int32) (r : List Value) (h : zH), zD 123 131 [l0, l1, l2, l3, l4, l5, l6, l7, l8] (.int y :: .int x :: r) h = zD 123 132 [l0, l1, l2, l3, l4, l5, l6, l7, l8] (.int (x * y) :: r) h) ∧
  (∀ (l0 l1 l2 l3 l4 l5 l6 l7 l8 : Option Value) (x : Int32) (r : List Value) (h : zH), zD 123 132 [l0, l1, l2, l3, l4, l5, l6, l7, l8] (.int x :: r) h = zD 123 134 [l0, l1, l2, zclr l3, some (.int x), l5, l6, l7, l8] r h) ∧
  (∀ (l0 l1 l2 l3 l4 l6 l7 l8 : Option Value) (x : Int32) (S : List Value) (h : zH), zD 123 134 [l0, l1, l2, l3, l4, some (.int x), l6, l7, l8] S h = zD 123 137 [l0, l1, l2, l3, zclr l4, some (.int (x + (1 : Int32))), l6, l7, l8] S h) ∧
  (∀ (l0 l1 l2 l3 l4 l5 l6 l7 l8 : Option Value) (S : List Value) (h : zH), zD 123 137 [l0, l1, l2, l3, l4, l5, l6, l7, l8] S h = zD 123 108 [l0, l1, l2, l3, l4, l5, l6, l7, l8] S h) ∧
  (∀ (l1 l2 l3 l4 l5 l6 l7 l8 : Option Value) (x : Nat) (S : List Value) (h : zH), zD 123 140 [some (.ref x), l1, l2, l3, l4, l5, l6, l7, l8] S h = zD 123 141 [some (.ref x), l1, l2, l3, l4, l5, l6, l7, l8] (.ref x :: S) h) ∧
  (∀ (l0 l1 l2 l3 l4 l5 l6 l7 l8 : Option Value) (S : List Value) (h : zH), zD 123 141 [l0, l1, l2, l3, l4, l5, l6, l7, l8] S h = zD 123 142 [l0, l1, l2, l3, l4, l5, l6, l7, l8] (.int (0 : Int32) :: S) h) ∧
  (∀ (l0 l1 l2 l3 l4 l5 l6 l7 l8 : Option Value) (v : Int32) (a : Nat) (r : List Value) (h : zH) (hx : zfok (h.2.2 a) 9 22 = true), zD 123 142 [l0, l1, l2, l3, l4, l5, l6, l7, l8] (.int v :: .ref a :: r) h = zD 123 145 [l0, l1, l2, l3, l4, l5, l6, l7, l8] r (zw h a (zfs' (h.2.2 a) 22 (.int v)))) ∧
  (∀ (l0 l1 l2 l3 l4 l5 l6 l7 l8 : Option Value) (S : List Value) (h : zH), zD 123 145 [l0, l1, l2, l3, l4, l5, l6, l7, l8] S h = zD 123 146 [l0, l1, l2, l3, l4, l5, l6, l7, l8] (.int (-1 : Int32) :: S) h) ∧
  (∀ (l0 l1 l2 l3 l4 l5 l6 l7 l8 : Option Value) (x : Int32) (r : List Value) (h : zH), zD 123 146 [l0, l1, l2, l3, l4, l5, l6, l7, l8] (.int x :: r) h = zD 123 148 [l0, l1, l2, l3, zclr l4, some (.int x), l6, l7, l8] r h) ∧
  (∀ (l0 l1 l2 l3 l4 l5 l6 l7 l8 : Option Value) (S : List Value) (h : zH), zD 123 148 [l0, l1, l2, l3, l4, l5, l6, l7, l8] S h = zD 123 149 [l0, l1, l2, l3, l4, l5, l6, l7, l8] (.int (0 : Int32) :: S) h) ∧
  (∀ (l0 l1 l2 l3 l4 l5 l6 l7 l8 : Option Value) (x : Int32) (r : List Value) (h : zH), zD 123 149 [l0, l1, l2, l3, l4, l5, l6, l7, l8] (.int x :: r) h = zD 123 151 [l0, l1, l2, l3, l4, zclr l5, some (.int x), l7, l8] r h) ∧
  (∀ (l0 l1 l2 l3 l5 l6 l7 l8 : Option Value) (x : Int32) (S : List Value) (h : zH), zD 123 153 [l0, l1, l2, l3, some (.int x), l5, l6, l7, l8] S h = zD 123 155 [l0, l1, l2, l3, some (.int x), l5, l6, l7, l8] (.int x :: S) h) ∧
  (∀ (l0 l1 l2 l3 l4 l5 l6 l7 l8 : Option Value) (x y : Int32) (r : List Value) (h : zH), zD 123 155 [l0, l1, l2, l3, l4, l5, l6, l7, l8] (.int y :: .int x :: r) h = if y ≤ x then zD 123 300 [l0, l1, l2, l3, l4, l5, l6, l7, l8] r h else zD 123 158 [l0, l1, l2, l3, l4, l5, l6, l7, l8] r h) ∧
  (∀ (l0 l1 l2 l3 l4 l5 l7 l8 : Option Value) (x : Int32) (S : List Value) (h : zH), zD 123 158 [l0, l1, l2, l3, l4, l5, some (.int x), l7, l8] S h = zD 123 160 [l0, l1, l2, l3, l4, l5, some (.int x), l7, l8] (.int x :: S) h) ∧
  (∀ (l0 l1 l2 l3 l4 l5 l6 l7 l8 : Option Value) (x : Int32) (r : List Value) (h : zH), zD 123 160 [l0, l1, l2, l3, l4, l5, l6, l7, l8] (.int x :: r) h = zD 123 162 [l0, l1, l2, l3, l4, l5, zclr l6, some (.int x), l8] r h) ∧
  (∀ (l0 l1 l2 l3 l4 l5 l6 l7 l8 : Option Value) (S : List Value) (h : zH), zD 123 162 [l0, l1, l2, l3, l4, l5, l6, l7, l8] S h = zD 123 163 [l0, l1, l2, l3, l4, l5, l6, l7, l8] (.int (3 : Int32) :: S) h) ∧
  (∀ (l0 l1 l2 l3 l4 l5 l6 l7 l8 : Option Value) (x : Int32) (r : List Value) (h : zH), zD 123 163 [l0, l1, l2, l3, l4, l5, l6, l7, l8] (.int x :: r) h = zD 123 165 [l0, l1, l2, l3, l4, l5, l6, zclr l7, some (.int x)] r h) ∧
  (∀ (l0 l1 l2 l3 l4 l5 l6 l7 l8 : Option Value) (x : Int32) (r : List Value) (h : zH), zD 123 167 [l0, l1, l2, l3, l4, l5, l6, l7, l8] (.int x :: r) h = if x < 0 then zD 123 224 [l0, l1, l2, l3, l4, l5, l6, l7, l8] r h else zD 123 170 [l0, l1, l2, l3, l4, l5, l6, l7, l8] r h) ∧
  (∀ (l1 l2 l3 l4 l5 l6 l7 l8 : Option Value) (x : Nat) (S : List Value) (h : zH), zD 123 170 [some (.ref x), l1, l2, l3, l4, l5, l6, l7, l8] S h = zD 123 171 [some (.ref x), l1, l2, l3, l4, l5, l6, l7, l8] (.ref x :: S) h) ∧
  (∀ (l0 l1 l2 l3 l4 l5 l6 l7 l8 : Option Value) (a : Nat) (r : List Value) (h : zH) (hx : zfok (h.2.2 a) 9 20 = true), zD 123 171 [l0, l1, l2, l3, l4, l5, l6, l7, l8] (.ref a :: r) h = zD 123 174 [l0, l1, l2, l3, l4, l5, l6, l7, l8] (zfv (h.2.2 a) 20 :: r) h) ∧
  (∀ (l0 l1 l2 l3 l4 l5 l6 l7 : Option Value) (x : Int32) (S : List Value) (h : zH), zD 123 174 [l0, l1, l2, l3, l4, l5, l6, l7, some (.int x)] S h = zD 123 176 [l0, l1, l2, l3, l4, l5, l6, l7, some (.int x)] (.int x :: S) h) ∧
  (∀ (l1 l2 l3 l4 l5 l6 l7 l8 : Option Value) (x : Nat) (S : List Value) (h : zH), zD 123 176 [some (.ref x), l1, l2, l3, l4, l5, l6, l7, l8] S h = zD 123 177 [some (.ref x), l1, l2, l3, l4, l5, l6, l7, l8] (.ref x :: S) h) ∧
  (∀ (l0 l1 l2 l3 l4 l5 l6 l7 l8 : Option Value) (a : Nat) (r : List Value) (h : zH) (hx : zfok (h.2.2 a) 9 21 = true), zD 123 177 [l0, l1, l2, l3, l4, l5, l6, l7, l8] (.ref a :: r) h = zD 123 180 [l0, l1, l2, l3, l4, l5, l6, l7, l8] (zfv (h.2.2 a) 21 :: r) h) ∧
  (∀ (l0 l1 l2 l3 l4 l5 l6 l7 : Option Value) (x : Int32) (S : List Value) (h : zH), zD 123 180 [l0, l1, l2, l3, l4, l5, l6, l7, some (.int x)] S h = zD 123 182 [l0, l1, l2, l3, l4, l5, l6, l7, some (.int x)] (.int x :: S) h) ∧
  (∀ (l0 l1 l2 l3 l4 l5 l6 l7 l8 : Option Value) (i : Int32) (a : Nat) (r : List Value) (h : zH) (hx : zbok (h.2.2 a) i = true), zD 123 182 [l0, l1, l2, l3, l4, l5, l6, l7, l8] (.int i :: .ref a :: r) h = zD 123 183 [l0, l1, l2, l3, l4, l5, l6, l7, l8] (.int (ziv (h.2.2 a) i) :: r) h) ∧
  (∀ (l0 l1 l2 l3 l4 l5 l6 l7 l8 : Option Value) (x : Int32) (r : List Value) (h : zH), zD 123 183 [l0, l1, l2, l3, l4, l5, l6, l7, l8] (.int x :: r) h = if x = 0 then zD 123 195 [l0, l1, l2, l3, l4, l5, l6, l7, l8] r h else zD 123 186 [l0, l1, l2, l3, l4, l5, l6, l7, l8] r h) ∧
  (∀ (l0 l1 l2 l3 l4 l5 l6 l8 : Option Value) (x : Int32) (S : List Value) (h : zH), zD 123 186 [l0, l1, l2, l3, l4, l5, l6, some (.int x), l8] S h = zD 123 188 [l0, l1, l2, l3, l4, l5, l6, some (.int x), l8] (.int x :: S) h) ∧
  (∀ (l0 l1 l2 l4 l5 l6 l7 l8 : Option Value) (x : Int32) (S : List Value) (h : zH), zD 123 188 [l0, l1, l2, some (.int x), l4, l5, l6, l7, l8] S h = zD 123 189 [l0, l1, l2, some (.int x), l4, l5, l6, l7, l8] (.int x :: S) h) ∧
  (∀ (l0 l1 l2 l3 l4 l5 l6 l7 l8 : Option Value) (x y : Int32) (r : List Value) (h : zH) (hy : ¬ y = 0), zD 123 189 [l0, l1, l2, l3, l4, l5, l6, l7, l8] (.int y :: .int x :: r) h = zD 123 190 [l0, l1, l2, l3, l4, l5, l6, l7, l8] (.int (x - x / y * y) :: r) h) ∧
  (∀ (l0 l1 l2 l3 l4 l5 l6 l7 l8 : Option Value) (S : List Value) (h : zH), zD 123 190 [l0, l1, l2, l3, l4, l5, l6, l7, l8] S h = zD 123 191 [l0, l1, l2, l3, l4, l5, l6, l7, l8] (.int (1 : Int32) :: S) h) ∧
  (∀ (l0 l1 l2 l3 l4 l5 l6 l7 l8 : Option Value) (x y : Int32) (r : List Value) (h : zH), zD 123 191 [l0, l1, l2, l3, l4, l5, l6, l7, l8] (.int y :: .int x :: r) h = zD 123 192 [l0, l1, l2, l3, l4, l5, l6, l7, l8] (.int (x + y) :: r) h) ∧
  (∀ (l0 l1 l2 l3 l4 l5 l6 l7 l8 : Option Value) (S : List Value) (h : zH), zD 123 192 [l0, l1, l2, l3, l4, l5, l6, l7, l8] S h = zD 123 196 [l0, l1, l2, l3, l4, l5, l6, l7, l8] S h) ∧
  (∀ (l0 l1 l2 l3 l4 l5 l6 l7 l8 : Option Value) (S : List Value) (h : zH), zD 123 195 [l0, l1, l2, l3, l4, l5, l6, l7, l8] S h = zD 123 196 [l0, l1, l2, l3, l4, l5, l6, l7, l8] (.int (0 : Int32) :: S) h) ∧
  (∀ (l0 l1 l2 l3 l4 l5 l6 l7 l8 : Option Value) (w i : Int32) (a : Nat) (r : List Value) (h : zH) (hx : zpok (h.2.2 a) i = true), zD 123 196 [l0, l1, l2, l3, l4, l5, l6, l7, l8] (.int w :: .int i :: .ref a :: r) h = zD 123 197 [l0, l1, l2, l3, l4, l5, l6, l7, l8] r (zw h a (zis' (h.2.2 a) i w))) ∧
  (∀ (l1 l2 l3 l4 l5 l6 l7 l8 : Option Value) (x : Nat) (S : List Value) (h : zH), zD 123 197 [some (.ref x), l1, l2, l3, l4, l5, l6, l7, l8] S h = zD 123 198 [some (.ref x), l1, l2, l3, l4, l5, l6, l7, l8] (.ref x :: S) h) ∧
  (∀ (l0 l1 l2 l3 l4 l5 l6 l7 l8 : Option Value) (a : Nat) (r : List Value) (h : zH) (hx : zfok (h.2.2 a) 9 21 = true), zD 123 198 [l0, l1, l2, l3, l4, l5, l6, l7, l8] (.ref a :: r) h = zD 123 201 [l0, l1, l2, l3, l4, l5, l6, l7, l8] (zfv (h.2.2 a) 21 :: r) h) ∧
  (∀ (l0 l1 l2 l3 l4 l5 l6 l7 : Option Value) (x : Int32) (S : List Value) (h : zH), zD 123 201 [l0, l1, l2, l3, l4, l5, l6, l7, some (.int x)] S h = zD 123 203 [l0, l1, l2, l3, l4, l5, l6, l7, some (.int x)] (.int x :: S) h) ∧
  (∀ (l0 l1 l2 l3 l4 l5 l6 l7 l8 : Option Value) (i : Int32) (a : Nat) (r : List Value) (h : zH) (hx : zbok (h.2.2 a) i = true), zD 123 203 [l0, l1, l2, l3, l4, l5, l6, l7, l8] (.int i :: .ref a :: r) h = zD 123 204 [l0, l1, l2, l3, l4, l5, l6, l7, l8] (.int (ziv (h.2.2 a) i) :: r) h) ∧
  (∀ (l0 l1 l2 l3 l4 l5 l6 l7 l8 : Option Value) (x : Int32) (r : List Value) (h : zH), zD 123 204 [l0, l1, l2, l3, l4, l5, l6, l7, l8] (.int x :: r) h = if x = 0 then zD 123 214 [l0, l1, l2, l3, l4, l5, l6, l7, l8] r h else zD 123 207 [l0, l1, l2, l3, l4, l5, l6, l7, l8] r h) ∧
  (∀ (l0 l1 l2 l3 l4 l5 l6 l8 : Option Value) (x : Int32) (S : List Value) (h : zH), zD 123 207 [l0, l1, l2, l3, l4, l5, l6, some (.int x), l8] S h = zD 123 209 [l0, l1, l2, l3, l4, l5, l6, some (.int x), l8] (.int x :: S) h) ∧
  (∀ (l0 l1 l2 l4 l5 l6 l7 l8 : Option Value) (x : Int32) (S : List Value) (h : zH), zD 123 209 [l0, l1, l2, some (.int x), l4, l5, l6, l7, l8] S h = zD 123 210 [l0, l1, l2, some (.int x), l4, l5, l6, l7, l8] (.int x :: S) h) ∧
  (∀ (l0 l1 l2 l3 l4 l5 l6 l7 l8 : Option Value) (x y : Int32) (r : List Value) (h : zH) (hy : ¬ y = 0), zD 123 210 [l0, l1, l2, l3, l4, l5, l6, l7, l8] (.int y :: .int x :: r) h = zD 123 211 [l0, l1, l2, l3, l4, l5, l6, l7, l8] (.int (x / y) :: r) h) ∧
  (∀ (l0 l1 l2 l3 l4 l5 l6 l7 l8 : Option Value) (S : List Value) (h : zH), zD 123 211 [l0, l1, l2, l3, l4, l5, l6, l7, l8] S h = zD 123 216 [l0, l1, l2, l3, l4, l5, l6, l7, l8] S h) ∧
  (∀ (l0 l1 l2 l3 l4 l5 l6 l8 : Option Value) (x : Int32) (S : List Value) (h : zH), zD 123 214 [l0, l1, l2, l3, l4, l5, l6, some (.int x), l8] S h = zD 123 216 [l0, l1, l2, l3, l4, l5, l6, some (.int x), l8] (.int x :: S) h) ∧
  (∀ (l0 l1 l2 l3 l4 l5 l6 l7 l8 : Option Value) (x : Int32) (r : List Value) (h : zH), zD 123 216 [l0, l1, l2, l3, l4, l5, l6, l7, l8] (.int x :: r) h = zD 123 218 [l0, l1, l2, l3, l4, l5, zclr l6, some (.int x), l8] r h) ∧
  (∀ (l0 l1 l2 l3 l4 l5 l6 l7 : Option Value) (x : Int32) (S : List Value) (h : zH), zD 123 218 [l0, l1, l2, l3, l4, l5, l6, l7, some (.int x)] S h = zD 123 221 [l0, l1, l2, l3, l4, l5, l6, zclr l7, some (.int (x + (-1 : Int32)))] S h) ∧
  (∀ (l0 l1 l2 l3 l4 l5 l6 l7 l8 : Option Value) (S : List Value) (h : zH), zD 123 221 [l0, l1, l2, l3, l4, l5, l6, l7, l8] S h = zD 123 165 [l0, l1, l2, l3, l4, l5, l6, l7, l8] S h) ∧
  (∀ (l1 l2 l3 l4 l5 l6 l7 l8 : Option Value) (x : Nat) (S : List Value) (h : zH), zD 123 224 [some (.ref x), l1, l2, l3, l4, l5, l6, l7, l8] S h = zD 123 225 [some (.ref x), l1, l2, l3, l4, l5, l6, l7, l8] (.ref x :: S) h) ∧
  (∀ (l0 l2 l3 l4 l5 l6 l7 l8 : Option Value) (x : Int32) (S : List Value) (h : zH), zD 123 225 [l0, some (.int x), l2, l3, l4, l5, l6, l7, l8] S h = zD 123 226 [l0, some (.int x), l2, l3, l4, l5, l6, l7, l8] (.int x :: S) h) ∧
  (∀ (l0 l1 l2 l3 l4 l5 l6 l7 l8 : Option Value) (p0 : Int32) (a : Nat) (r : List Value) (h : zH) (hcat : zcat r ≤ 8) (hr : zis (h.2.2 a) 9 = true) (hC : (zC 85 (.ref a :: [.int p0]) h).isSome = true), zD 123 226 [l0, l1, l2, l3, l4, l5, l6, l7, l8] (.int p0 :: .ref a :: r) h = zD 123 229 [l0, l1, l2, l3, l4, l5, l6, l7, l8] (zgv (zC 85 (.ref a :: [.int p0]) h) ++ r) (zgh h (zC 85 (.ref a :: [.int p0]) h))) ∧
  (∀ (l0 l1 l2 l3 l4 l5 l6 l7 l8 : Option Value) (x : Int32) (r : List Value) (h : zH), zD 123 229 [l0, l1, l2, l3, l4, l5, l6, l7, l8] (.int x :: r) h = if x = 0 then zD 123 294 [l0, l1, l2, l3, l4, l5, l6, l7, l8] r h else zD 123 232 [l0, l1, l2, l3, l4, l5, l6, l7, l8] r h) ∧
  (∀ (l1 l2 l3 l4 l5 l6 l7 l8 : Option Value) (x : Nat) (S : List Value) (h : zH), zD 123 232 [some (.ref x), l1, l2, l3, l4, l5, l6, l7, l8] S h = zD 123 233 [some (.ref x), l1, l2, l3, l4, l5, l6, l7, l8] (.ref x :: S) h) ∧
  (∀ (l0 l1 l2 l3 l4 l5 l6 l7 l8 : Option Value) (a : Nat) (r : List Value) (h : zH) (hx : zfok (h.2.2 a) 9 22 = true), zD 123 233 [l0, l1, l2, l3, l4, l5, l6, l7, l8] (.ref a :: r) h = zD 123 236 [l0, l1, l2, l3, l4, l5, l6, l7, l8] (zfv (h.2.2 a) 22 :: r) h) ∧
  (∀ (l0 l1 l3 l4 l5 l6 l7 l8 : Option Value) (x : Int32) (S : List Value) (h : zH), zD 123 236 [l0, l1, some (.int x), l3, l4, l5, l6, l7, l8] S h = zD 123 237 [l0, l1, some (.int x), l3, l4, l5, l6, l7, l8] (.int x :: S) h) ∧
  (∀ (l0 l1 l2 l3 l4 l5 l6 l7 l8 : Option Value) (x y : Int32) (r : List Value) (h : zH), zD 123 237 [l0, l1, l2, l3, l4, l5, l6, l7, l8] (.int y :: .int x :: r) h = if ¬ x = y then zD 123 280 [l0, l1, l2, l3, l4, l5, l6, l7, l8] r h else zD 123 240 [l0, l1, l2, l3, l4, l5, l6, l7, l8] r h) ∧
  (∀ (l0 l1 l2 l3 l4 l5 l6 l7 l8 : Option Value) (S : List Value) (h : zH), zD 123 240 [l0, l1, l2, l3, l4, l5, l6, l7, l8] S h = zD 123 243 [l0, l1, l2, l3, l4, l5, l6, l7, l8] (.int (1000 : Int32) :: S) h) ∧
  (∀ (l1 l2 l3 l4 l5 l6 l7 l8 : Option Value) (x : Nat) (S : List Value) (h : zH), zD 123 243 [some (.ref x), l1, l2, l3, l4, l5, l6, l7, l8] S h = zD 123 244 [some (.ref x), l1, l2, l3, l4, l5, l6, l7, l8] (.ref x :: S) h) ∧
  (∀ (l0 l1 l2 l3 l4 l5 l6 l7 l8 : Option Value) (a : Nat) (r : List Value) (h : zH) (hx : zfok (h.2.2 a) 9 20 = true), zD 123 244 [l0, l1, l2, l3, l4, l5, l6, l7, l8] (.ref a :: r) h = zD 123 247 [l0, l1, l2, l3, l4, l5, l6, l7, l8] (zfv (h.2.2 a) 20 :: r) h) ∧
  (∀ (l0 l1 l2 l3 l4 l5 l6 l7 l8 : Option Value) (S : List Value) (h : zH), zD 123 247 [l0, l1, l2, l3, l4, l5, l6, l7, l8] S h = zD 123 248 [l0, l1, l2, l3, l4, l5, l6, l7, l8] (.int (0 : Int32) :: S) h) ∧
  (∀ (l0 l1 l2 l3 l4 l5 l6 l7 l8 : Option Value) (i : Int32) (a : Nat) (r : List Value) (h : zH) (hx : ziok a (h.2.2 a) i = true), zD 123 248 [l0, l1, l2, l3, l4, l5, l6, l7, l8] (.int i :: .ref a :: r) h = zD 123 249 [l0, l1, l2, l3, l4, l5, l6, l7, l8] (.int (ziv (h.2.2 a) i) :: r) h) ∧
  (∀ (l0 l1 l2 l3 l4 l5 l6 l7 l8 : Option Value) (x y : Int32) (r : List Value) (h : zH), zD 123 249 [l0, l1, l2, l3, l4, l5, l6, l7, l8] (.int y :: .int x :: r) h = zD 123 250 [l0, l1, l2, l3, l4, l5, l6, l7, l8] (.int (x * y) :: r) h) ∧
  (∀ (l0 l1 l2 l3 l4 l5 l6 l7 l8 : Option Value) (S : List Value) (h : zH), zD 123 250 [l0, l1, l2, l3, l4, l5, l6, l7, l8] S h = zD 123 252 [l0, l1, l2, l3, l4, l5, l6, l7, l8] (.int (100 : Int32) :: S) h) ∧
  (∀ (l1 l2 l3 l4 l5 l6 l7 l8 : Option Value) (x : Nat) (S : List Value) (h : zH), zD 123 252 [some (.ref x), l1, l2, l3, l4, l5, l6, l7, l8] S h = zD 123 253 [some (.ref x), l1, l2, l3, l4, l5, l6, l7, l8] (.ref x :: S) h) ∧
  (∀ (l0 l1 l2 l3 l4 l5 l6 l7 l8 : Option Value) (a : Nat) (r : List Value) (h : zH) (hx : zfok (h.2.2 a) 9 20 = true), zD 123 253 [l0, l1, l2, l3, l4, l5, l6, l7, l8] (.ref a :: r) h = zD 123 256 [l0, l1, l2, l3, l4, l5, l6, l7, l8] (zfv (h.2.2 a) 20 :: r) h) ∧
  (∀ (l0 l1 l2 l3 l4 l5 l6 l7 l8 : Option Value) (S : List Value) (h : zH), zD 123 256 [l0, l1, l2, l3, l4, l5, l6, l7, l8] S h = zD 123 257 [l0, l1, l2, l3, l4, l5, l6, l7, l8] (.int (1 : Int32) :: S) h) ∧
  (∀ (l0 l1 l2 l3 l4 l5 l6 l7 l8 : Option Value) (i : Int32) (a : Nat) (r : List Value) (h : zH) (hx : ziok a (h.2.2 a) i = true), zD 123 257 [l0, l1, l2, l3, l4, l5, l6, l7, l8] (.int i :: .ref a :: r) h = zD 123 258 [l0, l1, l2, l3, l4, l5, l6, l7, l8] (.int (ziv (h.2.2 a) i) :: r) h) ∧
  (∀ (l0 l1 l2 l3 l4 l5 l6 l7 l8 : Option Value) (x y : Int32) (r : List Value) (h : zH), zD 123 258 [l0, l1, l2, l3, l4, l5, l6, l7, l8] (.int y :: .int x :: r) h = zD 123 259 [l0, l1, l2, l3, l4, l5, l6, l7, l8] (.int (x * y) :: r) h) ∧
  (∀ (l0 l1 l2 l3 l4 l5 l6 l7 l8 : Option Value) (x y : Int32) (r : List Value) (h : zH), zD 123 259 [l0, l1, l2, l3, l4, l5, l6, l7, l8] (.int y :: .int x :: r) h = zD 123 260 [l0, l1, l2, l3, l4, l5, l6, l7, l8] (.int (x + y) :: r) h) ∧
  (∀ (l0 l1 l2 l3 l4 l5 l6 l7 l8 : Option Value) (S : List Value) (h : zH), zD 123 260 [l0, l1, l2, l3, l4, l5, l6, l7, l8] S h = zD 123 262 [l0, l1, l2, l3, l4, l5, l6, l7, l8] (.int (10 : Int32) :: S) h) ∧
  (∀ (l1 l2 l3 l4 l5 l6 l7 l8 : Option Value) (x : Nat) (S : List Value) (h : zH), zD 123 262 [some (.ref x), l1, l2, l3, l4, l5, l6, l7, l8] S h = zD 123 263 [some (.ref x), l1, l2, l3, l4, l5, l6, l7, l8] (.ref x :: S) h) ∧
  (∀ (l0 l1 l2 l3 l4 l5 l6 l7 l8 : Option Value) (a : Nat) (r : List Value) (h : zH) (hx : zfok (h.2.2 a) 9 20 = true), zD 123 263 [l0, l1, l2, l3, l4, l5, l6, l7, l8] (.ref a :: r) h = zD 123 266 [l0, l1, l2, l3, l4, l5, l6, l7, l8] (zfv (h.2.2 a) 20 :: r) h) ∧
  (∀ (l0 l1 l2 l3 l4 l5 l6 l7 l8 : Option Value) (S : List Value) (h : zH), zD 123 266 [l0, l1, l2, l3, l4, l5, l6, l7, l8] S h = zD 123 267 [l0, l1, l2, l3, l4, l5, l6, l7, l8] (.int (2 : Int32) :: S) h) ∧
  (∀ (l0 l1 l2 l3 l4 l5 l6 l7 l8 : Option Value) (i : Int32) (a : Nat) (r : List Value) (h : zH) (hx : ziok a (h.2.2 a) i = true), zD 123 267 [l0, l1, l2, l3, l4, l5, l6, l7, l8] (.int i :: .ref a :: r) h = zD 123 268 [l0, l1, l2, l3, l4, l5, l6, l7, l8] (.int (ziv (h.2.2 a) i) :: r) h) ∧
  (∀ (l0 l1 l2 l3 l4 l5 l6 l7 l8 : Option Value) (x y : Int32) (r : List Value) (h : zH), zD 123 268 [l0, l1, l2, l3, l4, l5, l6, l7, l8] (.int y :: .int x :: r) h = zD 123 269 [l0, l1, l2, l3, l4, l5, l6, l7, l8] (.int (x * y) :: r) h) ∧
  (∀ (l0 l1 l2 l3 l4 l5 l6 l7 l8 : Option Value) (x y : Int32) (r : List Value) (h : zH), zD 123 269 [l0, l1, l2, l3, l4, l5, l6, l7, l8] (.int y :: .int x :: r) h = zD 123 270 [l0, l1, l2, l3, l4, l5, l6, l7, l8] (.int (x + y) :: r) h) ∧
  (∀ (l1 l2 l3 l4 l5 l6 l7 l8 : Option Value) (x : Nat) (S : List Value) (h : zH), zD 123 270 [some (.ref x), l1, l2, l3, l4, l5, l6, l7, l8] S h = zD 123 271 [some (.ref x), l1, l2, l3, l4, l5, l6, l7, l8] (.ref x :: S) h) ∧
  (∀ (l0 l1 l2 l3 l4 l5 l6 l7 l8 : Option Value) (a : Nat) (r : List Value) (h : zH) (hx : zfok (h.2.2 a) 9 20 = true), zD 123 271 [l0, l1, l2, l3, l4, l5, l6, l7, l8] (.ref a :: r) h = zD 123 274 [l0, l1, l2, l3, l4, l5, l6, l7, l8] (zfv (h.2.2 a) 20 :: r) h) ∧
  (∀ (l0 l1 l2 l3 l4 l5 l6 l7 l8 : Option Value) (S : List Value) (h : zH), zD 123 274 [l0, l1, l2, l3, l4, l5, l6, l7, l8] S h = zD 123 275 [l0, l1, l2, l3, l4, l5, l6, l7, l8] (.int (3 : Int32) :: S) h) ∧
  (∀ (l0 l1 l2 l3 l4 l5 l6 l7 l8 : Option Value) (i : Int32) (a : Nat) (r : List Value) (h : zH) (hx : ziok a (h.2.2 a) i = true), zD 123 275 [l0, l1, l2, l3, l4, l5, l6, l7, l8] (.int i :: .ref a :: r) h = zD 123 276 [l0, l1, l2, l3, l4, l5, l6, l7, l8] (.int (ziv (h.2.2 a) i) :: r) h) ∧
  (∀ (l0 l1 l2 l3 l4 l5 l6 l7 l8 : Option Value) (x y : Int32) (r : List Value) (h : zH), zD 123 276 [l0, l1, l2, l3, l4, l5, l6, l7, l8] (.int y :: .int x :: r) h = zD 123 277 [l0, l1, l2, l3, l4, l5, l6, l7, l8] (.int (x + y) :: r) h) ∧
  (∀ (l0 l1 l2 l3 l4 l5 l6 l7 l8 : Option Value) (S : List Value) (h : zH), zD 123 277 [l0, l1, l2, l3, l4, l5, l6, l7, l8] S h = zD 123 282 [l0, l1, l2, l3, l4, l5, l6, l7, l8] S h) ∧
  (∀ (l0 l1 l2 l3 l4 l6 l7 l8 : Option Value) (x : Int32) (S : List Value) (h : zH), zD 123 280 [l0, l1, l2, l3, l4, some (.int x), l6, l7, l8] S h = zD 123 282 [l0, l1, l2, l3, l4, some (.int x), l6, l7, l8] (.int x :: S) h) ∧
  (∀ (l0 l1 l2 l3 l4 l5 l6 l7 l8 : Option Value) (x : Int32) (r : List Value) (h : zH), zD 123 282 [l0, l1, l2, l3, l4, l5, l6, l7, l8] (.int x :: r) h = zD 123 284 [l0, l1, l2, l3, zclr l4, some (.int x), l6, l7, l8] r h) ∧
  (∀ (l1 l2 l3 l4 l5 l6 l7 l8 : Option Value) (x : Nat) (S : List Value) (h : zH), zD 123 284 [some (.ref x), l1, l2, l3, l4, l5, l6, l7, l8] S h = zD 123 285 [some (.ref x), l1, l2, l3, l4, l5, l6, l7, l8] (.ref x :: S) h) ∧
  (∀ (l0 l1 l2 l3 l4 l5 l6 l7 l8 : Option Value) (x : Int32) (r : List Value) (h : zH), zD 123 285 [l0, l1, l2, l3, l4, l5, l6, l7, l8] (.int x :: r) h = zD 123 286 [l0, l1, l2, l3, l4, l5, l6, l7, l8] (.int x :: .int x :: r) h) ∧
  (∀ (l0 l1 l2 l3 l4 l5 l6 l7 l8 : Option Value) (x : Nat) (r : List Value) (h : zH), zD 123 285 [l0, l1, l2, l3, l4, l5, l6, l7, l8] (.ref x :: r) h = zD 123 286 [l0, l1, l2, l3, l4, l5, l6, l7, l8] (.ref x :: .ref x :: r) h) ∧
  (∀ (l0 l1 l2 l3 l4 l5 l6 l7 l8 : Option Value) (a : Nat) (r : List Value) (h : zH) (hx : zfok (h.2.2 a) 9 22 = true), zD 123 286 [l0, l1, l2, l3, l4, l5, l6, l7, l8] (.ref a :: r) h = zD 123 289 [l0, l1, l2, l3, l4, l5, l6, l7, l8] (zfv (h.2.2 a) 22 :: r) h) ∧
  (∀ (l0 l1 l2 l3 l4 l5 l6 l7 l8 : Option Value) (S : List Value) (h : zH), zD 123 289 [l0, l1, l2, l3, l4, l5, l6, l7, l8] S h = zD 123 290 [l0, l1, l2, l3, l4, l5, l6, l7, l8] (.int (1 : Int32) :: S) h) ∧
  (∀ (l0 l1 l2 l3 l4 l5 l6 l7 l8 : Option Value) (x y : Int32) (r : List Value) (h : zH), zD 123 290 [l0, l1, l2, l3, l4, l5, l6, l7, l8] (.int y :: .int x :: r) h = zD 123 291 [l0, l1, l2, l3, l4, l5, l6, l7, l8] (.int (x + y) :: r) h) ∧
  (∀ (l0 l1 l2 l3 l4 l5 l6 l7 l8 : Option Value) (v : Int32) (a : Nat) (r : List Value) (h : zH) (hx : zfok (h.2.2 a) 9 22 = true), zD 123 291 [l0, l1, l2, l3, l4, l5, l6, l7, l8] (.int v :: .ref a :: r) h = zD 123 294 [l0, l1, l2, l3, l4, l5, l6, l7, l8] r (zw h a (zfs' (h.2.2 a) 22 (.int v)))) ∧
  (∀ (l0 l1 l2 l3 l4 l5 l7 l8 : Option Value) (x : Int32) (S : List Value) (h : zH), zD 123 294 [l0, l1, l2, l3, l4, l5, some (.int x), l7, l8] S h = zD 123 297 [l0, l1, l2, l3, l4, zclr l5, some (.int (x + (1 : Int32))), l7, l8] S h) ∧
  (∀ (l0 l1 l2 l3 l4 l5 l6 l7 l8 : Option Value) (S : List Value) (h : zH), zD 123 297 [l0, l1, l2, l3, l4, l5, l6, l7, l8] S h = zD 123 151 [l0, l1, l2, l3, l4, l5, l6, l7, l8] S h) ∧
  (∀ (l0 l1 l2 l3 l4 l6 l7 l8 : Option Value) (x : Int32) (S : List Value) (h : zH), zD 123 300 [l0, l1, l2, l3, l4, some (.int x), l6, l7, l8] S h = zD 123 302 [l0, l1, l2, l3, l4, some (.int x), l6, l7, l8] (.int x :: S) h) ∧
  (∀ (l0 l1 l2 l3 l4 l5 l6 l7 l8 : Option Value) (v : Int32) (h : zH), zD 123 302 [l0, l1, l2, l3, l4, l5, l6, l7, l8] [.int v] h = some (some (.int v), h)) :=
  ⟨fun l0 l2 l3 l4 l5 l6 l7 l8 x S h => zD_op (ins := .iload_n 1) (len := 1) (c := (1, [l0, some (.int x), l2, l3, l4, l5, l6, l7, l8], (.int x :: S), h)) (by decide +kernel) rfl rfl rfl rfl,
  fun l0 l1 l2 l3 l4 l5 l6 l7 l8 S h => zD_icst (n := (-1)) (by decide +kernel) (by decide +kernel),
  fun l0 l1 l2 l3 l4 l5 l6 l7 l8 x y r h => zD_if (cnd := .ne) (off := 10) (by decide +kernel) (by decide) rfl,
  fun l1 l2 l3 l4 l5 l6 l7 l8 x S h => zD_op (ins := .aload_n 0) (len := 1) (c := (6, [some (.ref x), l1, l2, l3, l4, l5, l6, l7, l8], (.ref x :: S), h)) (by decide +kernel) rfl rfl rfl rfl,
  fun l0 l1 l2 l3 l4 l5 l6 l7 l8 a r h hx => zD_getf (i := 7) (ci := 9) (k := 0) (q := (711, 0)) (by decide +kernel) (by decide +kernel) hx,
  fun l0 l1 l2 l3 l4 l5 l6 l7 l8 S h => zD_goto (off := 9) (by decide +kernel) (by decide),
  fun l1 l2 l3 l4 l5 l6 l7 l8 x S h => zD_op (ins := .aload_n 0) (len := 1) (c := (13, [some (.ref x), l1, l2, l3, l4, l5, l6, l7, l8], (.ref x :: S), h)) (by decide +kernel) rfl rfl rfl rfl,
  fun l0 l1 l2 l3 l4 l5 l6 l7 l8 a r h hx => zD_getf (i := 43) (ci := 9) (k := 12) (q := (723, 0)) (by decide +kernel) (by decide +kernel) hx,
  fun l0 l2 l3 l4 l5 l6 l7 l8 x S h => zD_op (ins := .iload_n 1) (len := 1) (c := (17, [l0, some (.int x), l2, l3, l4, l5, l6, l7, l8], (.int x :: S), h)) (by decide +kernel) rfl rfl rfl rfl,
  fun l0 l1 l2 l3 l4 l5 l6 l7 l8 i a r h hx => zD_iald (by decide +kernel) hx,
  fun l0 l1 l2 l3 l4 l5 l6 l7 l8 x r h => zD_st1 (k := 3) (ins := .istore_n 3) (len := 1) (by decide +kernel) rfl rfl rfl (by decide +kernel) rfl rfl,
  fun l1 l2 l3 l4 l5 l6 l7 l8 x S h => zD_op (ins := .aload_n 0) (len := 1) (c := (20, [some (.ref x), l1, l2, l3, l4, l5, l6, l7, l8], (.ref x :: S), h)) (by decide +kernel) rfl rfl rfl rfl,
  fun l0 l2 l3 l4 l5 l6 l7 l8 x S h => zD_op (ins := .iload_n 1) (len := 1) (c := (21, [l0, some (.int x), l2, l3, l4, l5, l6, l7, l8], (.int x :: S), h)) (by decide +kernel) rfl rfl rfl rfl,
  fun l0 l1 l2 l3 l4 l5 l6 l7 l8 p0 a r h hcat hr hC => zD_callv (i := 99) (y := 28) (n := 1) (as := [.int p0]) (ci := 9) (by decide +kernel) (by decide +kernel) rfl (by decide +kernel) (Nat.le_of_ble_eq_true rfl) (by decide +kernel) hcat hr hC,
  fun l0 l1 l2 l3 l4 l5 l6 l7 l8 S h => zD_icst (n := 0) (by decide +kernel) (by decide +kernel),
  fun l0 l1 l2 l3 l4 l5 l6 l7 l8 x r h => zD_st1 (k := 4) (ins := .istore 4) (len := 2) (by decide +kernel) rfl rfl rfl (by decide +kernel) rfl rfl,
  fun l0 l1 l2 l3 l4 l5 l6 l7 l8 S h => zD_icst (n := 4) (by decide +kernel) (by decide +kernel),
  fun l0 l1 l2 l3 l4 l5 l6 l7 l8 x y r h => zD_if (cnd := .ge) (off := 17) (by decide +kernel) (by decide) rfl,
  fun l1 l2 l3 l4 l5 l6 l7 l8 x S h => zD_op (ins := .aload_n 0) (len := 1) (c := (34, [some (.ref x), l1, l2, l3, l4, l5, l6, l7, l8], (.ref x :: S), h)) (by decide +kernel) rfl rfl rfl rfl,
  fun l0 l1 l2 l3 l4 l5 l6 l7 l8 a r h hx => zD_getf (i := 67) (ci := 9) (k := 21) (q := (732, 0)) (by decide +kernel) (by decide +kernel) hx,
  fun l0 l1 l2 l3 l5 l6 l7 l8 x S h => zD_op (ins := .iload 4) (len := 2) (c := (39, [l0, l1, l2, l3, some (.int x), l5, l6, l7, l8], (.int x :: S), h)) (by decide +kernel) rfl rfl rfl rfl,
  fun l0 l1 l2 l3 l4 l5 l6 l7 l8 S h => zD_icst (n := 0) (by decide +kernel) (by decide +kernel),
  fun l0 l1 l2 l3 l4 l5 l6 l7 l8 w i a r h hx => zD_bast (by decide +kernel) hx,
  fun l0 l1 l2 l3 l5 l6 l7 l8 x S h => zD_iinc (k := 4) (x := x) (c := (1 : Int32)) (n := 1) (by decide +kernel) (by decide +kernel) rfl (by decide +kernel) rfl,
  fun l0 l1 l2 l3 l4 l5 l6 l7 l8 S h => zD_goto (off := (-17)) (by decide +kernel) (by decide),
  fun l0 l1 l2 l3 l4 l5 l6 l7 l8 S h => zD_icst (n := 0) (by decide +kernel) (by decide +kernel),
  fun l0 l1 l2 l3 l4 l5 l6 l7 l8 x r h => zD_st1 (k := 4) (ins := .istore 4) (len := 2) (by decide +kernel) rfl rfl rfl (by decide +kernel) rfl rfl,
  fun l1 l2 l3 l4 l5 l6 l7 l8 x S h => zD_op (ins := .aload_n 0) (len := 1) (c := (53, [some (.ref x), l1, l2, l3, l4, l5, l6, l7, l8], (.ref x :: S), h)) (by decide +kernel) rfl rfl rfl rfl,
  fun l0 l1 l2 l3 l4 l5 l6 l7 l8 a r h hx => zD_getf (i := 136) (ci := 9) (k := 15) (q := (726, 0)) (by decide +kernel) (by decide +kernel) hx,
  fun l0 l1 l2 l3 l4 l5 l6 l7 l8 x y r h => zD_if (cnd := .ge) (off := 46) (by decide +kernel) (by decide) rfl,
  fun l1 l2 l3 l4 l5 l6 l7 l8 x S h => zD_op (ins := .aload_n 0) (len := 1) (c := (60, [some (.ref x), l1, l2, l3, l4, l5, l6, l7, l8], (.ref x :: S), h)) (by decide +kernel) rfl rfl rfl rfl,
  fun l0 l1 l2 l3 l4 l5 l6 l7 l8 a r h hx => zD_getf (i := 67) (ci := 9) (k := 21) (q := (732, 0)) (by decide +kernel) (by decide +kernel) hx,
  fun l1 l2 l3 l4 l5 l6 l7 l8 x S h => zD_op (ins := .aload_n 0) (len := 1) (c := (64, [some (.ref x), l1, l2, l3, l4, l5, l6, l7, l8], (.ref x :: S), h)) (by decide +kernel) rfl rfl rfl rfl,
  fun l0 l1 l2 l3 l4 l5 l6 l7 l8 a r h hx => zD_getf (i := 55) (ci := 9) (k := 17) (q := (728, 0)) (by decide +kernel) (by decide +kernel) hx,
  fun l0 l1 l2 l3 l5 l6 l7 l8 x S h => zD_op (ins := .iload 4) (len := 2) (c := (69, [l0, l1, l2, l3, some (.int x), l5, l6, l7, l8], (.int x :: S), h)) (by decide +kernel) rfl rfl rfl rfl,
  fun l0 l1 l2 l3 l4 l5 l6 l7 l8 i a r h hx => zD_iald (by decide +kernel) hx,
  fun l0 l1 l2 l3 l4 l5 l6 l7 l8 S h => zD_icst (n := 1) (by decide +kernel) (by decide +kernel),
  fun l0 l1 l2 l3 l4 l5 l6 l7 l8 w i a r h hx => zD_bast (by decide +kernel) hx,
  fun l1 l2 l3 l4 l5 l6 l7 l8 x S h => zD_op (ins := .aload_n 0) (len := 1) (c := (73, [some (.ref x), l1, l2, l3, l4, l5, l6, l7, l8], (.ref x :: S), h)) (by decide +kernel) rfl rfl rfl rfl,
  fun l0 l1 l2 l3 l4 l5 l6 l7 l8 a r h hx => zD_getf (i := 52) (ci := 9) (k := 16) (q := (727, 0)) (by decide +kernel) (by decide +kernel) hx,
  fun l0 l1 l2 l3 l5 l6 l7 l8 x S h => zD_op (ins := .iload 4) (len := 2) (c := (78, [l0, l1, l2, l3, some (.int x), l5, l6, l7, l8], (.int x :: S), h)) (by decide +kernel) rfl rfl rfl rfl,
  fun l0 l1 l2 l3 l4 l5 l6 l7 l8 i a r h hx => zD_iald (by decide +kernel) hx,
  fun l0 l1 l2 l3 l4 l5 l6 l7 l8 S h => zD_icst (n := 3) (by decide +kernel) (by decide +kernel),
  fun l0 l1 l2 l3 l4 l5 l6 l7 l8 x y r h => zD_if (cnd := .eq) (off := 16) (by decide +kernel) (by decide) rfl,
  fun l1 l2 l3 l4 l5 l6 l7 l8 x S h => zD_op (ins := .aload_n 0) (len := 1) (c := (84, [some (.ref x), l1, l2, l3, l4, l5, l6, l7, l8], (.ref x :: S), h)) (by decide +kernel) rfl rfl rfl rfl,
  fun l0 l1 l2 l3 l4 l5 l6 l7 l8 a r h hx => zD_getf (i := 67) (ci := 9) (k := 21) (q := (732, 0)) (by decide +kernel) (by decide +kernel) hx,
  fun l1 l2 l3 l4 l5 l6 l7 l8 x S h => zD_op (ins := .aload_n 0) (len := 1) (c := (88, [some (.ref x), l1, l2, l3, l4, l5, l6, l7, l8], (.ref x :: S), h)) (by decide +kernel) rfl rfl rfl rfl,
  fun l0 l1 l2 l3 l4 l5 l6 l7 l8 a r h hx => zD_getf (i := 58) (ci := 9) (k := 18) (q := (729, 0)) (by decide +kernel) (by decide +kernel) hx,
  fun l0 l1 l2 l3 l5 l6 l7 l8 x S h => zD_op (ins := .iload 4) (len := 2) (c := (93, [l0, l1, l2, l3, some (.int x), l5, l6, l7, l8], (.int x :: S), h)) (by decide +kernel) rfl rfl rfl rfl,
  fun l0 l1 l2 l3 l4 l5 l6 l7 l8 i a r h hx => zD_iald (by decide +kernel) hx,
  fun l0 l1 l2 l3 l4 l5 l6 l7 l8 S h => zD_icst (n := 1) (by decide +kernel) (by decide +kernel),
  fun l0 l1 l2 l3 l4 l5 l6 l7 l8 w i a r h hx => zD_bast (by decide +kernel) hx,
  fun l0 l1 l2 l3 l5 l6 l7 l8 x S h => zD_iinc (k := 4) (x := x) (c := (1 : Int32)) (n := 1) (by decide +kernel) (by decide +kernel) rfl (by decide +kernel) rfl,
  fun l0 l1 l2 l3 l4 l5 l6 l7 l8 S h => zD_goto (off := (-49)) (by decide +kernel) (by decide),
  fun l0 l1 l2 l3 l4 l5 l6 l7 l8 S h => zD_icst (n := 1) (by decide +kernel) (by decide +kernel),
  fun l0 l1 l2 l3 l4 l5 l6 l7 l8 x r h => zD_st1 (k := 4) (ins := .istore 4) (len := 2) (by decide +kernel) rfl rfl rfl (by decide +kernel) rfl rfl,
  fun l0 l1 l2 l3 l4 l5 l6 l7 l8 S h => zD_icst (n := 0) (by decide +kernel) (by decide +kernel),
  fun l0 l1 l2 l3 l4 l5 l6 l7 l8 x r h => zD_st1 (k := 5) (ins := .istore 5) (len := 2) (by decide +kernel) rfl rfl rfl (by decide +kernel) rfl rfl,
  fun l0 l1 l2 l3 l4 l5 l6 l7 l8 S h => zD_icst (n := 4) (by decide +kernel) (by decide +kernel),
  fun l0 l1 l2 l3 l4 l5 l6 l7 l8 x y r h => zD_if (cnd := .ge) (off := 29) (by decide +kernel) (by decide) rfl,
  fun l0 l1 l2 l3 l5 l6 l7 l8 x S h => zD_op (ins := .iload 4) (len := 2) (c := (116, [l0, l1, l2, l3, some (.int x), l5, l6, l7, l8], (.int x :: S), h)) (by decide +kernel) rfl rfl rfl rfl,
  fun l1 l2 l3 l4 l5 l6 l7 l8 x S h => zD_op (ins := .aload_n 0) (len := 1) (c := (117, [some (.ref x), l1, l2, l3, l4, l5, l6, l7, l8], (.ref x :: S), h)) (by decide +kernel) rfl rfl rfl rfl,
  fun l0 l1 l2 l3 l4 l5 l6 l7 l8 a r h hx => zD_getf (i := 67) (ci := 9) (k := 21) (q := (732, 0)) (by decide +kernel) (by decide +kernel) hx,
  fun l0 l1 l2 l3 l4 l6 l7 l8 x S h => zD_op (ins := .iload 5) (len := 2) (c := (122, [l0, l1, l2, l3, l4, some (.int x), l6, l7, l8], (.int x :: S), h)) (by decide +kernel) rfl rfl rfl rfl,
  fun l0 l1 l2 l3 l4 l5 l6 l7 l8 i a r h hx => zD_bald (by decide +kernel) hx,
  fun l0 l1 l2 l3 l4 l5 l6 l7 l8 x r h => zD_if0 (cnd := .eq) (off := 7) (by decide +kernel) (by decide) rfl,
  fun l0 l1 l2 l4 l5 l6 l7 l8 x S h => zD_op (ins := .iload_n 3) (len := 1) (c := (127, [l0, l1, l2, some (.int x), l4, l5, l6, l7, l8], (.int x :: S), h)) (by decide +kernel) rfl rfl rfl rfl,
  fun l0 l1 l2 l3 l4 l5 l6 l7 l8 S h => zD_goto (off := 4) (by decide +kernel) (by decide),
  fun l0 l1 l2 l3 l4 l5 l6 l7 l8 S h => zD_icst (n := 1) (by decide +kernel) (by decide +kernel),
  fun l0 l1 l2 l3 l4 l5 l6 l7 l8 x y r h => zD_op (ins := .imul) (len := 1) (c := (132, [l0, l1, l2, l3, l4, l5, l6, l7, l8], (.int (x * y) :: r), h)) (by decide +kernel) rfl rfl rfl rfl,
  fun l0 l1 l2 l3 l4 l5 l6 l7 l8 x r h => zD_st1 (k := 4) (ins := .istore 4) (len := 2) (by decide +kernel) rfl rfl rfl (by decide +kernel) rfl rfl,
  fun l0 l1 l2 l3 l4 l6 l7 l8 x S h => zD_iinc (k := 5) (x := x) (c := (1 : Int32)) (n := 1) (by decide +kernel) (by decide +kernel) rfl (by decide +kernel) rfl,
  fun l0 l1 l2 l3 l4 l5 l6 l7 l8 S h => zD_goto (off := (-29)) (by decide +kernel) (by decide),
  fun l1 l2 l3 l4 l5 l6 l7 l8 x S h => zD_op (ins := .aload_n 0) (len := 1) (c := (141, [some (.ref x), l1, l2, l3, l4, l5, l6, l7, l8], (.ref x :: S), h)) (by decide +kernel) rfl rfl rfl rfl,
  fun l0 l1 l2 l3 l4 l5 l6 l7 l8 S h => zD_icst (n := 0) (by decide +kernel) (by decide +kernel),
  fun l0 l1 l2 l3 l4 l5 l6 l7 l8 v a r h hx => zD_putf (i := 139) (ci := 9) (k := 22) (q := (733, 0)) (by decide +kernel) (by decide +kernel) (by decide +kernel) hx rfl rfl,
  fun l0 l1 l2 l3 l4 l5 l6 l7 l8 S h => zD_icst (n := (-1)) (by decide +kernel) (by decide +kernel),
  fun l0 l1 l2 l3 l4 l5 l6 l7 l8 x r h => zD_st1 (k := 5) (ins := .istore 5) (len := 2) (by decide +kernel) rfl rfl rfl (by decide +kernel) rfl rfl,
  fun l0 l1 l2 l3 l4 l5 l6 l7 l8 S h => zD_icst (n := 0) (by decide +kernel) (by decide +kernel),
  fun l0 l1 l2 l3 l4 l5 l6 l7 l8 x r h => zD_st1 (k := 6) (ins := .istore 6) (len := 2) (by decide +kernel) rfl rfl rfl (by decide +kernel) rfl rfl,
  fun l0 l1 l2 l3 l5 l6 l7 l8 x S h => zD_op (ins := .iload 4) (len := 2) (c := (155, [l0, l1, l2, l3, some (.int x), l5, l6, l7, l8], (.int x :: S), h)) (by decide +kernel) rfl rfl rfl rfl,
  fun l0 l1 l2 l3 l4 l5 l6 l7 l8 x y r h => zD_if (cnd := .ge) (off := 145) (by decide +kernel) (by decide) rfl,
  fun l0 l1 l2 l3 l4 l5 l7 l8 x S h => zD_op (ins := .iload 6) (len := 2) (c := (160, [l0, l1, l2, l3, l4, l5, some (.int x), l7, l8], (.int x :: S), h)) (by decide +kernel) rfl rfl rfl rfl,
  fun l0 l1 l2 l3 l4 l5 l6 l7 l8 x r h => zD_st1 (k := 7) (ins := .istore 7) (len := 2) (by decide +kernel) rfl rfl rfl (by decide +kernel) rfl rfl,
  fun l0 l1 l2 l3 l4 l5 l6 l7 l8 S h => zD_icst (n := 3) (by decide +kernel) (by decide +kernel),
  fun l0 l1 l2 l3 l4 l5 l6 l7 l8 x r h => zD_st1 (k := 8) (ins := .istore 8) (len := 2) (by decide +kernel) rfl rfl rfl (by decide +kernel) rfl rfl,
  fun l0 l1 l2 l3 l4 l5 l6 l7 l8 x r h => zD_if0 (cnd := .lt) (off := 57) (by decide +kernel) (by decide) rfl,
  fun l1 l2 l3 l4 l5 l6 l7 l8 x S h => zD_op (ins := .aload_n 0) (len := 1) (c := (171, [some (.ref x), l1, l2, l3, l4, l5, l6, l7, l8], (.ref x :: S), h)) (by decide +kernel) rfl rfl rfl rfl,
  fun l0 l1 l2 l3 l4 l5 l6 l7 l8 a r h hx => zD_getf (i := 64) (ci := 9) (k := 20) (q := (731, 0)) (by decide +kernel) (by decide +kernel) hx,
  fun l0 l1 l2 l3 l4 l5 l6 l7 x S h => zD_op (ins := .iload 8) (len := 2) (c := (176, [l0, l1, l2, l3, l4, l5, l6, l7, some (.int x)], (.int x :: S), h)) (by decide +kernel) rfl rfl rfl rfl,
  fun l1 l2 l3 l4 l5 l6 l7 l8 x S h => zD_op (ins := .aload_n 0) (len := 1) (c := (177, [some (.ref x), l1, l2, l3, l4, l5, l6, l7, l8], (.ref x :: S), h)) (by decide +kernel) rfl rfl rfl rfl,
  fun l0 l1 l2 l3 l4 l5 l6 l7 l8 a r h hx => zD_getf (i := 67) (ci := 9) (k := 21) (q := (732, 0)) (by decide +kernel) (by decide +kernel) hx,
  fun l0 l1 l2 l3 l4 l5 l6 l7 x S h => zD_op (ins := .iload 8) (len := 2) (c := (182, [l0, l1, l2, l3, l4, l5, l6, l7, some (.int x)], (.int x :: S), h)) (by decide +kernel) rfl rfl rfl rfl,
  fun l0 l1 l2 l3 l4 l5 l6 l7 l8 i a r h hx => zD_bald (by decide +kernel) hx,
  fun l0 l1 l2 l3 l4 l5 l6 l7 l8 x r h => zD_if0 (cnd := .eq) (off := 12) (by decide +kernel) (by decide) rfl,
  fun l0 l1 l2 l3 l4 l5 l6 l8 x S h => zD_op (ins := .iload 7) (len := 2) (c := (188, [l0, l1, l2, l3, l4, l5, l6, some (.int x), l8], (.int x :: S), h)) (by decide +kernel) rfl rfl rfl rfl,
  fun l0 l1 l2 l4 l5 l6 l7 l8 x S h => zD_op (ins := .iload_n 3) (len := 1) (c := (189, [l0, l1, l2, some (.int x), l4, l5, l6, l7, l8], (.int x :: S), h)) (by decide +kernel) rfl rfl rfl rfl,
  fun l0 l1 l2 l3 l4 l5 l6 l7 l8 x y r h hy => zD_rem (by decide +kernel) hy,
  fun l0 l1 l2 l3 l4 l5 l6 l7 l8 S h => zD_icst (n := 1) (by decide +kernel) (by decide +kernel),
  fun l0 l1 l2 l3 l4 l5 l6 l7 l8 x y r h => zD_op (ins := .iadd) (len := 1) (c := (192, [l0, l1, l2, l3, l4, l5, l6, l7, l8], (.int (x + y) :: r), h)) (by decide +kernel) rfl rfl rfl rfl,
  fun l0 l1 l2 l3 l4 l5 l6 l7 l8 S h => zD_goto (off := 4) (by decide +kernel) (by decide),
  fun l0 l1 l2 l3 l4 l5 l6 l7 l8 S h => zD_icst (n := 0) (by decide +kernel) (by decide +kernel),
  fun l0 l1 l2 l3 l4 l5 l6 l7 l8 w i a r h hx => zD_iast (by decide +kernel) hx,
  fun l1 l2 l3 l4 l5 l6 l7 l8 x S h => zD_op (ins := .aload_n 0) (len := 1) (c := (198, [some (.ref x), l1, l2, l3, l4, l5, l6, l7, l8], (.ref x :: S), h)) (by decide +kernel) rfl rfl rfl rfl,
  fun l0 l1 l2 l3 l4 l5 l6 l7 l8 a r h hx => zD_getf (i := 67) (ci := 9) (k := 21) (q := (732, 0)) (by decide +kernel) (by decide +kernel) hx,
  fun l0 l1 l2 l3 l4 l5 l6 l7 x S h => zD_op (ins := .iload 8) (len := 2) (c := (203, [l0, l1, l2, l3, l4, l5, l6, l7, some (.int x)], (.int x :: S), h)) (by decide +kernel) rfl rfl rfl rfl,
  fun l0 l1 l2 l3 l4 l5 l6 l7 l8 i a r h hx => zD_bald (by decide +kernel) hx,
  fun l0 l1 l2 l3 l4 l5 l6 l7 l8 x r h => zD_if0 (cnd := .eq) (off := 10) (by decide +kernel) (by decide) rfl,
  fun l0 l1 l2 l3 l4 l5 l6 l8 x S h => zD_op (ins := .iload 7) (len := 2) (c := (209, [l0, l1, l2, l3, l4, l5, l6, some (.int x), l8], (.int x :: S), h)) (by decide +kernel) rfl rfl rfl rfl,
  fun l0 l1 l2 l4 l5 l6 l7 l8 x S h => zD_op (ins := .iload_n 3) (len := 1) (c := (210, [l0, l1, l2, some (.int x), l4, l5, l6, l7, l8], (.int x :: S), h)) (by decide +kernel) rfl rfl rfl rfl,
  fun l0 l1 l2 l3 l4 l5 l6 l7 l8 x y r h hy => zD_div (by decide +kernel) hy,
  fun l0 l1 l2 l3 l4 l5 l6 l7 l8 S h => zD_goto (off := 5) (by decide +kernel) (by decide),
  fun l0 l1 l2 l3 l4 l5 l6 l8 x S h => zD_op (ins := .iload 7) (len := 2) (c := (216, [l0, l1, l2, l3, l4, l5, l6, some (.int x), l8], (.int x :: S), h)) (by decide +kernel) rfl rfl rfl rfl,
  fun l0 l1 l2 l3 l4 l5 l6 l7 l8 x r h => zD_st1 (k := 7) (ins := .istore 7) (len := 2) (by decide +kernel) rfl rfl rfl (by decide +kernel) rfl rfl,
  fun l0 l1 l2 l3 l4 l5 l6 l7 x S h => zD_iinc (k := 8) (x := x) (c := (-1 : Int32)) (n := (-1)) (by decide +kernel) (by decide +kernel) rfl (by decide +kernel) rfl,
  fun l0 l1 l2 l3 l4 l5 l6 l7 l8 S h => zD_goto (off := (-56)) (by decide +kernel) (by decide),
  fun l1 l2 l3 l4 l5 l6 l7 l8 x S h => zD_op (ins := .aload_n 0) (len := 1) (c := (225, [some (.ref x), l1, l2, l3, l4, l5, l6, l7, l8], (.ref x :: S), h)) (by decide +kernel) rfl rfl rfl rfl,
  fun l0 l2 l3 l4 l5 l6 l7 l8 x S h => zD_op (ins := .iload_n 1) (len := 1) (c := (226, [l0, some (.int x), l2, l3, l4, l5, l6, l7, l8], (.int x :: S), h)) (by decide +kernel) rfl rfl rfl rfl,
  fun l0 l1 l2 l3 l4 l5 l6 l7 l8 p0 a r h hcat hr hC => zD_callv (i := 142) (y := 85) (n := 1) (as := [.int p0]) (ci := 9) (by decide +kernel) (by decide +kernel) rfl (by decide +kernel) (Nat.le_of_ble_eq_true rfl) (by decide +kernel) hcat hr hC,
  fun l0 l1 l2 l3 l4 l5 l6 l7 l8 x r h => zD_if0 (cnd := .eq) (off := 65) (by decide +kernel) (by decide) rfl,
  fun l1 l2 l3 l4 l5 l6 l7 l8 x S h => zD_op (ins := .aload_n 0) (len := 1) (c := (233, [some (.ref x), l1, l2, l3, l4, l5, l6, l7, l8], (.ref x :: S), h)) (by decide +kernel) rfl rfl rfl rfl,
  fun l0 l1 l2 l3 l4 l5 l6 l7 l8 a r h hx => zD_getf (i := 139) (ci := 9) (k := 22) (q := (733, 0)) (by decide +kernel) (by decide +kernel) hx,
  fun l0 l1 l3 l4 l5 l6 l7 l8 x S h => zD_op (ins := .iload_n 2) (len := 1) (c := (237, [l0, l1, some (.int x), l3, l4, l5, l6, l7, l8], (.int x :: S), h)) (by decide +kernel) rfl rfl rfl rfl,
  fun l0 l1 l2 l3 l4 l5 l6 l7 l8 x y r h => zD_if (cnd := .ne) (off := 43) (by decide +kernel) (by decide) rfl,
  fun l0 l1 l2 l3 l4 l5 l6 l7 l8 S h => zD_sip (n := 1000) (by decide +kernel) (by decide +kernel),
  fun l1 l2 l3 l4 l5 l6 l7 l8 x S h => zD_op (ins := .aload_n 0) (len := 1) (c := (244, [some (.ref x), l1, l2, l3, l4, l5, l6, l7, l8], (.ref x :: S), h)) (by decide +kernel) rfl rfl rfl rfl,
  fun l0 l1 l2 l3 l4 l5 l6 l7 l8 a r h hx => zD_getf (i := 64) (ci := 9) (k := 20) (q := (731, 0)) (by decide +kernel) (by decide +kernel) hx,
  fun l0 l1 l2 l3 l4 l5 l6 l7 l8 S h => zD_icst (n := 0) (by decide +kernel) (by decide +kernel),
  fun l0 l1 l2 l3 l4 l5 l6 l7 l8 i a r h hx => zD_iald (by decide +kernel) hx,
  fun l0 l1 l2 l3 l4 l5 l6 l7 l8 x y r h => zD_op (ins := .imul) (len := 1) (c := (250, [l0, l1, l2, l3, l4, l5, l6, l7, l8], (.int (x * y) :: r), h)) (by decide +kernel) rfl rfl rfl rfl,
  fun l0 l1 l2 l3 l4 l5 l6 l7 l8 S h => zD_bip (n := 100) (by decide +kernel) (by decide +kernel),
  fun l1 l2 l3 l4 l5 l6 l7 l8 x S h => zD_op (ins := .aload_n 0) (len := 1) (c := (253, [some (.ref x), l1, l2, l3, l4, l5, l6, l7, l8], (.ref x :: S), h)) (by decide +kernel) rfl rfl rfl rfl,
  fun l0 l1 l2 l3 l4 l5 l6 l7 l8 a r h hx => zD_getf (i := 64) (ci := 9) (k := 20) (q := (731, 0)) (by decide +kernel) (by decide +kernel) hx,
  fun l0 l1 l2 l3 l4 l5 l6 l7 l8 S h => zD_icst (n := 1) (by decide +kernel) (by decide +kernel),
  fun l0 l1 l2 l3 l4 l5 l6 l7 l8 i a r h hx => zD_iald (by decide +kernel) hx,
  fun l0 l1 l2 l3 l4 l5 l6 l7 l8 x y r h => zD_op (ins := .imul) (len := 1) (c := (259, [l0, l1, l2, l3, l4, l5, l6, l7, l8], (.int (x * y) :: r), h)) (by decide +kernel) rfl rfl rfl rfl,
  fun l0 l1 l2 l3 l4 l5 l6 l7 l8 x y r h => zD_op (ins := .iadd) (len := 1) (c := (260, [l0, l1, l2, l3, l4, l5, l6, l7, l8], (.int (x + y) :: r), h)) (by decide +kernel) rfl rfl rfl rfl,
  fun l0 l1 l2 l3 l4 l5 l6 l7 l8 S h => zD_bip (n := 10) (by decide +kernel) (by decide +kernel),
  fun l1 l2 l3 l4 l5 l6 l7 l8 x S h => zD_op (ins := .aload_n 0) (len := 1) (c := (263, [some (.ref x), l1, l2, l3, l4, l5, l6, l7, l8], (.ref x :: S), h)) (by decide +kernel) rfl rfl rfl rfl,
  fun l0 l1 l2 l3 l4 l5 l6 l7 l8 a r h hx => zD_getf (i := 64) (ci := 9) (k := 20) (q := (731, 0)) (by decide +kernel) (by decide +kernel) hx,
  fun l0 l1 l2 l3 l4 l5 l6 l7 l8 S h => zD_icst (n := 2) (by decide +kernel) (by decide +kernel),
  fun l0 l1 l2 l3 l4 l5 l6 l7 l8 i a r h hx => zD_iald (by decide +kernel) hx,
  fun l0 l1 l2 l3 l4 l5 l6 l7 l8 x y r h => zD_op (ins := .imul) (len := 1) (c := (269, [l0, l1, l2, l3, l4, l5, l6, l7, l8], (.int (x * y) :: r), h)) (by decide +kernel) rfl rfl rfl rfl,
  fun l0 l1 l2 l3 l4 l5 l6 l7 l8 x y r h => zD_op (ins := .iadd) (len := 1) (c := (270, [l0, l1, l2, l3, l4, l5, l6, l7, l8], (.int (x + y) :: r), h)) (by decide +kernel) rfl rfl rfl rfl,
  fun l1 l2 l3 l4 l5 l6 l7 l8 x S h => zD_op (ins := .aload_n 0) (len := 1) (c := (271, [some (.ref x), l1, l2, l3, l4, l5, l6, l7, l8], (.ref x :: S), h)) (by decide +kernel) rfl rfl rfl rfl,
  fun l0 l1 l2 l3 l4 l5 l6 l7 l8 a r h hx => zD_getf (i := 64) (ci := 9) (k := 20) (q := (731, 0)) (by decide +kernel) (by decide +kernel) hx,
  fun l0 l1 l2 l3 l4 l5 l6 l7 l8 S h => zD_icst (n := 3) (by decide +kernel) (by decide +kernel),
  fun l0 l1 l2 l3 l4 l5 l6 l7 l8 i a r h hx => zD_iald (by decide +kernel) hx,
  fun l0 l1 l2 l3 l4 l5 l6 l7 l8 x y r h => zD_op (ins := .iadd) (len := 1) (c := (277, [l0, l1, l2, l3, l4, l5, l6, l7, l8], (.int (x + y) :: r), h)) (by decide +kernel) rfl rfl rfl rfl,
  fun l0 l1 l2 l3 l4 l5 l6 l7 l8 S h => zD_goto (off := 5) (by decide +kernel) (by decide),
  fun l0 l1 l2 l3 l4 l6 l7 l8 x S h => zD_op (ins := .iload 5) (len := 2) (c := (282, [l0, l1, l2, l3, l4, some (.int x), l6, l7, l8], (.int x :: S), h)) (by decide +kernel) rfl rfl rfl rfl,
  fun l0 l1 l2 l3 l4 l5 l6 l7 l8 x r h => zD_st1 (k := 5) (ins := .istore 5) (len := 2) (by decide +kernel) rfl rfl rfl (by decide +kernel) rfl rfl,
  fun l1 l2 l3 l4 l5 l6 l7 l8 x S h => zD_op (ins := .aload_n 0) (len := 1) (c := (285, [some (.ref x), l1, l2, l3, l4, l5, l6, l7, l8], (.ref x :: S), h)) (by decide +kernel) rfl rfl rfl rfl,
  fun l0 l1 l2 l3 l4 l5 l6 l7 l8 x r h => zD_op (ins := .dup) (len := 1) (c := (286, [l0, l1, l2, l3, l4, l5, l6, l7, l8], (.int x :: .int x :: r), h)) (by decide +kernel) rfl rfl rfl rfl,
  fun l0 l1 l2 l3 l4 l5 l6 l7 l8 x r h => zD_op (ins := .dup) (len := 1) (c := (286, [l0, l1, l2, l3, l4, l5, l6, l7, l8], (.ref x :: .ref x :: r), h)) (by decide +kernel) rfl rfl rfl rfl,
  fun l0 l1 l2 l3 l4 l5 l6 l7 l8 a r h hx => zD_getf (i := 139) (ci := 9) (k := 22) (q := (733, 0)) (by decide +kernel) (by decide +kernel) hx,
  fun l0 l1 l2 l3 l4 l5 l6 l7 l8 S h => zD_icst (n := 1) (by decide +kernel) (by decide +kernel),
  fun l0 l1 l2 l3 l4 l5 l6 l7 l8 x y r h => zD_op (ins := .iadd) (len := 1) (c := (291, [l0, l1, l2, l3, l4, l5, l6, l7, l8], (.int (x + y) :: r), h)) (by decide +kernel) rfl rfl rfl rfl,
  fun l0 l1 l2 l3 l4 l5 l6 l7 l8 v a r h hx => zD_putf (i := 139) (ci := 9) (k := 22) (q := (733, 0)) (by decide +kernel) (by decide +kernel) (by decide +kernel) hx rfl rfl,
  fun l0 l1 l2 l3 l4 l5 l7 l8 x S h => zD_iinc (k := 6) (x := x) (c := (1 : Int32)) (n := 1) (by decide +kernel) (by decide +kernel) rfl (by decide +kernel) rfl,
  fun l0 l1 l2 l3 l4 l5 l6 l7 l8 S h => zD_goto (off := (-146)) (by decide +kernel) (by decide),
  fun l0 l1 l2 l3 l4 l6 l7 l8 x S h => zD_op (ins := .iload 5) (len := 2) (c := (302, [l0, l1, l2, l3, l4, some (.int x), l6, l7, l8], (.int x :: S), h)) (by decide +kernel) rfl rfl rfl rfl,
  fun l0 l1 l2 l3 l4 l5 l6 l7 l8 v h => zD_ireti (by decide +kernel) rfl⟩
set_option maxRecDepth 100000 in
theorem E_X10_search_h27 : (∀ (l0 l1 l2 l3 l5 l6 l7 l8 : Option Value) (x : Int32) (S : List Value) (h : zH), zD 123 27 [l0, l1, l2, l3, some (.int x), l5, l6, l7, l8] S h = zD 123 29 [l0, l1, l2, l3, some (.int x), l5, l6, l7, l8] (.int x :: S) h) :=
  fun l0 l1 l2 l3 l5 l6 l7 l8 x S h => zD_op (ins := .iload 4) (len := 2) (c := (29, [l0, l1, l2, l3, some (.int x), l5, l6, l7, l8], (.int x :: S), h)) (by decide +kernel) rfl rfl rfl rfl
set_option maxRecDepth 100000 in
theorem E_X10_search_h50 : (∀ (l0 l1 l2 l3 l5 l6 l7 l8 : Option Value) (x : Int32) (S : List Value) (h : zH), zD 123 50 [l0, l1, l2, l3, some (.int x), l5, l6, l7, l8] S h = zD 123 52 [l0, l1, l2, l3, some (.int x), l5, l6, l7, l8] (.int x :: S) h) :=
  fun l0 l1 l2 l3 l5 l6 l7 l8 x S h => zD_op (ins := .iload 4) (len := 2) (c := (52, [l0, l1, l2, l3, some (.int x), l5, l6, l7, l8], (.int x :: S), h)) (by decide +kernel) rfl rfl rfl rfl
set_option maxRecDepth 100000 in
theorem E_X10_search_h108 : (∀ (l0 l1 l2 l3 l4 l6 l7 l8 : Option Value) (x : Int32) (S : List Value) (h : zH), zD 123 108 [l0, l1, l2, l3, l4, some (.int x), l6, l7, l8] S h = zD 123 110 [l0, l1, l2, l3, l4, some (.int x), l6, l7, l8] (.int x :: S) h) :=
  fun l0 l1 l2 l3 l4 l6 l7 l8 x S h => zD_op (ins := .iload 5) (len := 2) (c := (110, [l0, l1, l2, l3, l4, some (.int x), l6, l7, l8], (.int x :: S), h)) (by decide +kernel) rfl rfl rfl rfl
set_option maxRecDepth 100000 in
theorem E_X10_search_h151 : (∀ (l0 l1 l2 l3 l4 l5 l7 l8 : Option Value) (x : Int32) (S : List Value) (h : zH), zD 123 151 [l0, l1, l2, l3, l4, l5, some (.int x), l7, l8] S h = zD 123 153 [l0, l1, l2, l3, l4, l5, some (.int x), l7, l8] (.int x :: S) h) :=
  fun l0 l1 l2 l3 l4 l5 l7 l8 x S h => zD_op (ins := .iload 6) (len := 2) (c := (153, [l0, l1, l2, l3, l4, l5, some (.int x), l7, l8], (.int x :: S), h)) (by decide +kernel) rfl rfl rfl rfl
set_option maxRecDepth 100000 in
theorem E_X10_search_h165 : (∀ (l0 l1 l2 l3 l4 l5 l6 l7 : Option Value) (x : Int32) (S : List Value) (h : zH), zD 123 165 [l0, l1, l2, l3, l4, l5, l6, l7, some (.int x)] S h = zD 123 167 [l0, l1, l2, l3, l4, l5, l6, l7, some (.int x)] (.int x :: S) h) :=
  fun l0 l1 l2 l3 l4 l5 l6 l7 x S h => zD_op (ins := .iload 8) (len := 2) (c := (167, [l0, l1, l2, l3, l4, l5, l6, l7, some (.int x)], (.int x :: S), h)) (by decide +kernel) rfl rfl rfl rfl
set_option maxRecDepth 100000 in
theorem I_X10_search : (∀ (a : Nat) (p0 : Int32) (p1 : Int32) (h : zH), zC 123 [.ref a, .int p0, .int p1] h = zD 123 0 [some (.ref a), some (.int p0), some (.int p1), none, none, none, none, none, none] [] h) :=
  fun a p0 p1 h => zC_def rfl
set_option maxRecDepth 100000 in
theorem E_X10_barred : (∀ (l0 : Option Value) (x : Int32) (S : List Value) (h : zH), zD 124 0 [l0, some (.int x)] S h = zD 124 1 [l0, some (.int x)] (.int x :: S) h) ∧
  (∀ (l0 l1 : Option Value) (S : List Value) (h : zH), zD 124 1 [l0, l1] S h = zD 124 2 [l0, l1] (.int (-1 : Int32) :: S) h) ∧
  (∀ (l0 l1 : Option Value) (x y : Int32) (r : List Value) (h : zH), zD 124 2 [l0, l1] (.int y :: .int x :: r) h = if x = y then zD 124 16 [l0, l1] r h else zD 124 5 [l0, l1] r h) ∧
  (∀ (l1 : Option Value) (x : Nat) (S : List Value) (h : zH), zD 124 5 [some (.ref x), l1] S h = zD 124 6 [some (.ref x), l1] (.ref x :: S) h) ∧
  (∀ (l0 : Option Value) (x : Int32) (S : List Value) (h : zH), zD 124 6 [l0, some (.int x)] S h = zD 124 7 [l0, some (.int x)] (.int x :: S) h) ∧
  (∀ (l0 l1 : Option Value) (p0 : Int32) (a : Nat) (r : List Value) (h : zH) (hcat : zcat r ≤ 8) (hr : zis (h.2.2 a) 9 = true) (hC : (zC 81 (.ref a :: [.int p0]) h).isSome = true), zD 124 7 [l0, l1] (.int p0 :: .ref a :: r) h = zD 124 10 [l0, l1] (zgv (zC 81 (.ref a :: [.int p0]) h) ++ r) (zgh h (zC 81 (.ref a :: [.int p0]) h))) ∧
  (∀ (l0 l1 : Option Value) (x : Int32) (r : List Value) (h : zH), zD 124 10 [l0, l1] (.int x :: r) h = if ¬ x = 0 then zD 124 16 [l0, l1] r h else zD 124 13 [l0, l1] r h) ∧
  (∀ (l0 l1 : Option Value) (S : List Value) (h : zH), zD 124 13 [l0, l1] S h = zD 124 15 [l0, l1] (.int (-101 : Int32) :: S) h) ∧
  (∀ (l0 l1 : Option Value) (v : Int32) (h : zH), zD 124 15 [l0, l1] [.int v] h = some (some (.int v), h)) ∧
  (∀ (l1 : Option Value) (x : Nat) (S : List Value) (h : zH), zD 124 16 [some (.ref x), l1] S h = zD 124 17 [some (.ref x), l1] (.ref x :: S) h) ∧
  (∀ (l0 l1 : Option Value) (a : Nat) (r : List Value) (h : zH) (hx : zfok (h.2.2 a) 9 15 = true), zD 124 17 [l0, l1] (.ref a :: r) h = zD 124 20 [l0, l1] (zfv (h.2.2 a) 15 :: r) h) ∧
  (∀ (l0 l1 : Option Value) (x : Int32) (r : List Value) (h : zH), zD 124 20 [l0, l1] (.int x :: r) h = if x = 0 then zD 124 35 [l0, l1] r h else zD 124 23 [l0, l1] r h) ∧
  (∀ (l0 : Option Value) (x : Int32) (S : List Value) (h : zH), zD 124 23 [l0, some (.int x)] S h = zD 124 24 [l0, some (.int x)] (.int x :: S) h) ∧
  (∀ (l0 l1 : Option Value) (S : List Value) (h : zH), zD 124 24 [l0, l1] S h = zD 124 25 [l0, l1] (.int (-1 : Int32) :: S) h) ∧
  (∀ (l0 l1 : Option Value) (x y : Int32) (r : List Value) (h : zH), zD 124 25 [l0, l1] (.int y :: .int x :: r) h = if ¬ x = y then zD 124 40 [l0, l1] r h else zD 124 28 [l0, l1] r h) ∧
  (∀ (l1 : Option Value) (x : Nat) (S : List Value) (h : zH), zD 124 28 [some (.ref x), l1] S h = zD 124 29 [some (.ref x), l1] (.ref x :: S) h) ∧
  (∀ (l0 l1 : Option Value) (a : Nat) (r : List Value) (h : zH) (hcat : zcat r ≤ 8) (hr : zis (h.2.2 a) 9 = true) (hC : (zC 80 [.ref a] h).isSome = true), zD 124 29 [l0, l1] (.ref a :: r) h = zD 124 32 [l0, l1] (zgv (zC 80 [.ref a] h) ++ r) (zgh h (zC 80 [.ref a] h))) ∧
  (∀ (l0 l1 : Option Value) (x : Int32) (r : List Value) (h : zH), zD 124 32 [l0, l1] (.int x :: r) h = if ¬ x = 0 then zD 124 40 [l0, l1] r h else zD 124 35 [l0, l1] r h) ∧
  (∀ (l0 l1 : Option Value) (S : List Value) (h : zH), zD 124 35 [l0, l1] S h = zD 124 37 [l0, l1] (.int (-103 : Int32) :: S) h) ∧
  (∀ (l0 l1 : Option Value) (S : List Value) (h : zH), zD 124 37 [l0, l1] S h = zD 124 41 [l0, l1] S h) ∧
  (∀ (l0 l1 : Option Value) (S : List Value) (h : zH), zD 124 40 [l0, l1] S h = zD 124 41 [l0, l1] (.int (0 : Int32) :: S) h) ∧
  (∀ (l0 l1 : Option Value) (v : Int32) (h : zH), zD 124 41 [l0, l1] [.int v] h = some (some (.int v), h)) :=
  ⟨fun l0 x S h => zD_op (ins := .iload_n 1) (len := 1) (c := (1, [l0, some (.int x)], (.int x :: S), h)) (by decide +kernel) rfl rfl rfl rfl,
  fun l0 l1 S h => zD_icst (n := (-1)) (by decide +kernel) (by decide +kernel),
  fun l0 l1 x y r h => zD_if (cnd := .eq) (off := 14) (by decide +kernel) (by decide) rfl,
  fun l1 x S h => zD_op (ins := .aload_n 0) (len := 1) (c := (6, [some (.ref x), l1], (.ref x :: S), h)) (by decide +kernel) rfl rfl rfl rfl,
  fun l0 x S h => zD_op (ins := .iload_n 1) (len := 1) (c := (7, [l0, some (.int x)], (.int x :: S), h)) (by decide +kernel) rfl rfl rfl rfl,
  fun l0 l1 p0 a r h hcat hr hC => zD_callv (i := 129) (y := 81) (n := 1) (as := [.int p0]) (ci := 9) (by decide +kernel) (by decide +kernel) rfl (by decide +kernel) (Nat.le_of_ble_eq_true rfl) (by decide +kernel) hcat hr hC,
  fun l0 l1 x r h => zD_if0 (cnd := .ne) (off := 6) (by decide +kernel) (by decide) rfl,
  fun l0 l1 S h => zD_bip (n := (-101)) (by decide +kernel) (by decide +kernel),
  fun l0 l1 v h => zD_ireti (by decide +kernel) rfl,
  fun l1 x S h => zD_op (ins := .aload_n 0) (len := 1) (c := (17, [some (.ref x), l1], (.ref x :: S), h)) (by decide +kernel) rfl rfl rfl rfl,
  fun l0 l1 a r h hx => zD_getf (i := 136) (ci := 9) (k := 15) (q := (726, 0)) (by decide +kernel) (by decide +kernel) hx,
  fun l0 l1 x r h => zD_if0 (cnd := .eq) (off := 15) (by decide +kernel) (by decide) rfl,
  fun l0 x S h => zD_op (ins := .iload_n 1) (len := 1) (c := (24, [l0, some (.int x)], (.int x :: S), h)) (by decide +kernel) rfl rfl rfl rfl,
  fun l0 l1 S h => zD_icst (n := (-1)) (by decide +kernel) (by decide +kernel),
  fun l0 l1 x y r h => zD_if (cnd := .ne) (off := 15) (by decide +kernel) (by decide) rfl,
  fun l1 x S h => zD_op (ins := .aload_n 0) (len := 1) (c := (29, [some (.ref x), l1], (.ref x :: S), h)) (by decide +kernel) rfl rfl rfl rfl,
  fun l0 l1 a r h hcat hr hC => zD_callv (i := 105) (y := 80) (n := 0) (as := []) (ci := 9) (by decide +kernel) (by decide +kernel) rfl (by decide +kernel) (Nat.le_of_ble_eq_true rfl) (by decide +kernel) hcat hr hC,
  fun l0 l1 x r h => zD_if0 (cnd := .ne) (off := 8) (by decide +kernel) (by decide) rfl,
  fun l0 l1 S h => zD_bip (n := (-103)) (by decide +kernel) (by decide +kernel),
  fun l0 l1 S h => zD_goto (off := 4) (by decide +kernel) (by decide),
  fun l0 l1 S h => zD_icst (n := 0) (by decide +kernel) (by decide +kernel),
  fun l0 l1 v h => zD_ireti (by decide +kernel) rfl⟩
set_option maxRecDepth 100000 in
theorem I_X10_barred : (∀ (a : Nat) (p0 : Int32) (h : zH), zC 124 [.ref a, .int p0] h = zD 124 0 [some (.ref a), some (.int p0)] [] h) :=
  fun a p0 h => zC_def rfl
set_option maxRecDepth 100000 in
theorem E_X10_unlike : (∀ (l0 l2 l3 : Option Value) (x : Int32) (S : List Value) (h : zH), zD 125 0 [l0, some (.int x), l2, l3] S h = zD 125 1 [l0, some (.int x), l2, l3] (.int x :: S) h) ∧
  (∀ (l0 l1 l2 l3 : Option Value) (S : List Value) (h : zH), zD 125 1 [l0, l1, l2, l3] S h = zD 125 2 [l0, l1, l2, l3] (.int (-1 : Int32) :: S) h) ∧
  (∀ (l0 l1 l2 l3 : Option Value) (x y : Int32) (r : List Value) (h : zH), zD 125 2 [l0, l1, l2, l3] (.int y :: .int x :: r) h = if x = y then zD 125 13 [l0, l1, l2, l3] r h else zD 125 5 [l0, l1, l2, l3] r h) ∧
  (∀ (l1 l2 l3 : Option Value) (x : Nat) (S : List Value) (h : zH), zD 125 5 [some (.ref x), l1, l2, l3] S h = zD 125 6 [some (.ref x), l1, l2, l3] (.ref x :: S) h) ∧
  (∀ (l0 l2 l3 : Option Value) (x : Int32) (S : List Value) (h : zH), zD 125 6 [l0, some (.int x), l2, l3] S h = zD 125 7 [l0, some (.int x), l2, l3] (.int x :: S) h) ∧
  (∀ (l0 l1 l2 l3 : Option Value) (p0 : Int32) (a : Nat) (r : List Value) (h : zH) (hcat : zcat r ≤ 8) (hr : zis (h.2.2 a) 9 = true) (hC : (zC 81 (.ref a :: [.int p0]) h).isSome = true), zD 125 7 [l0, l1, l2, l3] (.int p0 :: .ref a :: r) h = zD 125 10 [l0, l1, l2, l3] (zgv (zC 81 (.ref a :: [.int p0]) h) ++ r) (zgh h (zC 81 (.ref a :: [.int p0]) h))) ∧
  (∀ (l0 l1 l2 l3 : Option Value) (x : Int32) (r : List Value) (h : zH), zD 125 10 [l0, l1, l2, l3] (.int x :: r) h = if x = 0 then zD 125 26 [l0, l1, l2, l3] r h else zD 125 13 [l0, l1, l2, l3] r h) ∧
  (∀ (l0 l1 l3 : Option Value) (x : Int32) (S : List Value) (h : zH), zD 125 13 [l0, l1, some (.int x), l3] S h = zD 125 14 [l0, l1, some (.int x), l3] (.int x :: S) h) ∧
  (∀ (l0 l1 l2 l3 : Option Value) (S : List Value) (h : zH), zD 125 14 [l0, l1, l2, l3] S h = zD 125 15 [l0, l1, l2, l3] (.int (-1 : Int32) :: S) h) ∧
  (∀ (l0 l1 l2 l3 : Option Value) (x y : Int32) (r : List Value) (h : zH), zD 125 15 [l0, l1, l2, l3] (.int y :: .int x :: r) h = if x = y then zD 125 29 [l0, l1, l2, l3] r h else zD 125 18 [l0, l1, l2, l3] r h) ∧
  (∀ (l1 l2 l3 : Option Value) (x : Nat) (S : List Value) (h : zH), zD 125 18 [some (.ref x), l1, l2, l3] S h = zD 125 19 [some (.ref x), l1, l2, l3] (.ref x :: S) h) ∧
  (∀ (l0 l1 l3 : Option Value) (x : Int32) (S : List Value) (h : zH), zD 125 19 [l0, l1, some (.int x), l3] S h = zD 125 20 [l0, l1, some (.int x), l3] (.int x :: S) h) ∧
  (∀ (l0 l1 l2 l3 : Option Value) (p0 : Int32) (a : Nat) (r : List Value) (h : zH) (hcat : zcat r ≤ 8) (hr : zis (h.2.2 a) 9 = true) (hC : (zC 81 (.ref a :: [.int p0]) h).isSome = true), zD 125 20 [l0, l1, l2, l3] (.int p0 :: .ref a :: r) h = zD 125 23 [l0, l1, l2, l3] (zgv (zC 81 (.ref a :: [.int p0]) h) ++ r) (zgh h (zC 81 (.ref a :: [.int p0]) h))) ∧
  (∀ (l0 l1 l2 l3 : Option Value) (x : Int32) (r : List Value) (h : zH), zD 125 23 [l0, l1, l2, l3] (.int x :: r) h = if ¬ x = 0 then zD 125 29 [l0, l1, l2, l3] r h else zD 125 26 [l0, l1, l2, l3] r h) ∧
  (∀ (l0 l1 l2 l3 : Option Value) (S : List Value) (h : zH), zD 125 26 [l0, l1, l2, l3] S h = zD 125 28 [l0, l1, l2, l3] (.int (-101 : Int32) :: S) h) ∧
  (∀ (l0 l1 l2 l3 : Option Value) (v : Int32) (h : zH), zD 125 28 [l0, l1, l2, l3] [.int v] h = some (some (.int v), h)) ∧
  (∀ (l0 l2 l3 : Option Value) (x : Int32) (S : List Value) (h : zH), zD 125 29 [l0, some (.int x), l2, l3] S h = zD 125 30 [l0, some (.int x), l2, l3] (.int x :: S) h) ∧
  (∀ (l0 l1 l2 l3 : Option Value) (S : List Value) (h : zH), zD 125 30 [l0, l1, l2, l3] S h = zD 125 31 [l0, l1, l2, l3] (.int (-1 : Int32) :: S) h) ∧
  (∀ (l0 l1 l2 l3 : Option Value) (x y : Int32) (r : List Value) (h : zH), zD 125 31 [l0, l1, l2, l3] (.int y :: .int x :: r) h = if x = y then zD 125 39 [l0, l1, l2, l3] r h else zD 125 34 [l0, l1, l2, l3] r h) ∧
  (∀ (l0 l1 l3 : Option Value) (x : Int32) (S : List Value) (h : zH), zD 125 34 [l0, l1, some (.int x), l3] S h = zD 125 35 [l0, l1, some (.int x), l3] (.int x :: S) h) ∧
  (∀ (l0 l1 l2 l3 : Option Value) (S : List Value) (h : zH), zD 125 35 [l0, l1, l2, l3] S h = zD 125 36 [l0, l1, l2, l3] (.int (-1 : Int32) :: S) h) ∧
  (∀ (l0 l1 l2 l3 : Option Value) (x y : Int32) (r : List Value) (h : zH), zD 125 36 [l0, l1, l2, l3] (.int y :: .int x :: r) h = if ¬ x = y then zD 125 43 [l0, l1, l2, l3] r h else zD 125 39 [l0, l1, l2, l3] r h) ∧
  (∀ (l0 l1 l2 l3 : Option Value) (S : List Value) (h : zH), zD 125 39 [l0, l1, l2, l3] S h = zD 125 40 [l0, l1, l2, l3] (.int (1 : Int32) :: S) h) ∧
  (∀ (l0 l1 l2 l3 : Option Value) (S : List Value) (h : zH), zD 125 40 [l0, l1, l2, l3] S h = zD 125 44 [l0, l1, l2, l3] S h) ∧
  (∀ (l0 l1 l2 l3 : Option Value) (S : List Value) (h : zH), zD 125 43 [l0, l1, l2, l3] S h = zD 125 44 [l0, l1, l2, l3] (.int (0 : Int32) :: S) h) ∧
  (∀ (l0 l1 l2 l3 : Option Value) (x : Int32) (r : List Value) (h : zH), zD 125 44 [l0, l1, l2, l3] (.int x :: r) h = zD 125 45 [l0, l1, zclr l2, some (.int x)] r h) ∧
  (∀ (l0 l1 l2 : Option Value) (x : Int32) (S : List Value) (h : zH), zD 125 45 [l0, l1, l2, some (.int x)] S h = zD 125 46 [l0, l1, l2, some (.int x)] (.int x :: S) h) ∧
  (∀ (l0 l1 l2 l3 : Option Value) (x : Int32) (r : List Value) (h : zH), zD 125 46 [l0, l1, l2, l3] (.int x :: r) h = if x = 0 then zD 125 56 [l0, l1, l2, l3] r h else zD 125 49 [l0, l1, l2, l3] r h) ∧
  (∀ (l1 l2 l3 : Option Value) (x : Nat) (S : List Value) (h : zH), zD 125 49 [some (.ref x), l1, l2, l3] S h = zD 125 50 [some (.ref x), l1, l2, l3] (.ref x :: S) h) ∧
  (∀ (l0 l1 l2 l3 : Option Value) (a : Nat) (r : List Value) (h : zH) (hcat : zcat r ≤ 8) (hr : zis (h.2.2 a) 9 = true) (hC : (zC 80 [.ref a] h).isSome = true), zD 125 50 [l0, l1, l2, l3] (.ref a :: r) h = zD 125 53 [l0, l1, l2, l3] (zgv (zC 80 [.ref a] h) ++ r) (zgh h (zC 80 [.ref a] h))) ∧
  (∀ (l0 l1 l2 l3 : Option Value) (x : Int32) (r : List Value) (h : zH), zD 125 53 [l0, l1, l2, l3] (.int x :: r) h = if x = 0 then zD 125 69 [l0, l1, l2, l3] r h else zD 125 56 [l0, l1, l2, l3] r h) ∧
  (∀ (l1 l2 l3 : Option Value) (x : Nat) (S : List Value) (h : zH), zD 125 56 [some (.ref x), l1, l2, l3] S h = zD 125 57 [some (.ref x), l1, l2, l3] (.ref x :: S) h) ∧
  (∀ (l0 l2 l3 : Option Value) (x : Int32) (S : List Value) (h : zH), zD 125 57 [l0, some (.int x), l2, l3] S h = zD 125 58 [l0, some (.int x), l2, l3] (.int x :: S) h) ∧
  (∀ (l0 l1 l2 l3 : Option Value) (p0 : Int32) (a : Nat) (r : List Value) (h : zH) (hcat : zcat r ≤ 8) (hr : zis (h.2.2 a) 9 = true) (hC : (zC 36 (.ref a :: [.int p0]) h).isSome = true), zD 125 58 [l0, l1, l2, l3] (.int p0 :: .ref a :: r) h = zD 125 61 [l0, l1, l2, l3] (zgv (zC 36 (.ref a :: [.int p0]) h) ++ r) (zgh h (zC 36 (.ref a :: [.int p0]) h))) ∧
  (∀ (l1 l2 l3 : Option Value) (x : Nat) (S : List Value) (h : zH), zD 125 61 [some (.ref x), l1, l2, l3] S h = zD 125 62 [some (.ref x), l1, l2, l3] (.ref x :: S) h) ∧
  (∀ (l0 l1 l3 : Option Value) (x : Int32) (S : List Value) (h : zH), zD 125 62 [l0, l1, some (.int x), l3] S h = zD 125 63 [l0, l1, some (.int x), l3] (.int x :: S) h) ∧
  (∀ (l0 l1 l2 l3 : Option Value) (p0 : Int32) (a : Nat) (r : List Value) (h : zH) (hcat : zcat r ≤ 8) (hr : zis (h.2.2 a) 9 = true) (hC : (zC 36 (.ref a :: [.int p0]) h).isSome = true), zD 125 63 [l0, l1, l2, l3] (.int p0 :: .ref a :: r) h = zD 125 66 [l0, l1, l2, l3] (zgv (zC 36 (.ref a :: [.int p0]) h) ++ r) (zgh h (zC 36 (.ref a :: [.int p0]) h))) ∧
  (∀ (l0 l1 l2 l3 : Option Value) (x y : Int32) (r : List Value) (h : zH), zD 125 66 [l0, l1, l2, l3] (.int y :: .int x :: r) h = if x = y then zD 125 74 [l0, l1, l2, l3] r h else zD 125 69 [l0, l1, l2, l3] r h) ∧
  (∀ (l0 l1 l2 l3 : Option Value) (S : List Value) (h : zH), zD 125 69 [l0, l1, l2, l3] S h = zD 125 71 [l0, l1, l2, l3] (.int (-103 : Int32) :: S) h) ∧
  (∀ (l0 l1 l2 l3 : Option Value) (S : List Value) (h : zH), zD 125 71 [l0, l1, l2, l3] S h = zD 125 75 [l0, l1, l2, l3] S h) ∧
  (∀ (l0 l1 l2 l3 : Option Value) (S : List Value) (h : zH), zD 125 74 [l0, l1, l2, l3] S h = zD 125 75 [l0, l1, l2, l3] (.int (0 : Int32) :: S) h) ∧
  (∀ (l0 l1 l2 l3 : Option Value) (v : Int32) (h : zH), zD 125 75 [l0, l1, l2, l3] [.int v] h = some (some (.int v), h)) :=
  ⟨fun l0 l2 l3 x S h => zD_op (ins := .iload_n 1) (len := 1) (c := (1, [l0, some (.int x), l2, l3], (.int x :: S), h)) (by decide +kernel) rfl rfl rfl rfl,
  fun l0 l1 l2 l3 S h => zD_icst (n := (-1)) (by decide +kernel) (by decide +kernel),
  fun l0 l1 l2 l3 x y r h => zD_if (cnd := .eq) (off := 11) (by decide +kernel) (by decide) rfl,
  fun l1 l2 l3 x S h => zD_op (ins := .aload_n 0) (len := 1) (c := (6, [some (.ref x), l1, l2, l3], (.ref x :: S), h)) (by decide +kernel) rfl rfl rfl rfl,
  fun l0 l2 l3 x S h => zD_op (ins := .iload_n 1) (len := 1) (c := (7, [l0, some (.int x), l2, l3], (.int x :: S), h)) (by decide +kernel) rfl rfl rfl rfl,
  fun l0 l1 l2 l3 p0 a r h hcat hr hC => zD_callv (i := 129) (y := 81) (n := 1) (as := [.int p0]) (ci := 9) (by decide +kernel) (by decide +kernel) rfl (by decide +kernel) (Nat.le_of_ble_eq_true rfl) (by decide +kernel) hcat hr hC,
  fun l0 l1 l2 l3 x r h => zD_if0 (cnd := .eq) (off := 16) (by decide +kernel) (by decide) rfl,
  fun l0 l1 l3 x S h => zD_op (ins := .iload_n 2) (len := 1) (c := (14, [l0, l1, some (.int x), l3], (.int x :: S), h)) (by decide +kernel) rfl rfl rfl rfl,
  fun l0 l1 l2 l3 S h => zD_icst (n := (-1)) (by decide +kernel) (by decide +kernel),
  fun l0 l1 l2 l3 x y r h => zD_if (cnd := .eq) (off := 14) (by decide +kernel) (by decide) rfl,
  fun l1 l2 l3 x S h => zD_op (ins := .aload_n 0) (len := 1) (c := (19, [some (.ref x), l1, l2, l3], (.ref x :: S), h)) (by decide +kernel) rfl rfl rfl rfl,
  fun l0 l1 l3 x S h => zD_op (ins := .iload_n 2) (len := 1) (c := (20, [l0, l1, some (.int x), l3], (.int x :: S), h)) (by decide +kernel) rfl rfl rfl rfl,
  fun l0 l1 l2 l3 p0 a r h hcat hr hC => zD_callv (i := 129) (y := 81) (n := 1) (as := [.int p0]) (ci := 9) (by decide +kernel) (by decide +kernel) rfl (by decide +kernel) (Nat.le_of_ble_eq_true rfl) (by decide +kernel) hcat hr hC,
  fun l0 l1 l2 l3 x r h => zD_if0 (cnd := .ne) (off := 6) (by decide +kernel) (by decide) rfl,
  fun l0 l1 l2 l3 S h => zD_bip (n := (-101)) (by decide +kernel) (by decide +kernel),
  fun l0 l1 l2 l3 v h => zD_ireti (by decide +kernel) rfl,
  fun l0 l2 l3 x S h => zD_op (ins := .iload_n 1) (len := 1) (c := (30, [l0, some (.int x), l2, l3], (.int x :: S), h)) (by decide +kernel) rfl rfl rfl rfl,
  fun l0 l1 l2 l3 S h => zD_icst (n := (-1)) (by decide +kernel) (by decide +kernel),
  fun l0 l1 l2 l3 x y r h => zD_if (cnd := .eq) (off := 8) (by decide +kernel) (by decide) rfl,
  fun l0 l1 l3 x S h => zD_op (ins := .iload_n 2) (len := 1) (c := (35, [l0, l1, some (.int x), l3], (.int x :: S), h)) (by decide +kernel) rfl rfl rfl rfl,
  fun l0 l1 l2 l3 S h => zD_icst (n := (-1)) (by decide +kernel) (by decide +kernel),
  fun l0 l1 l2 l3 x y r h => zD_if (cnd := .ne) (off := 7) (by decide +kernel) (by decide) rfl,
  fun l0 l1 l2 l3 S h => zD_icst (n := 1) (by decide +kernel) (by decide +kernel),
  fun l0 l1 l2 l3 S h => zD_goto (off := 4) (by decide +kernel) (by decide),
  fun l0 l1 l2 l3 S h => zD_icst (n := 0) (by decide +kernel) (by decide +kernel),
  fun l0 l1 l2 l3 x r h => zD_st1 (k := 3) (ins := .istore_n 3) (len := 1) (by decide +kernel) rfl rfl rfl (by decide +kernel) rfl rfl,
  fun l0 l1 l2 x S h => zD_op (ins := .iload_n 3) (len := 1) (c := (46, [l0, l1, l2, some (.int x)], (.int x :: S), h)) (by decide +kernel) rfl rfl rfl rfl,
  fun l0 l1 l2 l3 x r h => zD_if0 (cnd := .eq) (off := 10) (by decide +kernel) (by decide) rfl,
  fun l1 l2 l3 x S h => zD_op (ins := .aload_n 0) (len := 1) (c := (50, [some (.ref x), l1, l2, l3], (.ref x :: S), h)) (by decide +kernel) rfl rfl rfl rfl,
  fun l0 l1 l2 l3 a r h hcat hr hC => zD_callv (i := 105) (y := 80) (n := 0) (as := []) (ci := 9) (by decide +kernel) (by decide +kernel) rfl (by decide +kernel) (Nat.le_of_ble_eq_true rfl) (by decide +kernel) hcat hr hC,
  fun l0 l1 l2 l3 x r h => zD_if0 (cnd := .eq) (off := 16) (by decide +kernel) (by decide) rfl,
  fun l1 l2 l3 x S h => zD_op (ins := .aload_n 0) (len := 1) (c := (57, [some (.ref x), l1, l2, l3], (.ref x :: S), h)) (by decide +kernel) rfl rfl rfl rfl,
  fun l0 l2 l3 x S h => zD_op (ins := .iload_n 1) (len := 1) (c := (58, [l0, some (.int x), l2, l3], (.int x :: S), h)) (by decide +kernel) rfl rfl rfl rfl,
  fun l0 l1 l2 l3 p0 a r h hcat hr hC => zD_callv (i := 153) (y := 36) (n := 1) (as := [.int p0]) (ci := 9) (by decide +kernel) (by decide +kernel) rfl (by decide +kernel) (Nat.le_of_ble_eq_true rfl) (by decide +kernel) hcat hr hC,
  fun l1 l2 l3 x S h => zD_op (ins := .aload_n 0) (len := 1) (c := (62, [some (.ref x), l1, l2, l3], (.ref x :: S), h)) (by decide +kernel) rfl rfl rfl rfl,
  fun l0 l1 l3 x S h => zD_op (ins := .iload_n 2) (len := 1) (c := (63, [l0, l1, some (.int x), l3], (.int x :: S), h)) (by decide +kernel) rfl rfl rfl rfl,
  fun l0 l1 l2 l3 p0 a r h hcat hr hC => zD_callv (i := 153) (y := 36) (n := 1) (as := [.int p0]) (ci := 9) (by decide +kernel) (by decide +kernel) rfl (by decide +kernel) (Nat.le_of_ble_eq_true rfl) (by decide +kernel) hcat hr hC,
  fun l0 l1 l2 l3 x y r h => zD_if (cnd := .eq) (off := 8) (by decide +kernel) (by decide) rfl,
  fun l0 l1 l2 l3 S h => zD_bip (n := (-103)) (by decide +kernel) (by decide +kernel),
  fun l0 l1 l2 l3 S h => zD_goto (off := 4) (by decide +kernel) (by decide),
  fun l0 l1 l2 l3 S h => zD_icst (n := 0) (by decide +kernel) (by decide +kernel),
  fun l0 l1 l2 l3 v h => zD_ireti (by decide +kernel) rfl⟩
set_option maxRecDepth 100000 in
theorem I_X10_unlike : (∀ (a : Nat) (p0 : Int32) (p1 : Int32) (h : zH), zC 125 [.ref a, .int p0, .int p1] h = zD 125 0 [some (.ref a), some (.int p0), some (.int p1), none] [] h) :=
  fun a p0 p1 h => zC_def rfl
set_option maxRecDepth 100000 in
theorem E_X0_hangLast : (∀ (l0 l1 l3 l4 l5 l6 : Option Value) (x : Int32) (S : List Value) (h : zH), zD 126 0 [l0, l1, some (.int x), l3, l4, l5, l6] S h = zD 126 1 [l0, l1, some (.int x), l3, l4, l5, l6] (.int x :: S) h) ∧
  (∀ (l0 l1 l2 l3 l4 l5 l6 : Option Value) (S : List Value) (h : zH), zD 126 1 [l0, l1, l2, l3, l4, l5, l6] S h = zD 126 2 [l0, l1, l2, l3, l4, l5, l6] (.int (1 : Int32) :: S) h) ∧
  (∀ (l0 l1 l2 l4 l5 l6 : Option Value) (x : Int32) (S : List Value) (h : zH), zD 126 2 [l0, l1, l2, some (.int x), l4, l5, l6] S h = zD 126 3 [l0, l1, l2, some (.int x), l4, l5, l6] (.int x :: S) h) ∧
  (∀ (l0 l1 l2 l3 l4 l5 l6 : Option Value) (S : List Value) (h : zH), zD 126 3 [l0, l1, l2, l3, l4, l5, l6] S h = zD 126 4 [l0, l1, l2, l3, l4, l5, l6] (.int (1 : Int32) :: S) h) ∧
  (∀ (l0 l1 l2 l3 l4 l5 l6 : Option Value) (x y : Int32) (r : List Value) (h : zH), zD 126 4 [l0, l1, l2, l3, l4, l5, l6] (.int y :: .int x :: r) h = zD 126 5 [l0, l1, l2, l3, l4, l5, l6] (.int (x - y) :: r) h) ∧
  (∀ (l0 l1 l2 l3 l4 l5 l6 : Option Value) (x y : Int32) (r : List Value) (h : zH), zD 126 5 [l0, l1, l2, l3, l4, l5, l6] (.int y :: .int x :: r) h = zD 126 6 [l0, l1, l2, l3, l4, l5, l6] (.int (x <<< (y &&& 31)) :: r) h) ∧
  (∀ (l0 l1 l2 l3 l4 l5 l6 : Option Value) (S : List Value) (h : zH), zD 126 6 [l0, l1, l2, l3, l4, l5, l6] S h = zD 126 7 [l0, l1, l2, l3, l4, l5, l6] (.int (-1 : Int32) :: S) h) ∧
  (∀ (l0 l1 l2 l3 l4 l5 l6 : Option Value) (x y : Int32) (r : List Value) (h : zH), zD 126 7 [l0, l1, l2, l3, l4, l5, l6] (.int y :: .int x :: r) h = zD 126 8 [l0, l1, l2, l3, l4, l5, l6] (.int (x ^^^ y) :: r) h) ∧
  (∀ (l0 l1 l2 l3 l4 l5 l6 : Option Value) (x y : Int32) (r : List Value) (h : zH), zD 126 8 [l0, l1, l2, l3, l4, l5, l6] (.int y :: .int x :: r) h = zD 126 9 [l0, l1, l2, l3, l4, l5, l6] (.int (x &&& y) :: r) h) ∧
  (∀ (l0 l1 l2 l3 l4 l5 l6 : Option Value) (x : Int32) (r : List Value) (h : zH), zD 126 9 [l0, l1, l2, l3, l4, l5, l6] (.int x :: r) h = zD 126 11 [l0, l1, l2, zclr l3, some (.int x), l5, l6] r h) ∧
  (∀ (l0 l1 l2 l3 l5 l6 : Option Value) (x : Int32) (S : List Value) (h : zH), zD 126 11 [l0, l1, l2, l3, some (.int x), l5, l6] S h = zD 126 13 [l0, l1, l2, l3, some (.int x), l5, l6] (.int x :: S) h) ∧
  (∀ (l0 l1 l2 l3 l4 l5 l6 : Option Value) (S : List Value) (h : zH), zD 126 13 [l0, l1, l2, l3, l4, l5, l6] S h = zD 126 14 [l0, l1, l2, l3, l4, l5, l6] (.int (1 : Int32) :: S) h) ∧
  (∀ (l0 l1 l2 l3 l4 l5 l6 : Option Value) (x y : Int32) (r : List Value) (h : zH), zD 126 14 [l0, l1, l2, l3, l4, l5, l6] (.int y :: .int x :: r) h = zD 126 15 [l0, l1, l2, l3, l4, l5, l6] (.int (x <<< (y &&& 31)) :: r) h) ∧
  (∀ (l0 l1 l2 l3 l4 l5 l6 : Option Value) (S : List Value) (h : zH), zD 126 15 [l0, l1, l2, l3, l4, l5, l6] S h = zD 126 16 [l0, l1, l2, l3, l4, l5, l6] (.int (1 : Int32) :: S) h) ∧
  (∀ (l0 l1 l2 l3 l4 l5 l6 : Option Value) (x y : Int32) (r : List Value) (h : zH), zD 126 16 [l0, l1, l2, l3, l4, l5, l6] (.int y :: .int x :: r) h = zD 126 17 [l0, l1, l2, l3, l4, l5, l6] (.int (x ||| y) :: r) h) ∧
  (∀ (l0 l1 l2 l3 l4 l5 l6 : Option Value) (x : Int32) (r : List Value) (h : zH), zD 126 17 [l0, l1, l2, l3, l4, l5, l6] (.int x :: r) h = zD 126 19 [l0, l1, l2, l3, zclr l4, some (.int x), l6] r h) ∧
  (∀ (l0 l1 l2 l3 l4 l5 l6 : Option Value) (S : List Value) (h : zH), zD 126 19 [l0, l1, l2, l3, l4, l5, l6] S h = zD 126 20 [l0, l1, l2, l3, l4, l5, l6] (.int (0 : Int32) :: S) h) ∧
  (∀ (l0 l1 l2 l3 l4 l5 l6 : Option Value) (x : Int32) (r : List Value) (h : zH), zD 126 20 [l0, l1, l2, l3, l4, l5, l6] (.int x :: r) h = zD 126 22 [l0, l1, l2, l3, l4, zclr l5, some (.int x)] r h) ∧
  (∀ (l0 l1 l2 l3 l4 l5 l6 : Option Value) (S : List Value) (h : zH), zD 126 24 [l0, l1, l2, l3, l4, l5, l6] S h = zD 126 26 [l0, l1, l2, l3, l4, l5, l6] (.int (8 : Int32) :: S) h) ∧
  (∀ (l0 l1 l2 l3 l4 l5 l6 : Option Value) (x y : Int32) (r : List Value) (h : zH), zD 126 26 [l0, l1, l2, l3, l4, l5, l6] (.int y :: .int x :: r) h = if y ≤ x then zD 126 81 [l0, l1, l2, l3, l4, l5, l6] r h else zD 126 29 [l0, l1, l2, l3, l4, l5, l6] r h) ∧
  (∀ (l0 l1 l2 l3 l4 l6 : Option Value) (x : Int32) (S : List Value) (h : zH), zD 126 29 [l0, l1, l2, l3, l4, some (.int x), l6] S h = zD 126 31 [l0, l1, l2, l3, l4, some (.int x), l6] (.int x :: S) h) ∧
  (∀ (l0 l1 l2 l3 l4 l5 : Option Value) (x : Int32) (S : List Value) (h : zH), zD 126 31 [l0, l1, l2, l3, l4, l5, some (.int x)] S h = zD 126 33 [l0, l1, l2, l3, l4, l5, some (.int x)] (.int x :: S) h) ∧
  (∀ (l0 l1 l2 l3 l4 l5 l6 : Option Value) (x y : Int32) (r : List Value) (h : zH), zD 126 33 [l0, l1, l2, l3, l4, l5, l6] (.int y :: .int x :: r) h = zD 126 34 [l0, l1, l2, l3, l4, l5, l6] (.int (x >>> (y &&& 31)) :: r) h) ∧
  (∀ (l0 l1 l2 l3 l4 l5 l6 : Option Value) (S : List Value) (h : zH), zD 126 34 [l0, l1, l2, l3, l4, l5, l6] S h = zD 126 35 [l0, l1, l2, l3, l4, l5, l6] (.int (1 : Int32) :: S) h) ∧
  (∀ (l0 l1 l2 l3 l4 l5 l6 : Option Value) (x y : Int32) (r : List Value) (h : zH), zD 126 35 [l0, l1, l2, l3, l4, l5, l6] (.int y :: .int x :: r) h = zD 126 36 [l0, l1, l2, l3, l4, l5, l6] (.int (x &&& y) :: r) h) ∧
  (∀ (l0 l1 l2 l3 l4 l5 l6 : Option Value) (x : Int32) (r : List Value) (h : zH), zD 126 36 [l0, l1, l2, l3, l4, l5, l6] (.int x :: r) h = if x = 0 then zD 126 75 [l0, l1, l2, l3, l4, l5, l6] r h else zD 126 39 [l0, l1, l2, l3, l4, l5, l6] r h) ∧
  (∀ (l0 l2 l3 l4 l5 l6 : Option Value) (x : Nat) (S : List Value) (h : zH), zD 126 39 [l0, some (.ref x), l2, l3, l4, l5, l6] S h = zD 126 40 [l0, some (.ref x), l2, l3, l4, l5, l6] (.ref x :: S) h) ∧
  (∀ (l0 l2 l3 l4 l5 l6 : Option Value) (S : List Value) (h : zH), zD 126 39 [l0, some .null, l2, l3, l4, l5, l6] S h = zD 126 40 [l0, some .null, l2, l3, l4, l5, l6] (.null :: S) h) ∧
  (∀ (l0 l1 l2 l3 l4 l5 : Option Value) (x : Int32) (S : List Value) (h : zH), zD 126 40 [l0, l1, l2, l3, l4, l5, some (.int x)] S h = zD 126 42 [l0, l1, l2, l3, l4, l5, some (.int x)] (.int x :: S) h) ∧
  (∀ (l0 l1 l2 l4 l5 l6 : Option Value) (x : Int32) (S : List Value) (h : zH), zD 126 42 [l0, l1, l2, some (.int x), l4, l5, l6] S h = zD 126 43 [l0, l1, l2, some (.int x), l4, l5, l6] (.int x :: S) h) ∧
  (∀ (l0 l1 l2 l3 l4 l5 l6 : Option Value) (p0 : Int32) (p1 : Int32) (a : Nat) (r : List Value) (h : zH) (hcat : zcat r ≤ 8) (hr : zis (h.2.2 a) 2 = true) (hC : (zC 48 (.ref a :: [.int p0, .int p1]) h).isSome = true), zD 126 43 [l0, l1, l2, l3, l4, l5, l6] (.int p1 :: .int p0 :: .ref a :: r) h = zD 126 46 [l0, l1, l2, l3, l4, l5, l6] (zgv (zC 48 (.ref a :: [.int p0, .int p1]) h) ++ r) (zgh h (zC 48 (.ref a :: [.int p0, .int p1]) h))) ∧
  (∀ (l0 l1 l2 l3 l4 l5 l6 : Option Value) (x : Int32) (r : List Value) (h : zH), zD 126 46 [l0, l1, l2, l3, l4, l5, l6] (.int x :: r) h = if x = 0 then zD 126 75 [l0, l1, l2, l3, l4, l5, l6] r h else zD 126 49 [l0, l1, l2, l3, l4, l5, l6] r h) ∧
  (∀ (l1 l2 l3 l4 l5 l6 : Option Value) (x : Nat) (S : List Value) (h : zH), zD 126 49 [some (.ref x), l1, l2, l3, l4, l5, l6] S h = zD 126 50 [some (.ref x), l1, l2, l3, l4, l5, l6] (.ref x :: S) h) ∧
  (∀ (l0 l1 l2 l3 l4 l5 l6 : Option Value) (a : Nat) (r : List Value) (h : zH) (hx : zfok (h.2.2 a) 0 0 = true), zD 126 50 [l0, l1, l2, l3, l4, l5, l6] (.ref a :: r) h = zD 126 53 [l0, l1, l2, l3, l4, l5, l6] (zfv (h.2.2 a) 0 :: r) h) ∧
  (∀ (l0 l1 l3 l4 l5 l6 : Option Value) (x : Int32) (S : List Value) (h : zH), zD 126 53 [l0, l1, some (.int x), l3, l4, l5, l6] S h = zD 126 54 [l0, l1, some (.int x), l3, l4, l5, l6] (.int x :: S) h) ∧
  (∀ (l0 l1 l2 l3 l4 l5 l6 : Option Value) (i : Int32) (a : Nat) (r : List Value) (h : zH) (hx : zrok (h.2.2 a) i = true), zD 126 54 [l0, l1, l2, l3, l4, l5, l6] (.int i :: .ref a :: r) h = zD 126 55 [l0, l1, l2, l3, l4, l5, l6] (zrv' (h.2.2 a) i :: r) h) ∧
  (∀ (l1 l2 l3 l4 l5 l6 : Option Value) (x : Nat) (S : List Value) (h : zH), zD 126 55 [some (.ref x), l1, l2, l3, l4, l5, l6] S h = zD 126 56 [some (.ref x), l1, l2, l3, l4, l5, l6] (.ref x :: S) h) ∧
  (∀ (l0 l1 l2 l3 l4 l5 l6 : Option Value) (a : Nat) (r : List Value) (h : zH) (hx : zfok (h.2.2 a) 0 0 = true), zD 126 56 [l0, l1, l2, l3, l4, l5, l6] (.ref a :: r) h = zD 126 59 [l0, l1, l2, l3, l4, l5, l6] (zfv (h.2.2 a) 0 :: r) h) ∧
  (∀ (l0 l1 l2 l3 l5 l6 : Option Value) (x : Int32) (S : List Value) (h : zH), zD 126 59 [l0, l1, l2, l3, some (.int x), l5, l6] S h = zD 126 61 [l0, l1, l2, l3, some (.int x), l5, l6] (.int x :: S) h) ∧
  (∀ (l0 l1 l2 l3 l4 l5 l6 : Option Value) (i : Int32) (a : Nat) (r : List Value) (h : zH) (hx : zrok (h.2.2 a) i = true), zD 126 61 [l0, l1, l2, l3, l4, l5, l6] (.int i :: .ref a :: r) h = zD 126 62 [l0, l1, l2, l3, l4, l5, l6] (zrv' (h.2.2 a) i :: r) h) ∧
  (∀ (l0 l1 l2 l3 l4 l5 l6 : Option Value) (S : List Value) (h : zH), zD 126 62 [l0, l1, l2, l3, l4, l5, l6] S h = zD 126 64 [l0, l1, l2, l3, l4, l5, l6] (.int (31 : Int32) :: S) h) ∧
  (∀ (l0 l2 l3 l4 l5 l6 : Option Value) (x : Nat) (S : List Value) (h : zH), zD 126 64 [l0, some (.ref x), l2, l3, l4, l5, l6] S h = zD 126 65 [l0, some (.ref x), l2, l3, l4, l5, l6] (.ref x :: S) h) ∧
  (∀ (l0 l2 l3 l4 l5 l6 : Option Value) (S : List Value) (h : zH), zD 126 64 [l0, some .null, l2, l3, l4, l5, l6] S h = zD 126 65 [l0, some .null, l2, l3, l4, l5, l6] (.null :: S) h) ∧
  (∀ (l0 l1 l2 l3 l4 l5 : Option Value) (x : Int32) (S : List Value) (h : zH), zD 126 65 [l0, l1, l2, l3, l4, l5, some (.int x)] S h = zD 126 67 [l0, l1, l2, l3, l4, l5, some (.int x)] (.int x :: S) h) ∧
  (∀ (l0 l1 l2 l4 l5 l6 : Option Value) (x : Int32) (S : List Value) (h : zH), zD 126 67 [l0, l1, l2, some (.int x), l4, l5, l6] S h = zD 126 68 [l0, l1, l2, some (.int x), l4, l5, l6] (.int x :: S) h) ∧
  (∀ (l0 l1 l2 l3 l4 l5 l6 : Option Value) (p0 : Int32) (p1 : Int32) (a : Nat) (r : List Value) (h : zH) (hcat : zcat r ≤ 8) (hr : zis (h.2.2 a) 2 = true) (hC : (zC 89 (.ref a :: [.int p0, .int p1]) h).isSome = true), zD 126 68 [l0, l1, l2, l3, l4, l5, l6] (.int p1 :: .int p0 :: .ref a :: r) h = zD 126 71 [l0, l1, l2, l3, l4, l5, l6] (zgv (zC 89 (.ref a :: [.int p0, .int p1]) h) ++ r) (zgh h (zC 89 (.ref a :: [.int p0, .int p1]) h))) ∧
  (∀ (l0 l1 l2 l3 l4 l5 l6 : Option Value) (p0 : Nat) (p1 : Int32) (p2 : Int64) (a : Nat) (r : List Value) (h : zH) (hcat : zcat r ≤ 8) (hr : zis (h.2.2 a) 7 = true) (hC : (zC 67 (.ref a :: [.ref p0, .int p1, .long p2]) h).isSome = true), zD 126 71 [l0, l1, l2, l3, l4, l5, l6] (.long p2 :: .int p1 :: .ref p0 :: .ref a :: r) h = zD 126 74 [l0, l1, l2, l3, l4, l5, l6] (zgv (zC 67 (.ref a :: [.ref p0, .int p1, .long p2]) h) ++ r) (zgh h (zC 67 (.ref a :: [.ref p0, .int p1, .long p2]) h))) ∧
  (∀ (l0 l1 l2 l3 l4 l5 l6 : Option Value) (x : Int32) (r : List Value) (h : zH), zD 126 74 [l0, l1, l2, l3, l4, l5, l6] (.int x :: r) h = zD 126 75 [l0, l1, l2, l3, l4, l5, l6] r h) ∧
  (∀ (l0 l1 l2 l3 l4 l5 l6 : Option Value) (x : Nat) (r : List Value) (h : zH), zD 126 74 [l0, l1, l2, l3, l4, l5, l6] (.ref x :: r) h = zD 126 75 [l0, l1, l2, l3, l4, l5, l6] r h) ∧
  (∀ (l0 l1 l2 l3 l4 l5 : Option Value) (x : Int32) (S : List Value) (h : zH), zD 126 75 [l0, l1, l2, l3, l4, l5, some (.int x)] S h = zD 126 78 [l0, l1, l2, l3, l4, zclr l5, some (.int (x + (1 : Int32)))] S h) ∧
  (∀ (l0 l1 l2 l3 l4 l5 l6 : Option Value) (S : List Value) (h : zH), zD 126 78 [l0, l1, l2, l3, l4, l5, l6] S h = zD 126 22 [l0, l1, l2, l3, l4, l5, l6] S h) ∧
  (∀ (l0 l1 l2 l3 l4 l5 l6 : Option Value) (h : zH), zD 126 81 [l0, l1, l2, l3, l4, l5, l6] [] h = some (none, h)) :=
  ⟨fun l0 l1 l3 l4 l5 l6 x S h => zD_op (ins := .iload_n 2) (len := 1) (c := (1, [l0, l1, some (.int x), l3, l4, l5, l6], (.int x :: S), h)) (by decide +kernel) rfl rfl rfl rfl,
  fun l0 l1 l2 l3 l4 l5 l6 S h => zD_icst (n := 1) (by decide +kernel) (by decide +kernel),
  fun l0 l1 l2 l4 l5 l6 x S h => zD_op (ins := .iload_n 3) (len := 1) (c := (3, [l0, l1, l2, some (.int x), l4, l5, l6], (.int x :: S), h)) (by decide +kernel) rfl rfl rfl rfl,
  fun l0 l1 l2 l3 l4 l5 l6 S h => zD_icst (n := 1) (by decide +kernel) (by decide +kernel),
  fun l0 l1 l2 l3 l4 l5 l6 x y r h => zD_op (ins := .isub) (len := 1) (c := (5, [l0, l1, l2, l3, l4, l5, l6], (.int (x - y) :: r), h)) (by decide +kernel) rfl rfl rfl rfl,
  fun l0 l1 l2 l3 l4 l5 l6 x y r h => zD_op (ins := .ishl) (len := 1) (c := (6, [l0, l1, l2, l3, l4, l5, l6], (.int (x <<< (y &&& 31)) :: r), h)) (by decide +kernel) rfl rfl rfl rfl,
  fun l0 l1 l2 l3 l4 l5 l6 S h => zD_icst (n := (-1)) (by decide +kernel) (by decide +kernel),
  fun l0 l1 l2 l3 l4 l5 l6 x y r h => zD_op (ins := .ixor) (len := 1) (c := (8, [l0, l1, l2, l3, l4, l5, l6], (.int (x ^^^ y) :: r), h)) (by decide +kernel) rfl rfl rfl rfl,
  fun l0 l1 l2 l3 l4 l5 l6 x y r h => zD_op (ins := .iand) (len := 1) (c := (9, [l0, l1, l2, l3, l4, l5, l6], (.int (x &&& y) :: r), h)) (by decide +kernel) rfl rfl rfl rfl,
  fun l0 l1 l2 l3 l4 l5 l6 x r h => zD_st1 (k := 4) (ins := .istore 4) (len := 2) (by decide +kernel) rfl rfl rfl (by decide +kernel) rfl rfl,
  fun l0 l1 l2 l3 l5 l6 x S h => zD_op (ins := .iload 4) (len := 2) (c := (13, [l0, l1, l2, l3, some (.int x), l5, l6], (.int x :: S), h)) (by decide +kernel) rfl rfl rfl rfl,
  fun l0 l1 l2 l3 l4 l5 l6 S h => zD_icst (n := 1) (by decide +kernel) (by decide +kernel),
  fun l0 l1 l2 l3 l4 l5 l6 x y r h => zD_op (ins := .ishl) (len := 1) (c := (15, [l0, l1, l2, l3, l4, l5, l6], (.int (x <<< (y &&& 31)) :: r), h)) (by decide +kernel) rfl rfl rfl rfl,
  fun l0 l1 l2 l3 l4 l5 l6 S h => zD_icst (n := 1) (by decide +kernel) (by decide +kernel),
  fun l0 l1 l2 l3 l4 l5 l6 x y r h => zD_op (ins := .ior) (len := 1) (c := (17, [l0, l1, l2, l3, l4, l5, l6], (.int (x ||| y) :: r), h)) (by decide +kernel) rfl rfl rfl rfl,
  fun l0 l1 l2 l3 l4 l5 l6 x r h => zD_st1 (k := 5) (ins := .istore 5) (len := 2) (by decide +kernel) rfl rfl rfl (by decide +kernel) rfl rfl,
  fun l0 l1 l2 l3 l4 l5 l6 S h => zD_icst (n := 0) (by decide +kernel) (by decide +kernel),
  fun l0 l1 l2 l3 l4 l5 l6 x r h => zD_st1 (k := 6) (ins := .istore 6) (len := 2) (by decide +kernel) rfl rfl rfl (by decide +kernel) rfl rfl,
  fun l0 l1 l2 l3 l4 l5 l6 S h => zD_bip (n := 8) (by decide +kernel) (by decide +kernel),
  fun l0 l1 l2 l3 l4 l5 l6 x y r h => zD_if (cnd := .ge) (off := 55) (by decide +kernel) (by decide) rfl,
  fun l0 l1 l2 l3 l4 l6 x S h => zD_op (ins := .iload 5) (len := 2) (c := (31, [l0, l1, l2, l3, l4, some (.int x), l6], (.int x :: S), h)) (by decide +kernel) rfl rfl rfl rfl,
  fun l0 l1 l2 l3 l4 l5 x S h => zD_op (ins := .iload 6) (len := 2) (c := (33, [l0, l1, l2, l3, l4, l5, some (.int x)], (.int x :: S), h)) (by decide +kernel) rfl rfl rfl rfl,
  fun l0 l1 l2 l3 l4 l5 l6 x y r h => zD_op (ins := .ishr) (len := 1) (c := (34, [l0, l1, l2, l3, l4, l5, l6], (.int (x >>> (y &&& 31)) :: r), h)) (by decide +kernel) rfl rfl rfl rfl,
  fun l0 l1 l2 l3 l4 l5 l6 S h => zD_icst (n := 1) (by decide +kernel) (by decide +kernel),
  fun l0 l1 l2 l3 l4 l5 l6 x y r h => zD_op (ins := .iand) (len := 1) (c := (36, [l0, l1, l2, l3, l4, l5, l6], (.int (x &&& y) :: r), h)) (by decide +kernel) rfl rfl rfl rfl,
  fun l0 l1 l2 l3 l4 l5 l6 x r h => zD_if0 (cnd := .eq) (off := 39) (by decide +kernel) (by decide) rfl,
  fun l0 l2 l3 l4 l5 l6 x S h => zD_op (ins := .aload_n 1) (len := 1) (c := (40, [l0, some (.ref x), l2, l3, l4, l5, l6], (.ref x :: S), h)) (by decide +kernel) rfl rfl rfl rfl,
  fun l0 l2 l3 l4 l5 l6 S h => zD_op (ins := .aload_n 1) (len := 1) (c := (40, [l0, some .null, l2, l3, l4, l5, l6], (.null :: S), h)) (by decide +kernel) rfl rfl rfl rfl,
  fun l0 l1 l2 l3 l4 l5 x S h => zD_op (ins := .iload 6) (len := 2) (c := (42, [l0, l1, l2, l3, l4, l5, some (.int x)], (.int x :: S), h)) (by decide +kernel) rfl rfl rfl rfl,
  fun l0 l1 l2 l4 l5 l6 x S h => zD_op (ins := .iload_n 3) (len := 1) (c := (43, [l0, l1, l2, some (.int x), l4, l5, l6], (.int x :: S), h)) (by decide +kernel) rfl rfl rfl rfl,
  fun l0 l1 l2 l3 l4 l5 l6 p0 p1 a r h hcat hr hC => zD_callv (i := 32) (y := 48) (n := 2) (as := [.int p0, .int p1]) (ci := 2) (by decide +kernel) (by decide +kernel) rfl (by decide +kernel) (Nat.le_of_ble_eq_true rfl) (by decide +kernel) hcat hr hC,
  fun l0 l1 l2 l3 l4 l5 l6 x r h => zD_if0 (cnd := .eq) (off := 29) (by decide +kernel) (by decide) rfl,
  fun l1 l2 l3 l4 l5 l6 x S h => zD_op (ins := .aload_n 0) (len := 1) (c := (50, [some (.ref x), l1, l2, l3, l4, l5, l6], (.ref x :: S), h)) (by decide +kernel) rfl rfl rfl rfl,
  fun l0 l1 l2 l3 l4 l5 l6 a r h hx => zD_getf (i := 9) (ci := 0) (k := 0) (q := (153, 0)) (by decide +kernel) (by decide +kernel) hx,
  fun l0 l1 l3 l4 l5 l6 x S h => zD_op (ins := .iload_n 2) (len := 1) (c := (54, [l0, l1, some (.int x), l3, l4, l5, l6], (.int x :: S), h)) (by decide +kernel) rfl rfl rfl rfl,
  fun l0 l1 l2 l3 l4 l5 l6 i a r h hx => zD_aald (by decide +kernel) hx,
  fun l1 l2 l3 l4 l5 l6 x S h => zD_op (ins := .aload_n 0) (len := 1) (c := (56, [some (.ref x), l1, l2, l3, l4, l5, l6], (.ref x :: S), h)) (by decide +kernel) rfl rfl rfl rfl,
  fun l0 l1 l2 l3 l4 l5 l6 a r h hx => zD_getf (i := 9) (ci := 0) (k := 0) (q := (153, 0)) (by decide +kernel) (by decide +kernel) hx,
  fun l0 l1 l2 l3 l5 l6 x S h => zD_op (ins := .iload 4) (len := 2) (c := (61, [l0, l1, l2, l3, some (.int x), l5, l6], (.int x :: S), h)) (by decide +kernel) rfl rfl rfl rfl,
  fun l0 l1 l2 l3 l4 l5 l6 i a r h hx => zD_aald (by decide +kernel) hx,
  fun l0 l1 l2 l3 l4 l5 l6 S h => zD_bip (n := 31) (by decide +kernel) (by decide +kernel),
  fun l0 l2 l3 l4 l5 l6 x S h => zD_op (ins := .aload_n 1) (len := 1) (c := (65, [l0, some (.ref x), l2, l3, l4, l5, l6], (.ref x :: S), h)) (by decide +kernel) rfl rfl rfl rfl,
  fun l0 l2 l3 l4 l5 l6 S h => zD_op (ins := .aload_n 1) (len := 1) (c := (65, [l0, some .null, l2, l3, l4, l5, l6], (.null :: S), h)) (by decide +kernel) rfl rfl rfl rfl,
  fun l0 l1 l2 l3 l4 l5 x S h => zD_op (ins := .iload 6) (len := 2) (c := (67, [l0, l1, l2, l3, l4, l5, some (.int x)], (.int x :: S), h)) (by decide +kernel) rfl rfl rfl rfl,
  fun l0 l1 l2 l4 l5 l6 x S h => zD_op (ins := .iload_n 3) (len := 1) (c := (68, [l0, l1, l2, some (.int x), l4, l5, l6], (.int x :: S), h)) (by decide +kernel) rfl rfl rfl rfl,
  fun l0 l1 l2 l3 l4 l5 l6 p0 p1 a r h hcat hr hC => zD_callv (i := 38) (y := 89) (n := 2) (as := [.int p0, .int p1]) (ci := 2) (by decide +kernel) (by decide +kernel) rfl (by decide +kernel) (Nat.le_of_ble_eq_true rfl) (by decide +kernel) hcat hr hC,
  fun l0 l1 l2 l3 l4 l5 l6 p0 p1 p2 a r h hcat hr hC => zD_callv (i := 42) (y := 67) (n := 3) (as := [.ref p0, .int p1, .long p2]) (ci := 7) (by decide +kernel) (by decide +kernel) rfl (by decide +kernel) (Nat.le_of_ble_eq_true rfl) (by decide +kernel) hcat hr hC,
  fun l0 l1 l2 l3 l4 l5 l6 x r h => zD_op (ins := .pop) (len := 1) (c := (75, [l0, l1, l2, l3, l4, l5, l6], r, h)) (by decide +kernel) rfl rfl rfl rfl,
  fun l0 l1 l2 l3 l4 l5 l6 x r h => zD_op (ins := .pop) (len := 1) (c := (75, [l0, l1, l2, l3, l4, l5, l6], r, h)) (by decide +kernel) rfl rfl rfl rfl,
  fun l0 l1 l2 l3 l4 l5 x S h => zD_iinc (k := 6) (x := x) (c := (1 : Int32)) (n := 1) (by decide +kernel) (by decide +kernel) rfl (by decide +kernel) rfl,
  fun l0 l1 l2 l3 l4 l5 l6 S h => zD_goto (off := (-56)) (by decide +kernel) (by decide),
  fun l0 l1 l2 l3 l4 l5 l6 h => zD_vret (by decide +kernel) rfl⟩
set_option maxRecDepth 100000 in
theorem E_X0_hangLast_h22 : (∀ (l0 l1 l2 l3 l4 l5 : Option Value) (x : Int32) (S : List Value) (h : zH), zD 126 22 [l0, l1, l2, l3, l4, l5, some (.int x)] S h = zD 126 24 [l0, l1, l2, l3, l4, l5, some (.int x)] (.int x :: S) h) :=
  fun l0 l1 l2 l3 l4 l5 x S h => zD_op (ins := .iload 6) (len := 2) (c := (24, [l0, l1, l2, l3, l4, l5, some (.int x)], (.int x :: S), h)) (by decide +kernel) rfl rfl rfl rfl
set_option maxRecDepth 100000 in
theorem I_X0_hangLast : (∀ (a : Nat) (p0 : Nat) (p1 : Int32) (p2 : Int32) (h : zH), zC 126 [.ref a, .ref p0, .int p1, .int p2] h = zD 126 0 [some (.ref a), some (.ref p0), some (.int p1), some (.int p2), none, none, none] [] h) :=
  fun a p0 p1 p2 h => zC_def rfl
set_option maxRecDepth 100000 in
theorem E_X0_howMany : (∀ (l0 l1 l2 l3 l4 l5 l6 l7 : Option Value) (S : List Value) (h : zH), zD 127 0 [l0, l1, l2, l3, l4, l5, l6, l7] S h = zD 127 1 [l0, l1, l2, l3, l4, l5, l6, l7] (.int (1 : Int32) :: S) h) ∧
  (∀ (l0 l1 l2 l3 l4 l5 l6 l7 : Option Value) (x : Int32) (r : List Value) (h : zH), zD 127 1 [l0, l1, l2, l3, l4, l5, l6, l7] (.int x :: r) h = zD 127 2 [l0, l1, zclr l2, some (.int x), l4, l5, l6, l7] r h) ∧
  (∀ (l0 l1 l3 l4 l5 l6 l7 : Option Value) (x : Int32) (S : List Value) (h : zH), zD 127 3 [l0, l1, some (.int x), l3, l4, l5, l6, l7] S h = zD 127 4 [l0, l1, some (.int x), l3, l4, l5, l6, l7] (.int x :: S) h) ∧
  (∀ (l0 l1 l2 l3 l4 l5 l6 l7 : Option Value) (x y : Int32) (r : List Value) (h : zH), zD 127 4 [l0, l1, l2, l3, l4, l5, l6, l7] (.int y :: .int x :: r) h = if y < x then zD 127 20 [l0, l1, l2, l3, l4, l5, l6, l7] r h else zD 127 7 [l0, l1, l2, l3, l4, l5, l6, l7] r h) ∧
  (∀ (l1 l2 l3 l4 l5 l6 l7 : Option Value) (x : Nat) (S : List Value) (h : zH), zD 127 7 [some (.ref x), l1, l2, l3, l4, l5, l6, l7] S h = zD 127 8 [some (.ref x), l1, l2, l3, l4, l5, l6, l7] (.ref x :: S) h) ∧
  (∀ (l0 l2 l3 l4 l5 l6 l7 : Option Value) (x : Nat) (S : List Value) (h : zH), zD 127 8 [l0, some (.ref x), l2, l3, l4, l5, l6, l7] S h = zD 127 9 [l0, some (.ref x), l2, l3, l4, l5, l6, l7] (.ref x :: S) h) ∧
  (∀ (l0 l2 l3 l4 l5 l6 l7 : Option Value) (S : List Value) (h : zH), zD 127 8 [l0, some .null, l2, l3, l4, l5, l6, l7] S h = zD 127 9 [l0, some .null, l2, l3, l4, l5, l6, l7] (.null :: S) h) ∧
  (∀ (l0 l1 l3 l4 l5 l6 l7 : Option Value) (x : Int32) (S : List Value) (h : zH), zD 127 9 [l0, l1, some (.int x), l3, l4, l5, l6, l7] S h = zD 127 10 [l0, l1, some (.int x), l3, l4, l5, l6, l7] (.int x :: S) h) ∧
  (∀ (l0 l1 l2 l4 l5 l6 l7 : Option Value) (x : Int32) (S : List Value) (h : zH), zD 127 10 [l0, l1, l2, some (.int x), l4, l5, l6, l7] S h = zD 127 11 [l0, l1, l2, some (.int x), l4, l5, l6, l7] (.int x :: S) h) ∧
  (∀ (l0 l1 l2 l3 l4 l5 l6 l7 : Option Value) (p0 : Nat) (p1 : Int32) (p2 : Int32) (a : Nat) (r : List Value) (h : zH) (hcat : zcat r ≤ 8) (hr : zis (h.2.2 a) 0 = true) (hC : (zC 87 (.ref a :: [.ref p0, .int p1, .int p2]) h).isSome = true), zD 127 11 [l0, l1, l2, l3, l4, l5, l6, l7] (.int p2 :: .int p1 :: .ref p0 :: .ref a :: r) h = zD 127 14 [l0, l1, l2, l3, l4, l5, l6, l7] (zgv (zC 87 (.ref a :: [.ref p0, .int p1, .int p2]) h) ++ r) (zgh h (zC 87 (.ref a :: [.ref p0, .int p1, .int p2]) h))) ∧
  (∀ (l0 l1 l2 l4 l5 l6 l7 : Option Value) (x : Int32) (S : List Value) (h : zH), zD 127 14 [l0, l1, l2, some (.int x), l4, l5, l6, l7] S h = zD 127 17 [l0, l1, zclr l2, some (.int (x + (1 : Int32))), l4, l5, l6, l7] S h) ∧
  (∀ (l0 l1 l2 l3 l4 l5 l6 l7 : Option Value) (S : List Value) (h : zH), zD 127 17 [l0, l1, l2, l3, l4, l5, l6, l7] S h = zD 127 2 [l0, l1, l2, l3, l4, l5, l6, l7] S h) ∧
  (∀ (l0 l1 l2 l3 l4 l5 l6 l7 : Option Value) (S : List Value) (h : zH), zD 127 20 [l0, l1, l2, l3, l4, l5, l6, l7] S h = zD 127 21 [l0, l1, l2, l3, l4, l5, l6, l7] (.long (1 : Int64) :: S) h) ∧
  (∀ (l0 l1 l2 l3 l4 l5 l6 l7 : Option Value) (x : Int64) (r : List Value) (h : zH), zD 127 21 [l0, l1, l2, l3, l4, l5, l6, l7] (.long x :: r) h = zD 127 22 [l0, l1, zclr l2, some (.long x), none, l5, l6, l7] r h) ∧
  (∀ (l0 l1 l2 l3 l4 l5 l6 l7 : Option Value) (S : List Value) (h : zH), zD 127 22 [l0, l1, l2, l3, l4, l5, l6, l7] S h = zD 127 23 [l0, l1, l2, l3, l4, l5, l6, l7] (.int (1 : Int32) :: S) h) ∧
  (∀ (l0 l1 l2 l3 l4 l5 l6 l7 : Option Value) (x : Int32) (r : List Value) (h : zH), zD 127 23 [l0, l1, l2, l3, l4, l5, l6, l7] (.int x :: r) h = zD 127 25 [l0, l1, l2, l3, zclr l4, some (.int x), l6, l7] r h) ∧
  (∀ (l0 l1 l3 l4 l5 l6 l7 : Option Value) (x : Int32) (S : List Value) (h : zH), zD 127 27 [l0, l1, some (.int x), l3, l4, l5, l6, l7] S h = zD 127 28 [l0, l1, some (.int x), l3, l4, l5, l6, l7] (.int x :: S) h) ∧
  (∀ (l0 l1 l2 l3 l4 l5 l6 l7 : Option Value) (x y : Int32) (r : List Value) (h : zH), zD 127 28 [l0, l1, l2, l3, l4, l5, l6, l7] (.int y :: .int x :: r) h = if y ≤ x then zD 127 73 [l0, l1, l2, l3, l4, l5, l6, l7] r h else zD 127 31 [l0, l1, l2, l3, l4, l5, l6, l7] r h) ∧
  (∀ (l1 l2 l3 l4 l5 l6 l7 : Option Value) (x : Nat) (S : List Value) (h : zH), zD 127 31 [some (.ref x), l1, l2, l3, l4, l5, l6, l7] S h = zD 127 32 [some (.ref x), l1, l2, l3, l4, l5, l6, l7] (.ref x :: S) h) ∧
  (∀ (l0 l1 l2 l3 l4 l5 l6 l7 : Option Value) (a : Nat) (r : List Value) (h : zH) (hx : zfok (h.2.2 a) 0 1 = true), zD 127 32 [l0, l1, l2, l3, l4, l5, l6, l7] (.ref a :: r) h = zD 127 35 [l0, l1, l2, l3, l4, l5, l6, l7] (zfv (h.2.2 a) 1 :: r) h) ∧
  (∀ (l0 l1 l2 l3 l4 l6 l7 : Option Value) (x : Int32) (S : List Value) (h : zH), zD 127 35 [l0, l1, l2, l3, l4, some (.int x), l6, l7] S h = zD 127 37 [l0, l1, l2, l3, l4, some (.int x), l6, l7] (.int x :: S) h) ∧
  (∀ (l0 l1 l2 l3 l4 l6 l7 : Option Value) (x : Int32) (S : List Value) (h : zH), zD 127 37 [l0, l1, l2, l3, l4, some (.int x), l6, l7] S h = zD 127 39 [l0, l1, l2, l3, l4, some (.int x), l6, l7] (.int x :: S) h) ∧
  (∀ (l0 l1 l2 l3 l4 l5 l6 l7 : Option Value) (p0 : Int32) (p1 : Int32) (r : List Value) (h : zH) (hcat : zcat r ≤ 8) (hC : (zC 0 [.int p0, .int p1] h).isSome = true), zD 127 39 [l0, l1, l2, l3, l4, l5, l6, l7] (.int p1 :: .int p0 :: r) h = zD 127 42 [l0, l1, l2, l3, l4, l5, l6, l7] (zgv (zC 0 [.int p0, .int p1] h) ++ r) (zgh h (zC 0 [.int p0, .int p1] h))) ∧
  (∀ (l0 l1 l2 l3 l4 l5 l6 l7 : Option Value) (i : Int32) (a : Nat) (r : List Value) (h : zH) (hx : zlok (h.2.2 a) i = true), zD 127 42 [l0, l1, l2, l3, l4, l5, l6, l7] (.int i :: .ref a :: r) h = zD 127 43 [l0, l1, l2, l3, l4, l5, l6, l7] (.long (zlv' (h.2.2 a) i) :: r) h) ∧
  (∀ (l0 l1 l2 l3 l4 l5 l6 l7 : Option Value) (x : Int64) (r : List Value) (h : zH), zD 127 43 [l0, l1, l2, l3, l4, l5, l6, l7] (.long x :: r) h = zD 127 45 [l0, l1, l2, l3, l4, zclr l5, some (.long x), none] r h) ∧
  (∀ (l0 l1 l2 l3 l4 l5 l7 : Option Value) (x : Int64) (S : List Value) (h : zH), zD 127 45 [l0, l1, l2, l3, l4, l5, some (.long x), l7] S h = zD 127 47 [l0, l1, l2, l3, l4, l5, some (.long x), l7] (.long x :: S) h) ∧
  (∀ (l0 l1 l2 l3 l4 l5 l6 l7 : Option Value) (S : List Value) (h : zH), zD 127 47 [l0, l1, l2, l3, l4, l5, l6, l7] S h = zD 127 48 [l0, l1, l2, l3, l4, l5, l6, l7] (.long (0 : Int64) :: S) h) ∧
  (∀ (l0 l1 l2 l3 l4 l5 l6 l7 : Option Value) (x y : Int64) (r : List Value) (h : zH), zD 127 48 [l0, l1, l2, l3, l4, l5, l6, l7] (.long y :: .long x :: r) h = zD 127 49 [l0, l1, l2, l3, l4, l5, l6, l7] (.int (lg_cmp x y) :: r) h) ∧
  (∀ (l0 l1 l2 l3 l4 l5 l6 l7 : Option Value) (x : Int32) (r : List Value) (h : zH), zD 127 49 [l0, l1, l2, l3, l4, l5, l6, l7] (.int x :: r) h = if ¬ x = 0 then zD 127 54 [l0, l1, l2, l3, l4, l5, l6, l7] r h else zD 127 52 [l0, l1, l2, l3, l4, l5, l6, l7] r h) ∧
  (∀ (l0 l1 l2 l3 l4 l5 l6 l7 : Option Value) (S : List Value) (h : zH), zD 127 52 [l0, l1, l2, l3, l4, l5, l6, l7] S h = zD 127 53 [l0, l1, l2, l3, l4, l5, l6, l7] (.long (0 : Int64) :: S) h) ∧
  (∀ (l0 l1 l2 l3 l4 l5 l6 l7 : Option Value) (v : Int64) (h : zH), zD 127 53 [l0, l1, l2, l3, l4, l5, l6, l7] [.long v] h = some (some (.long v), h)) ∧
  (∀ (l1 l2 l3 l4 l5 l6 l7 : Option Value) (x : Nat) (S : List Value) (h : zH), zD 127 54 [some (.ref x), l1, l2, l3, l4, l5, l6, l7] S h = zD 127 55 [some (.ref x), l1, l2, l3, l4, l5, l6, l7] (.ref x :: S) h) ∧
  (∀ (l0 l1 l3 l4 l5 l6 l7 : Option Value) (x : Int32) (S : List Value) (h : zH), zD 127 55 [l0, l1, some (.int x), l3, l4, l5, l6, l7] S h = zD 127 56 [l0, l1, some (.int x), l3, l4, l5, l6, l7] (.int x :: S) h) ∧
  (∀ (l0 l1 l2 l3 l4 l6 l7 : Option Value) (x : Int32) (S : List Value) (h : zH), zD 127 56 [l0, l1, l2, l3, l4, some (.int x), l6, l7] S h = zD 127 58 [l0, l1, l2, l3, l4, some (.int x), l6, l7] (.int x :: S) h) ∧
  (∀ (l0 l1 l2 l3 l4 l5 l7 : Option Value) (x : Int64) (S : List Value) (h : zH), zD 127 58 [l0, l1, l2, l3, l4, l5, some (.long x), l7] S h = zD 127 60 [l0, l1, l2, l3, l4, l5, some (.long x), l7] (.long x :: S) h) ∧
  (∀ (l0 l1 l2 l4 l5 l6 l7 : Option Value) (x : Int64) (S : List Value) (h : zH), zD 127 60 [l0, l1, l2, some (.long x), l4, l5, l6, l7] S h = zD 127 61 [l0, l1, l2, some (.long x), l4, l5, l6, l7] (.long x :: S) h) ∧
  (∀ (l0 l1 l2 l3 l4 l5 l6 l7 : Option Value) (p0 : Int32) (p1 : Int32) (p2 : Int64) (p3 : Int64) (a : Nat) (r : List Value) (h : zH) (hcat : zcat r ≤ 8) (hr : zis (h.2.2 a) 0 = true) (hC : (zC 43 (.ref a :: [.int p0, .int p1, .long p2, .long p3]) h).isSome = true), zD 127 61 [l0, l1, l2, l3, l4, l5, l6, l7] (.long p3 :: .long p2 :: .int p1 :: .int p0 :: .ref a :: r) h = zD 127 64 [l0, l1, l2, l3, l4, l5, l6, l7] (zgv (zC 43 (.ref a :: [.int p0, .int p1, .long p2, .long p3]) h) ++ r) (zgh h (zC 43 (.ref a :: [.int p0, .int p1, .long p2, .long p3]) h))) ∧
  (∀ (l0 l1 l2 l3 l4 l5 l7 : Option Value) (x : Int64) (S : List Value) (h : zH), zD 127 64 [l0, l1, l2, l3, l4, l5, some (.long x), l7] S h = zD 127 66 [l0, l1, l2, l3, l4, l5, some (.long x), l7] (.long x :: S) h) ∧
  (∀ (l0 l1 l2 l3 l4 l5 l6 l7 : Option Value) (x : Int64) (r : List Value) (h : zH), zD 127 66 [l0, l1, l2, l3, l4, l5, l6, l7] (.long x :: r) h = zD 127 67 [l0, l1, zclr l2, some (.long x), none, l5, l6, l7] r h) ∧
  (∀ (l0 l1 l2 l3 l4 l6 l7 : Option Value) (x : Int32) (S : List Value) (h : zH), zD 127 67 [l0, l1, l2, l3, l4, some (.int x), l6, l7] S h = zD 127 70 [l0, l1, l2, l3, zclr l4, some (.int (x + (1 : Int32))), l6, l7] S h) ∧
  (∀ (l0 l1 l2 l3 l4 l5 l6 l7 : Option Value) (S : List Value) (h : zH), zD 127 70 [l0, l1, l2, l3, l4, l5, l6, l7] S h = zD 127 25 [l0, l1, l2, l3, l4, l5, l6, l7] S h) ∧
  (∀ (l1 l2 l3 l4 l5 l6 l7 : Option Value) (x : Nat) (S : List Value) (h : zH), zD 127 73 [some (.ref x), l1, l2, l3, l4, l5, l6, l7] S h = zD 127 74 [some (.ref x), l1, l2, l3, l4, l5, l6, l7] (.ref x :: S) h) ∧
  (∀ (l0 l1 l2 l3 l4 l5 l6 l7 : Option Value) (a : Nat) (r : List Value) (h : zH) (hx : zfok (h.2.2 a) 0 1 = true), zD 127 74 [l0, l1, l2, l3, l4, l5, l6, l7] (.ref a :: r) h = zD 127 77 [l0, l1, l2, l3, l4, l5, l6, l7] (zfv (h.2.2 a) 1 :: r) h) ∧
  (∀ (l0 l1 l3 l4 l5 l6 l7 : Option Value) (x : Int32) (S : List Value) (h : zH), zD 127 77 [l0, l1, some (.int x), l3, l4, l5, l6, l7] S h = zD 127 78 [l0, l1, some (.int x), l3, l4, l5, l6, l7] (.int x :: S) h) ∧
  (∀ (l0 l1 l3 l4 l5 l6 l7 : Option Value) (x : Int32) (S : List Value) (h : zH), zD 127 78 [l0, l1, some (.int x), l3, l4, l5, l6, l7] S h = zD 127 79 [l0, l1, some (.int x), l3, l4, l5, l6, l7] (.int x :: S) h) ∧
  (∀ (l0 l1 l2 l3 l4 l5 l6 l7 : Option Value) (p0 : Int32) (p1 : Int32) (r : List Value) (h : zH) (hcat : zcat r ≤ 8) (hC : (zC 0 [.int p0, .int p1] h).isSome = true), zD 127 79 [l0, l1, l2, l3, l4, l5, l6, l7] (.int p1 :: .int p0 :: r) h = zD 127 82 [l0, l1, l2, l3, l4, l5, l6, l7] (zgv (zC 0 [.int p0, .int p1] h) ++ r) (zgh h (zC 0 [.int p0, .int p1] h))) ∧
  (∀ (l0 l1 l2 l3 l4 l5 l6 l7 : Option Value) (i : Int32) (a : Nat) (r : List Value) (h : zH) (hx : zlok (h.2.2 a) i = true), zD 127 82 [l0, l1, l2, l3, l4, l5, l6, l7] (.int i :: .ref a :: r) h = zD 127 83 [l0, l1, l2, l3, l4, l5, l6, l7] (.long (zlv' (h.2.2 a) i) :: r) h) ∧
  (∀ (l0 l1 l2 l3 l4 l5 l6 l7 : Option Value) (v : Int64) (h : zH), zD 127 83 [l0, l1, l2, l3, l4, l5, l6, l7] [.long v] h = some (some (.long v), h)) :=
  ⟨fun l0 l1 l2 l3 l4 l5 l6 l7 S h => zD_icst (n := 1) (by decide +kernel) (by decide +kernel),
  fun l0 l1 l2 l3 l4 l5 l6 l7 x r h => zD_st1 (k := 3) (ins := .istore_n 3) (len := 1) (by decide +kernel) rfl rfl rfl (by decide +kernel) rfl rfl,
  fun l0 l1 l3 l4 l5 l6 l7 x S h => zD_op (ins := .iload_n 2) (len := 1) (c := (4, [l0, l1, some (.int x), l3, l4, l5, l6, l7], (.int x :: S), h)) (by decide +kernel) rfl rfl rfl rfl,
  fun l0 l1 l2 l3 l4 l5 l6 l7 x y r h => zD_if (cnd := .gt) (off := 16) (by decide +kernel) (by decide) rfl,
  fun l1 l2 l3 l4 l5 l6 l7 x S h => zD_op (ins := .aload_n 0) (len := 1) (c := (8, [some (.ref x), l1, l2, l3, l4, l5, l6, l7], (.ref x :: S), h)) (by decide +kernel) rfl rfl rfl rfl,
  fun l0 l2 l3 l4 l5 l6 l7 x S h => zD_op (ins := .aload_n 1) (len := 1) (c := (9, [l0, some (.ref x), l2, l3, l4, l5, l6, l7], (.ref x :: S), h)) (by decide +kernel) rfl rfl rfl rfl,
  fun l0 l2 l3 l4 l5 l6 l7 S h => zD_op (ins := .aload_n 1) (len := 1) (c := (9, [l0, some .null, l2, l3, l4, l5, l6, l7], (.null :: S), h)) (by decide +kernel) rfl rfl rfl rfl,
  fun l0 l1 l3 l4 l5 l6 l7 x S h => zD_op (ins := .iload_n 2) (len := 1) (c := (10, [l0, l1, some (.int x), l3, l4, l5, l6, l7], (.int x :: S), h)) (by decide +kernel) rfl rfl rfl rfl,
  fun l0 l1 l2 l4 l5 l6 l7 x S h => zD_op (ins := .iload_n 3) (len := 1) (c := (11, [l0, l1, l2, some (.int x), l4, l5, l6, l7], (.int x :: S), h)) (by decide +kernel) rfl rfl rfl rfl,
  fun l0 l1 l2 l3 l4 l5 l6 l7 p0 p1 p2 a r h hcat hr hC => zD_callv (i := 46) (y := 87) (n := 3) (as := [.ref p0, .int p1, .int p2]) (ci := 0) (by decide +kernel) (by decide +kernel) rfl (by decide +kernel) (Nat.le_of_ble_eq_true rfl) (by decide +kernel) hcat hr hC,
  fun l0 l1 l2 l4 l5 l6 l7 x S h => zD_iinc (k := 3) (x := x) (c := (1 : Int32)) (n := 1) (by decide +kernel) (by decide +kernel) rfl (by decide +kernel) rfl,
  fun l0 l1 l2 l3 l4 l5 l6 l7 S h => zD_goto (off := (-15)) (by decide +kernel) (by decide),
  fun l0 l1 l2 l3 l4 l5 l6 l7 S h => zD_op (ins := .lconst 1) (len := 1) (c := (21, [l0, l1, l2, l3, l4, l5, l6, l7], (.long (1 : Int64) :: S), h)) (by decide +kernel) rfl rfl rfl rfl,
  fun l0 l1 l2 l3 l4 l5 l6 l7 x r h => zD_st2 (k := 3) (ins := .lstore_n 3) (len := 1) (by decide +kernel) rfl rfl rfl (by decide +kernel) rfl rfl,
  fun l0 l1 l2 l3 l4 l5 l6 l7 S h => zD_icst (n := 1) (by decide +kernel) (by decide +kernel),
  fun l0 l1 l2 l3 l4 l5 l6 l7 x r h => zD_st1 (k := 5) (ins := .istore 5) (len := 2) (by decide +kernel) rfl rfl rfl (by decide +kernel) rfl rfl,
  fun l0 l1 l3 l4 l5 l6 l7 x S h => zD_op (ins := .iload_n 2) (len := 1) (c := (28, [l0, l1, some (.int x), l3, l4, l5, l6, l7], (.int x :: S), h)) (by decide +kernel) rfl rfl rfl rfl,
  fun l0 l1 l2 l3 l4 l5 l6 l7 x y r h => zD_if (cnd := .ge) (off := 45) (by decide +kernel) (by decide) rfl,
  fun l1 l2 l3 l4 l5 l6 l7 x S h => zD_op (ins := .aload_n 0) (len := 1) (c := (32, [some (.ref x), l1, l2, l3, l4, l5, l6, l7], (.ref x :: S), h)) (by decide +kernel) rfl rfl rfl rfl,
  fun l0 l1 l2 l3 l4 l5 l6 l7 a r h hx => zD_getf (i := 15) (ci := 0) (k := 1) (q := (154, 0)) (by decide +kernel) (by decide +kernel) hx,
  fun l0 l1 l2 l3 l4 l6 l7 x S h => zD_op (ins := .iload 5) (len := 2) (c := (37, [l0, l1, l2, l3, l4, some (.int x), l6, l7], (.int x :: S), h)) (by decide +kernel) rfl rfl rfl rfl,
  fun l0 l1 l2 l3 l4 l6 l7 x S h => zD_op (ins := .iload 5) (len := 2) (c := (39, [l0, l1, l2, l3, l4, some (.int x), l6, l7], (.int x :: S), h)) (by decide +kernel) rfl rfl rfl rfl,
  fun l0 l1 l2 l3 l4 l5 l6 l7 p0 p1 r h hcat hC => zD_calls (i := 49) (y := 0) (n := 2) (as := [.int p0, .int p1]) (by decide +kernel) (by decide +kernel) rfl (by decide +kernel) (Nat.le_of_ble_eq_true rfl) hcat hC,
  fun l0 l1 l2 l3 l4 l5 l6 l7 i a r h hx => zD_lald (by decide +kernel) hx,
  fun l0 l1 l2 l3 l4 l5 l6 l7 x r h => zD_st2 (k := 6) (ins := .lstore 6) (len := 2) (by decide +kernel) rfl rfl rfl (by decide +kernel) rfl rfl,
  fun l0 l1 l2 l3 l4 l5 l7 x S h => zD_op (ins := .lload 6) (len := 2) (c := (47, [l0, l1, l2, l3, l4, l5, some (.long x), l7], (.long x :: S), h)) (by decide +kernel) rfl rfl rfl rfl,
  fun l0 l1 l2 l3 l4 l5 l6 l7 S h => zD_op (ins := .lconst 0) (len := 1) (c := (48, [l0, l1, l2, l3, l4, l5, l6, l7], (.long (0 : Int64) :: S), h)) (by decide +kernel) rfl rfl rfl rfl,
  fun l0 l1 l2 l3 l4 l5 l6 l7 x y r h => zD_op (ins := .lcmp) (len := 1) (c := (49, [l0, l1, l2, l3, l4, l5, l6, l7], (.int (lg_cmp x y) :: r), h)) (by decide +kernel) rfl rfl rfl rfl,
  fun l0 l1 l2 l3 l4 l5 l6 l7 x r h => zD_if0 (cnd := .ne) (off := 5) (by decide +kernel) (by decide) rfl,
  fun l0 l1 l2 l3 l4 l5 l6 l7 S h => zD_op (ins := .lconst 0) (len := 1) (c := (53, [l0, l1, l2, l3, l4, l5, l6, l7], (.long (0 : Int64) :: S), h)) (by decide +kernel) rfl rfl rfl rfl,
  fun l0 l1 l2 l3 l4 l5 l6 l7 v h => zD_lret (by decide +kernel) rfl,
  fun l1 l2 l3 l4 l5 l6 l7 x S h => zD_op (ins := .aload_n 0) (len := 1) (c := (55, [some (.ref x), l1, l2, l3, l4, l5, l6, l7], (.ref x :: S), h)) (by decide +kernel) rfl rfl rfl rfl,
  fun l0 l1 l3 l4 l5 l6 l7 x S h => zD_op (ins := .iload_n 2) (len := 1) (c := (56, [l0, l1, some (.int x), l3, l4, l5, l6, l7], (.int x :: S), h)) (by decide +kernel) rfl rfl rfl rfl,
  fun l0 l1 l2 l3 l4 l6 l7 x S h => zD_op (ins := .iload 5) (len := 2) (c := (58, [l0, l1, l2, l3, l4, some (.int x), l6, l7], (.int x :: S), h)) (by decide +kernel) rfl rfl rfl rfl,
  fun l0 l1 l2 l3 l4 l5 l7 x S h => zD_op (ins := .lload 6) (len := 2) (c := (60, [l0, l1, l2, l3, l4, l5, some (.long x), l7], (.long x :: S), h)) (by decide +kernel) rfl rfl rfl rfl,
  fun l0 l1 l2 l4 l5 l6 l7 x S h => zD_op (ins := .lload_n 3) (len := 1) (c := (61, [l0, l1, l2, some (.long x), l4, l5, l6, l7], (.long x :: S), h)) (by decide +kernel) rfl rfl rfl rfl,
  fun l0 l1 l2 l3 l4 l5 l6 l7 p0 p1 p2 p3 a r h hcat hr hC => zD_callv (i := 53) (y := 43) (n := 4) (as := [.int p0, .int p1, .long p2, .long p3]) (ci := 0) (by decide +kernel) (by decide +kernel) rfl (by decide +kernel) (Nat.le_of_ble_eq_true rfl) (by decide +kernel) hcat hr hC,
  fun l0 l1 l2 l3 l4 l5 l7 x S h => zD_op (ins := .lload 6) (len := 2) (c := (66, [l0, l1, l2, l3, l4, l5, some (.long x), l7], (.long x :: S), h)) (by decide +kernel) rfl rfl rfl rfl,
  fun l0 l1 l2 l3 l4 l5 l6 l7 x r h => zD_st2 (k := 3) (ins := .lstore_n 3) (len := 1) (by decide +kernel) rfl rfl rfl (by decide +kernel) rfl rfl,
  fun l0 l1 l2 l3 l4 l6 l7 x S h => zD_iinc (k := 5) (x := x) (c := (1 : Int32)) (n := 1) (by decide +kernel) (by decide +kernel) rfl (by decide +kernel) rfl,
  fun l0 l1 l2 l3 l4 l5 l6 l7 S h => zD_goto (off := (-45)) (by decide +kernel) (by decide),
  fun l1 l2 l3 l4 l5 l6 l7 x S h => zD_op (ins := .aload_n 0) (len := 1) (c := (74, [some (.ref x), l1, l2, l3, l4, l5, l6, l7], (.ref x :: S), h)) (by decide +kernel) rfl rfl rfl rfl,
  fun l0 l1 l2 l3 l4 l5 l6 l7 a r h hx => zD_getf (i := 15) (ci := 0) (k := 1) (q := (154, 0)) (by decide +kernel) (by decide +kernel) hx,
  fun l0 l1 l3 l4 l5 l6 l7 x S h => zD_op (ins := .iload_n 2) (len := 1) (c := (78, [l0, l1, some (.int x), l3, l4, l5, l6, l7], (.int x :: S), h)) (by decide +kernel) rfl rfl rfl rfl,
  fun l0 l1 l3 l4 l5 l6 l7 x S h => zD_op (ins := .iload_n 2) (len := 1) (c := (79, [l0, l1, some (.int x), l3, l4, l5, l6, l7], (.int x :: S), h)) (by decide +kernel) rfl rfl rfl rfl,
  fun l0 l1 l2 l3 l4 l5 l6 l7 p0 p1 r h hcat hC => zD_calls (i := 49) (y := 0) (n := 2) (as := [.int p0, .int p1]) (by decide +kernel) (by decide +kernel) rfl (by decide +kernel) (Nat.le_of_ble_eq_true rfl) hcat hC,
  fun l0 l1 l2 l3 l4 l5 l6 l7 i a r h hx => zD_lald (by decide +kernel) hx,
  fun l0 l1 l2 l3 l4 l5 l6 l7 v h => zD_lret (by decide +kernel) rfl⟩
set_option maxRecDepth 100000 in
theorem E_X0_howMany_h2 : (∀ (l0 l1 l2 l4 l5 l6 l7 : Option Value) (x : Int32) (S : List Value) (h : zH), zD 127 2 [l0, l1, l2, some (.int x), l4, l5, l6, l7] S h = zD 127 3 [l0, l1, l2, some (.int x), l4, l5, l6, l7] (.int x :: S) h) :=
  fun l0 l1 l2 l4 l5 l6 l7 x S h => zD_op (ins := .iload_n 3) (len := 1) (c := (3, [l0, l1, l2, some (.int x), l4, l5, l6, l7], (.int x :: S), h)) (by decide +kernel) rfl rfl rfl rfl
set_option maxRecDepth 100000 in
theorem E_X0_howMany_h25 : (∀ (l0 l1 l2 l3 l4 l6 l7 : Option Value) (x : Int32) (S : List Value) (h : zH), zD 127 25 [l0, l1, l2, l3, l4, some (.int x), l6, l7] S h = zD 127 27 [l0, l1, l2, l3, l4, some (.int x), l6, l7] (.int x :: S) h) :=
  fun l0 l1 l2 l3 l4 l6 l7 x S h => zD_op (ins := .iload 5) (len := 2) (c := (27, [l0, l1, l2, l3, l4, some (.int x), l6, l7], (.int x :: S), h)) (by decide +kernel) rfl rfl rfl rfl
set_option maxRecDepth 100000 in
theorem I_X0_howMany : (∀ (a : Nat) (p0 : Nat) (p1 : Int32) (h : zH), zC 127 [.ref a, .ref p0, .int p1] h = zD 127 0 [some (.ref a), some (.ref p0), some (.int p1), none, none, none, none, none] [] h) :=
  fun a p0 p1 h => zC_def rfl
set_option maxRecDepth 100000 in
theorem E_X1_add : (∀ (l1 l2 : Option Value) (x : Nat) (S : List Value) (h : zH), zD 128 0 [some (.ref x), l1, l2] S h = zD 128 1 [some (.ref x), l1, l2] (.ref x :: S) h) ∧
  (∀ (l0 l1 l2 : Option Value) (a : Nat) (r : List Value) (h : zH) (hx : zfok (h.2.2 a) 1 1 = true), zD 128 1 [l0, l1, l2] (.ref a :: r) h = zD 128 4 [l0, l1, l2] (zfv (h.2.2 a) 1 :: r) h) ∧
  (∀ (l0 l1 l2 : Option Value) (S : List Value) (h : zH), zD 128 4 [l0, l1, l2] S h = zD 128 6 [l0, l1, l2] (.int (20 : Int32) :: S) h) ∧
  (∀ (l0 l1 l2 : Option Value) (x y : Int32) (r : List Value) (h : zH), zD 128 6 [l0, l1, l2] (.int y :: .int x :: r) h = if x < y then zD 128 12 [l0, l1, l2] r h else zD 128 9 [l0, l1, l2] r h) ∧
  (∀ (l0 l1 l2 : Option Value) (S : List Value) (h : zH), zD 128 9 [l0, l1, l2] S h = zD 128 11 [l0, l1, l2] (.int (-104 : Int32) :: S) h) ∧
  (∀ (l0 l1 l2 : Option Value) (v : Int32) (h : zH), zD 128 11 [l0, l1, l2] [.int v] h = some (some (.int v), h)) ∧
  (∀ (l0 l1 l2 : Option Value) (S : List Value) (h : zH), zD 128 12 [l0, l1, l2] S h = zD 128 15 [l0, l1, l2] (.ref h.1 :: S) (znew h 3 (.inr (3, [.null, .null, .int 0])))) ∧
  (∀ (l0 l1 l2 : Option Value) (x : Int32) (r : List Value) (h : zH), zD 128 15 [l0, l1, l2] (.int x :: r) h = zD 128 16 [l0, l1, l2] (.int x :: .int x :: r) h) ∧
  (∀ (l0 l1 l2 : Option Value) (x : Nat) (r : List Value) (h : zH), zD 128 15 [l0, l1, l2] (.ref x :: r) h = zD 128 16 [l0, l1, l2] (.ref x :: .ref x :: r) h) ∧
  (∀ (l0 l1 l2 : Option Value) (a : Nat) (r : List Value) (h : zH) (hcat : zcat r ≤ 8) (hC : (zC 90 [.ref a] h).isSome = true), zD 128 16 [l0, l1, l2] (.ref a :: r) h = zD 128 19 [l0, l1, l2] (zgv (zC 90 [.ref a] h) ++ r) (zgh h (zC 90 [.ref a] h))) ∧
  (∀ (l0 l1 l2 : Option Value) (x : Nat) (r : List Value) (h : zH), zD 128 19 [l0, l1, l2] (.ref x :: r) h = zD 128 20 [l0, zclr l1, some (.ref x)] r h) ∧
  (∀ (l0 l1 l2 : Option Value) (r : List Value) (h : zH), zD 128 19 [l0, l1, l2] (.null :: r) h = zD 128 20 [l0, zclr l1, some .null] r h) ∧
  (∀ (l0 l1 : Option Value) (x : Nat) (S : List Value) (h : zH), zD 128 20 [l0, l1, some (.ref x)] S h = zD 128 21 [l0, l1, some (.ref x)] (.ref x :: S) h) ∧
  (∀ (l0 l1 : Option Value) (S : List Value) (h : zH), zD 128 20 [l0, l1, some .null] S h = zD 128 21 [l0, l1, some .null] (.null :: S) h) ∧
  (∀ (l0 l2 : Option Value) (x : Nat) (S : List Value) (h : zH), zD 128 21 [l0, some (.ref x), l2] S h = zD 128 22 [l0, some (.ref x), l2] (.ref x :: S) h) ∧
  (∀ (l0 l2 : Option Value) (S : List Value) (h : zH), zD 128 21 [l0, some .null, l2] S h = zD 128 22 [l0, some .null, l2] (.null :: S) h) ∧
  (∀ (l0 l1 l2 : Option Value) (p0 : Nat) (a : Nat) (r : List Value) (h : zH) (hcat : zcat r ≤ 8) (hr : zis (h.2.2 a) 3 = true) (hC : (zC 50 (.ref a :: [.ref p0]) h).isSome = true), zD 128 22 [l0, l1, l2] (.ref p0 :: .ref a :: r) h = zD 128 25 [l0, l1, l2] (zgv (zC 50 (.ref a :: [.ref p0]) h) ++ r) (zgh h (zC 50 (.ref a :: [.ref p0]) h))) ∧
  (∀ (l1 l2 : Option Value) (x : Nat) (S : List Value) (h : zH), zD 128 25 [some (.ref x), l1, l2] S h = zD 128 26 [some (.ref x), l1, l2] (.ref x :: S) h) ∧
  (∀ (l0 l1 l2 : Option Value) (a : Nat) (r : List Value) (h : zH) (hx : zfok (h.2.2 a) 1 0 = true), zD 128 26 [l0, l1, l2] (.ref a :: r) h = zD 128 29 [l0, l1, l2] (zfv (h.2.2 a) 0 :: r) h) ∧
  (∀ (l1 l2 : Option Value) (x : Nat) (S : List Value) (h : zH), zD 128 29 [some (.ref x), l1, l2] S h = zD 128 30 [some (.ref x), l1, l2] (.ref x :: S) h) ∧
  (∀ (l0 l1 l2 : Option Value) (a : Nat) (r : List Value) (h : zH) (hx : zfok (h.2.2 a) 1 1 = true), zD 128 30 [l0, l1, l2] (.ref a :: r) h = zD 128 33 [l0, l1, l2] (zfv (h.2.2 a) 1 :: r) h) ∧
  (∀ (l0 l1 : Option Value) (x : Nat) (S : List Value) (h : zH), zD 128 33 [l0, l1, some (.ref x)] S h = zD 128 34 [l0, l1, some (.ref x)] (.ref x :: S) h) ∧
  (∀ (l0 l1 : Option Value) (S : List Value) (h : zH), zD 128 33 [l0, l1, some .null] S h = zD 128 34 [l0, l1, some .null] (.null :: S) h) ∧
  (∀ (l0 l1 l2 : Option Value) (w : Nat) (i : Int32) (a : Nat) (r : List Value) (h : zH) (hx : zrok (h.2.2 a) i = true) (hw : zrel h (h.2.2 a) w = true), zD 128 34 [l0, l1, l2] (.ref w :: .int i :: .ref a :: r) h = zD 128 35 [l0, l1, l2] r (zw h a (zrs' (h.2.2 a) i (some w)))) ∧
  (∀ (l0 l1 l2 : Option Value) (i : Int32) (a : Nat) (r : List Value) (h : zH) (hx : zrok (h.2.2 a) i = true), zD 128 34 [l0, l1, l2] (.null :: .int i :: .ref a :: r) h = zD 128 35 [l0, l1, l2] r (zw h a (zrs' (h.2.2 a) i none))) ∧
  (∀ (l1 l2 : Option Value) (x : Nat) (S : List Value) (h : zH), zD 128 35 [some (.ref x), l1, l2] S h = zD 128 36 [some (.ref x), l1, l2] (.ref x :: S) h) ∧
  (∀ (l0 l1 l2 : Option Value) (x : Int32) (r : List Value) (h : zH), zD 128 36 [l0, l1, l2] (.int x :: r) h = zD 128 37 [l0, l1, l2] (.int x :: .int x :: r) h) ∧
  (∀ (l0 l1 l2 : Option Value) (x : Nat) (r : List Value) (h : zH), zD 128 36 [l0, l1, l2] (.ref x :: r) h = zD 128 37 [l0, l1, l2] (.ref x :: .ref x :: r) h) ∧
  (∀ (l0 l1 l2 : Option Value) (a : Nat) (r : List Value) (h : zH) (hx : zfok (h.2.2 a) 1 1 = true), zD 128 37 [l0, l1, l2] (.ref a :: r) h = zD 128 40 [l0, l1, l2] (zfv (h.2.2 a) 1 :: r) h) ∧
  (∀ (l0 l1 l2 : Option Value) (S : List Value) (h : zH), zD 128 40 [l0, l1, l2] S h = zD 128 41 [l0, l1, l2] (.int (1 : Int32) :: S) h) ∧
  (∀ (l0 l1 l2 : Option Value) (x y : Int32) (r : List Value) (h : zH), zD 128 41 [l0, l1, l2] (.int y :: .int x :: r) h = zD 128 42 [l0, l1, l2] (.int (x + y) :: r) h) ∧
  (∀ (l0 l1 l2 : Option Value) (v : Int32) (a : Nat) (r : List Value) (h : zH) (hx : zfok (h.2.2 a) 1 1 = true), zD 128 42 [l0, l1, l2] (.int v :: .ref a :: r) h = zD 128 45 [l0, l1, l2] r (zw h a (zfs' (h.2.2 a) 1 (.int v)))) ∧
  (∀ (l1 l2 : Option Value) (x : Nat) (S : List Value) (h : zH), zD 128 45 [some (.ref x), l1, l2] S h = zD 128 46 [some (.ref x), l1, l2] (.ref x :: S) h) ∧
  (∀ (l0 l1 l2 : Option Value) (a : Nat) (r : List Value) (h : zH) (hx : zfok (h.2.2 a) 1 1 = true), zD 128 46 [l0, l1, l2] (.ref a :: r) h = zD 128 49 [l0, l1, l2] (zfv (h.2.2 a) 1 :: r) h) ∧
  (∀ (l0 l1 l2 : Option Value) (S : List Value) (h : zH), zD 128 49 [l0, l1, l2] S h = zD 128 50 [l0, l1, l2] (.int (1 : Int32) :: S) h) ∧
  (∀ (l0 l1 l2 : Option Value) (x y : Int32) (r : List Value) (h : zH), zD 128 50 [l0, l1, l2] (.int y :: .int x :: r) h = zD 128 51 [l0, l1, l2] (.int (x - y) :: r) h) ∧
  (∀ (l0 l1 l2 : Option Value) (v : Int32) (h : zH), zD 128 51 [l0, l1, l2] [.int v] h = some (some (.int v), h)) :=
  ⟨fun l1 l2 x S h => zD_op (ins := .aload_n 0) (len := 1) (c := (1, [some (.ref x), l1, l2], (.ref x :: S), h)) (by decide +kernel) rfl rfl rfl rfl,
  fun l0 l1 l2 a r h hx => zD_getf (i := 17) (ci := 1) (k := 1) (q := (185, 0)) (by decide +kernel) (by decide +kernel) hx,
  fun l0 l1 l2 S h => zD_bip (n := 20) (by decide +kernel) (by decide +kernel),
  fun l0 l1 l2 x y r h => zD_if (cnd := .lt) (off := 6) (by decide +kernel) (by decide) rfl,
  fun l0 l1 l2 S h => zD_bip (n := (-104)) (by decide +kernel) (by decide +kernel),
  fun l0 l1 l2 v h => zD_ireti (by decide +kernel) rfl,
  fun l0 l1 l2 S h => zD_new (i := 9) (ci := 3) (q := (182, 65, 42)) (by decide +kernel) (by decide +kernel) rfl rfl,
  fun l0 l1 l2 x r h => zD_op (ins := .dup) (len := 1) (c := (16, [l0, l1, l2], (.int x :: .int x :: r), h)) (by decide +kernel) rfl rfl rfl rfl,
  fun l0 l1 l2 x r h => zD_op (ins := .dup) (len := 1) (c := (16, [l0, l1, l2], (.ref x :: .ref x :: r), h)) (by decide +kernel) rfl rfl rfl rfl,
  fun l0 l1 l2 a r h hcat hC => zD_calli (i := 21) (y := 90) (n := 0) (as := []) (by decide +kernel) (by decide +kernel) rfl (by decide +kernel) (Nat.le_of_ble_eq_true rfl) hcat hC,
  fun l0 l1 l2 x r h => zD_st1 (k := 2) (ins := .astore_n 2) (len := 1) (by decide +kernel) rfl rfl rfl (by decide +kernel) rfl rfl,
  fun l0 l1 l2 r h => zD_st1 (k := 2) (ins := .astore_n 2) (len := 1) (by decide +kernel) rfl rfl rfl (by decide +kernel) rfl rfl,
  fun l0 l1 x S h => zD_op (ins := .aload_n 2) (len := 1) (c := (21, [l0, l1, some (.ref x)], (.ref x :: S), h)) (by decide +kernel) rfl rfl rfl rfl,
  fun l0 l1 S h => zD_op (ins := .aload_n 2) (len := 1) (c := (21, [l0, l1, some .null], (.null :: S), h)) (by decide +kernel) rfl rfl rfl rfl,
  fun l0 l2 x S h => zD_op (ins := .aload_n 1) (len := 1) (c := (22, [l0, some (.ref x), l2], (.ref x :: S), h)) (by decide +kernel) rfl rfl rfl rfl,
  fun l0 l2 S h => zD_op (ins := .aload_n 1) (len := 1) (c := (22, [l0, some .null, l2], (.null :: S), h)) (by decide +kernel) rfl rfl rfl rfl,
  fun l0 l1 l2 p0 a r h hcat hr hC => zD_callv (i := 22) (y := 50) (n := 1) (as := [.ref p0]) (ci := 3) (by decide +kernel) (by decide +kernel) rfl (by decide +kernel) (Nat.le_of_ble_eq_true rfl) (by decide +kernel) hcat hr hC,
  fun l1 l2 x S h => zD_op (ins := .aload_n 0) (len := 1) (c := (26, [some (.ref x), l1, l2], (.ref x :: S), h)) (by decide +kernel) rfl rfl rfl rfl,
  fun l0 l1 l2 a r h hx => zD_getf (i := 11) (ci := 1) (k := 0) (q := (184, 0)) (by decide +kernel) (by decide +kernel) hx,
  fun l1 l2 x S h => zD_op (ins := .aload_n 0) (len := 1) (c := (30, [some (.ref x), l1, l2], (.ref x :: S), h)) (by decide +kernel) rfl rfl rfl rfl,
  fun l0 l1 l2 a r h hx => zD_getf (i := 17) (ci := 1) (k := 1) (q := (185, 0)) (by decide +kernel) (by decide +kernel) hx,
  fun l0 l1 x S h => zD_op (ins := .aload_n 2) (len := 1) (c := (34, [l0, l1, some (.ref x)], (.ref x :: S), h)) (by decide +kernel) rfl rfl rfl rfl,
  fun l0 l1 S h => zD_op (ins := .aload_n 2) (len := 1) (c := (34, [l0, l1, some .null], (.null :: S), h)) (by decide +kernel) rfl rfl rfl rfl,
  fun l0 l1 l2 w i a r h hx hw => zD_aast (by decide +kernel) hx hw,
  fun l0 l1 l2 i a r h hx => zD_aastn (by decide +kernel) hx,
  fun l1 l2 x S h => zD_op (ins := .aload_n 0) (len := 1) (c := (36, [some (.ref x), l1, l2], (.ref x :: S), h)) (by decide +kernel) rfl rfl rfl rfl,
  fun l0 l1 l2 x r h => zD_op (ins := .dup) (len := 1) (c := (37, [l0, l1, l2], (.int x :: .int x :: r), h)) (by decide +kernel) rfl rfl rfl rfl,
  fun l0 l1 l2 x r h => zD_op (ins := .dup) (len := 1) (c := (37, [l0, l1, l2], (.ref x :: .ref x :: r), h)) (by decide +kernel) rfl rfl rfl rfl,
  fun l0 l1 l2 a r h hx => zD_getf (i := 17) (ci := 1) (k := 1) (q := (185, 0)) (by decide +kernel) (by decide +kernel) hx,
  fun l0 l1 l2 S h => zD_icst (n := 1) (by decide +kernel) (by decide +kernel),
  fun l0 l1 l2 x y r h => zD_op (ins := .iadd) (len := 1) (c := (42, [l0, l1, l2], (.int (x + y) :: r), h)) (by decide +kernel) rfl rfl rfl rfl,
  fun l0 l1 l2 v a r h hx => zD_putf (i := 17) (ci := 1) (k := 1) (q := (185, 0)) (by decide +kernel) (by decide +kernel) (by decide +kernel) hx rfl rfl,
  fun l1 l2 x S h => zD_op (ins := .aload_n 0) (len := 1) (c := (46, [some (.ref x), l1, l2], (.ref x :: S), h)) (by decide +kernel) rfl rfl rfl rfl,
  fun l0 l1 l2 a r h hx => zD_getf (i := 17) (ci := 1) (k := 1) (q := (185, 0)) (by decide +kernel) (by decide +kernel) hx,
  fun l0 l1 l2 S h => zD_icst (n := 1) (by decide +kernel) (by decide +kernel),
  fun l0 l1 l2 x y r h => zD_op (ins := .isub) (len := 1) (c := (51, [l0, l1, l2], (.int (x - y) :: r), h)) (by decide +kernel) rfl rfl rfl rfl,
  fun l0 l1 l2 v h => zD_ireti (by decide +kernel) rfl⟩
set_option maxRecDepth 100000 in
theorem I_X1_add : (∀ (a : Nat) (p0 : Nat) (h : zH), zC 128 [.ref a, .ref p0] h = zD 128 0 [some (.ref a), some (.ref p0), none] [] h) :=
  fun a p0 h => zC_def rfl
set_option maxRecDepth 100000 in
theorem E_X2_keyOf : (∀ (l0 l1 l2 l3 l4 : Option Value) (S : List Value) (h : zH), zD 129 0 [l0, l1, l2, l3, l4] S h = zD 129 1 [l0, l1, l2, l3, l4] (.long (0 : Int64) :: S) h) ∧
  (∀ (l0 l1 l2 l3 l4 : Option Value) (x : Int64) (r : List Value) (h : zH), zD 129 1 [l0, l1, l2, l3, l4] (.long x :: r) h = zD 129 2 [l0, zclr l1, some (.long x), none, l4] r h) ∧
  (∀ (l0 l1 l2 l3 l4 : Option Value) (S : List Value) (h : zH), zD 129 2 [l0, l1, l2, l3, l4] S h = zD 129 3 [l0, l1, l2, l3, l4] (.int (1 : Int32) :: S) h) ∧
  (∀ (l0 l1 l2 l3 l4 : Option Value) (x : Int32) (r : List Value) (h : zH), zD 129 3 [l0, l1, l2, l3, l4] (.int x :: r) h = zD 129 5 [l0, l1, l2, zclr l3, some (.int x)] r h) ∧
  (∀ (l0 l2 l3 l4 : Option Value) (x : Nat) (S : List Value) (h : zH), zD 129 7 [l0, some (.ref x), l2, l3, l4] S h = zD 129 8 [l0, some (.ref x), l2, l3, l4] (.ref x :: S) h) ∧
  (∀ (l0 l2 l3 l4 : Option Value) (S : List Value) (h : zH), zD 129 7 [l0, some .null, l2, l3, l4] S h = zD 129 8 [l0, some .null, l2, l3, l4] (.null :: S) h) ∧
  (∀ (l0 l1 l2 l3 l4 : Option Value) (a : Nat) (r : List Value) (h : zH) (hx : zfok (h.2.2 a) 3 2 = true), zD 129 8 [l0, l1, l2, l3, l4] (.ref a :: r) h = zD 129 11 [l0, l1, l2, l3, l4] (zfv (h.2.2 a) 2 :: r) h) ∧
  (∀ (l0 l1 l2 l3 l4 : Option Value) (x y : Int32) (r : List Value) (h : zH), zD 129 11 [l0, l1, l2, l3, l4] (.int y :: .int x :: r) h = if y < x then zD 129 36 [l0, l1, l2, l3, l4] r h else zD 129 14 [l0, l1, l2, l3, l4] r h) ∧
  (∀ (l0 l1 l3 l4 : Option Value) (x : Int64) (S : List Value) (h : zH), zD 129 14 [l0, l1, some (.long x), l3, l4] S h = zD 129 15 [l0, l1, some (.long x), l3, l4] (.long x :: S) h) ∧
  (∀ (l1 l2 l3 l4 : Option Value) (x : Nat) (S : List Value) (h : zH), zD 129 15 [some (.ref x), l1, l2, l3, l4] S h = zD 129 16 [some (.ref x), l1, l2, l3, l4] (.ref x :: S) h) ∧
  (∀ (l0 l2 l3 l4 : Option Value) (x : Nat) (S : List Value) (h : zH), zD 129 16 [l0, some (.ref x), l2, l3, l4] S h = zD 129 17 [l0, some (.ref x), l2, l3, l4] (.ref x :: S) h) ∧
  (∀ (l0 l2 l3 l4 : Option Value) (S : List Value) (h : zH), zD 129 16 [l0, some .null, l2, l3, l4] S h = zD 129 17 [l0, some .null, l2, l3, l4] (.null :: S) h) ∧
  (∀ (l0 l1 l2 l3 l4 : Option Value) (a : Nat) (r : List Value) (h : zH) (hx : zfok (h.2.2 a) 3 1 = true), zD 129 17 [l0, l1, l2, l3, l4] (.ref a :: r) h = zD 129 20 [l0, l1, l2, l3, l4] (zfv (h.2.2 a) 1 :: r) h) ∧
  (∀ (l0 l1 l2 l3 : Option Value) (x : Int32) (S : List Value) (h : zH), zD 129 20 [l0, l1, l2, l3, some (.int x)] S h = zD 129 22 [l0, l1, l2, l3, some (.int x)] (.int x :: S) h) ∧
  (∀ (l0 l1 l2 l3 l4 : Option Value) (i : Int32) (a : Nat) (r : List Value) (h : zH) (hx : ziok a (h.2.2 a) i = true), zD 129 22 [l0, l1, l2, l3, l4] (.int i :: .ref a :: r) h = zD 129 23 [l0, l1, l2, l3, l4] (.int (ziv (h.2.2 a) i) :: r) h) ∧
  (∀ (l0 l1 l2 l3 : Option Value) (x : Int32) (S : List Value) (h : zH), zD 129 23 [l0, l1, l2, l3, some (.int x)] S h = zD 129 25 [l0, l1, l2, l3, some (.int x)] (.int x :: S) h) ∧
  (∀ (l0 l1 l2 l3 l4 : Option Value) (p0 : Int32) (p1 : Int32) (a : Nat) (r : List Value) (h : zH) (hcat : zcat r ≤ 8) (hr : zis (h.2.2 a) 2 = true) (hC : (zC 89 (.ref a :: [.int p0, .int p1]) h).isSome = true), zD 129 25 [l0, l1, l2, l3, l4] (.int p1 :: .int p0 :: .ref a :: r) h = zD 129 28 [l0, l1, l2, l3, l4] (zgv (zC 89 (.ref a :: [.int p0, .int p1]) h) ++ r) (zgh h (zC 89 (.ref a :: [.int p0, .int p1]) h))) ∧
  (∀ (l0 l1 l2 l3 l4 : Option Value) (x y : Int64) (r : List Value) (h : zH), zD 129 28 [l0, l1, l2, l3, l4] (.long y :: .long x :: r) h = zD 129 29 [l0, l1, l2, l3, l4] (.long (x + y) :: r) h) ∧
  (∀ (l0 l1 l2 l3 l4 : Option Value) (x : Int64) (r : List Value) (h : zH), zD 129 29 [l0, l1, l2, l3, l4] (.long x :: r) h = zD 129 30 [l0, zclr l1, some (.long x), none, l4] r h) ∧
  (∀ (l0 l1 l2 l3 : Option Value) (x : Int32) (S : List Value) (h : zH), zD 129 30 [l0, l1, l2, l3, some (.int x)] S h = zD 129 33 [l0, l1, l2, zclr l3, some (.int (x + (1 : Int32)))] S h) ∧
  (∀ (l0 l1 l2 l3 l4 : Option Value) (S : List Value) (h : zH), zD 129 33 [l0, l1, l2, l3, l4] S h = zD 129 5 [l0, l1, l2, l3, l4] S h) ∧
  (∀ (l0 l1 l3 l4 : Option Value) (x : Int64) (S : List Value) (h : zH), zD 129 36 [l0, l1, some (.long x), l3, l4] S h = zD 129 37 [l0, l1, some (.long x), l3, l4] (.long x :: S) h) ∧
  (∀ (l0 l1 l2 l3 l4 : Option Value) (v : Int64) (h : zH), zD 129 37 [l0, l1, l2, l3, l4] [.long v] h = some (some (.long v), h)) :=
  ⟨fun l0 l1 l2 l3 l4 S h => zD_op (ins := .lconst 0) (len := 1) (c := (1, [l0, l1, l2, l3, l4], (.long (0 : Int64) :: S), h)) (by decide +kernel) rfl rfl rfl rfl,
  fun l0 l1 l2 l3 l4 x r h => zD_st2 (k := 2) (ins := .lstore_n 2) (len := 1) (by decide +kernel) rfl rfl rfl (by decide +kernel) rfl rfl,
  fun l0 l1 l2 l3 l4 S h => zD_icst (n := 1) (by decide +kernel) (by decide +kernel),
  fun l0 l1 l2 l3 l4 x r h => zD_st1 (k := 4) (ins := .istore 4) (len := 2) (by decide +kernel) rfl rfl rfl (by decide +kernel) rfl rfl,
  fun l0 l2 l3 l4 x S h => zD_op (ins := .aload_n 1) (len := 1) (c := (8, [l0, some (.ref x), l2, l3, l4], (.ref x :: S), h)) (by decide +kernel) rfl rfl rfl rfl,
  fun l0 l2 l3 l4 S h => zD_op (ins := .aload_n 1) (len := 1) (c := (8, [l0, some .null, l2, l3, l4], (.null :: S), h)) (by decide +kernel) rfl rfl rfl rfl,
  fun l0 l1 l2 l3 l4 a r h hx => zD_getf (i := 28) (ci := 3) (k := 2) (q := (88, 1)) (by decide +kernel) (by decide +kernel) hx,
  fun l0 l1 l2 l3 l4 x y r h => zD_if (cnd := .gt) (off := 25) (by decide +kernel) (by decide) rfl,
  fun l0 l1 l3 l4 x S h => zD_op (ins := .lload_n 2) (len := 1) (c := (15, [l0, l1, some (.long x), l3, l4], (.long x :: S), h)) (by decide +kernel) rfl rfl rfl rfl,
  fun l1 l2 l3 l4 x S h => zD_op (ins := .aload_n 0) (len := 1) (c := (16, [some (.ref x), l1, l2, l3, l4], (.ref x :: S), h)) (by decide +kernel) rfl rfl rfl rfl,
  fun l0 l2 l3 l4 x S h => zD_op (ins := .aload_n 1) (len := 1) (c := (17, [l0, some (.ref x), l2, l3, l4], (.ref x :: S), h)) (by decide +kernel) rfl rfl rfl rfl,
  fun l0 l2 l3 l4 S h => zD_op (ins := .aload_n 1) (len := 1) (c := (17, [l0, some .null, l2, l3, l4], (.null :: S), h)) (by decide +kernel) rfl rfl rfl rfl,
  fun l0 l1 l2 l3 l4 a r h hx => zD_getf (i := 34) (ci := 3) (k := 1) (q := (83, 1)) (by decide +kernel) (by decide +kernel) hx,
  fun l0 l1 l2 l3 x S h => zD_op (ins := .iload 4) (len := 2) (c := (22, [l0, l1, l2, l3, some (.int x)], (.int x :: S), h)) (by decide +kernel) rfl rfl rfl rfl,
  fun l0 l1 l2 l3 l4 i a r h hx => zD_iald (by decide +kernel) hx,
  fun l0 l1 l2 l3 x S h => zD_op (ins := .iload 4) (len := 2) (c := (25, [l0, l1, l2, l3, some (.int x)], (.int x :: S), h)) (by decide +kernel) rfl rfl rfl rfl,
  fun l0 l1 l2 l3 l4 p0 p1 a r h hcat hr hC => zD_callv (i := 47) (y := 89) (n := 2) (as := [.int p0, .int p1]) (ci := 2) (by decide +kernel) (by decide +kernel) rfl (by decide +kernel) (Nat.le_of_ble_eq_true rfl) (by decide +kernel) hcat hr hC,
  fun l0 l1 l2 l3 l4 x y r h => zD_op (ins := .ladd) (len := 1) (c := (29, [l0, l1, l2, l3, l4], (.long (x + y) :: r), h)) (by decide +kernel) rfl rfl rfl rfl,
  fun l0 l1 l2 l3 l4 x r h => zD_st2 (k := 2) (ins := .lstore_n 2) (len := 1) (by decide +kernel) rfl rfl rfl (by decide +kernel) rfl rfl,
  fun l0 l1 l2 l3 x S h => zD_iinc (k := 4) (x := x) (c := (1 : Int32)) (n := 1) (by decide +kernel) (by decide +kernel) rfl (by decide +kernel) rfl,
  fun l0 l1 l2 l3 l4 S h => zD_goto (off := (-28)) (by decide +kernel) (by decide),
  fun l0 l1 l3 l4 x S h => zD_op (ins := .lload_n 2) (len := 1) (c := (37, [l0, l1, some (.long x), l3, l4], (.long x :: S), h)) (by decide +kernel) rfl rfl rfl rfl,
  fun l0 l1 l2 l3 l4 v h => zD_lret (by decide +kernel) rfl⟩
set_option maxRecDepth 100000 in
theorem E_X2_keyOf_h5 : (∀ (l0 l1 l2 l3 : Option Value) (x : Int32) (S : List Value) (h : zH), zD 129 5 [l0, l1, l2, l3, some (.int x)] S h = zD 129 7 [l0, l1, l2, l3, some (.int x)] (.int x :: S) h) :=
  fun l0 l1 l2 l3 x S h => zD_op (ins := .iload 4) (len := 2) (c := (7, [l0, l1, l2, l3, some (.int x)], (.int x :: S), h)) (by decide +kernel) rfl rfl rfl rfl
set_option maxRecDepth 100000 in
theorem I_X2_keyOf : (∀ (a : Nat) (p0 : Nat) (h : zH), zC 129 [.ref a, .ref p0] h = zD 129 0 [some (.ref a), some (.ref p0), none, none, none] [] h) :=
  fun a p0 h => zC_def rfl
set_option maxRecDepth 100000 in
theorem E_X5_searchBehind : (∀ (l1 l2 l3 l4 : Option Value) (x : Nat) (S : List Value) (h : zH), zD 130 0 [some (.ref x), l1, l2, l3, l4] S h = zD 130 1 [some (.ref x), l1, l2, l3, l4] (.ref x :: S) h) ∧
  (∀ (l0 l1 l2 l3 l4 : Option Value) (a : Nat) (r : List Value) (h : zH) (hx : zfok (h.2.2 a) 4 5 = true), zD 130 1 [l0, l1, l2, l3, l4] (.ref a :: r) h = zD 130 4 [l0, l1, l2, l3, l4] (zfv (h.2.2 a) 5 :: r) h) ∧
  (∀ (l0 l1 l2 l3 l4 : Option Value) (S : List Value) (h : zH), zD 130 4 [l0, l1, l2, l3, l4] S h = zD 130 5 [l0, l1, l2, l3, l4] (.int (2 : Int32) :: S) h) ∧
  (∀ (l0 l1 l2 l3 l4 : Option Value) (i : Int32) (a : Nat) (r : List Value) (h : zH) (hx : ziok a (h.2.2 a) i = true), zD 130 5 [l0, l1, l2, l3, l4] (.int i :: .ref a :: r) h = zD 130 6 [l0, l1, l2, l3, l4] (.int (ziv (h.2.2 a) i) :: r) h) ∧
  (∀ (l0 l1 l2 l3 l4 : Option Value) (x : Int32) (r : List Value) (h : zH), zD 130 6 [l0, l1, l2, l3, l4] (.int x :: r) h = zD 130 7 [l0, l1, zclr l2, some (.int x), l4] r h) ∧
  (∀ (l1 l2 l3 l4 : Option Value) (x : Nat) (S : List Value) (h : zH), zD 130 8 [some (.ref x), l1, l2, l3, l4] S h = zD 130 9 [some (.ref x), l1, l2, l3, l4] (.ref x :: S) h) ∧
  (∀ (l0 l1 l2 l3 l4 : Option Value) (a : Nat) (r : List Value) (h : zH) (hx : zfok (h.2.2 a) 4 6 = true), zD 130 9 [l0, l1, l2, l3, l4] (.ref a :: r) h = zD 130 12 [l0, l1, l2, l3, l4] (zfv (h.2.2 a) 6 :: r) h) ∧
  (∀ (l0 l1 l2 l3 l4 : Option Value) (S : List Value) (h : zH), zD 130 12 [l0, l1, l2, l3, l4] S h = zD 130 13 [l0, l1, l2, l3, l4] (.int (2 : Int32) :: S) h) ∧
  (∀ (l0 l1 l2 l3 l4 : Option Value) (i : Int32) (a : Nat) (r : List Value) (h : zH) (hx : ziok a (h.2.2 a) i = true), zD 130 13 [l0, l1, l2, l3, l4] (.int i :: .ref a :: r) h = zD 130 14 [l0, l1, l2, l3, l4] (.int (ziv (h.2.2 a) i) :: r) h) ∧
  (∀ (l0 l1 l2 l3 l4 : Option Value) (x y : Int32) (r : List Value) (h : zH), zD 130 14 [l0, l1, l2, l3, l4] (.int y :: .int x :: r) h = if y < x then zD 130 77 [l0, l1, l2, l3, l4] r h else zD 130 17 [l0, l1, l2, l3, l4] r h) ∧
  (∀ (l1 l2 l3 l4 : Option Value) (x : Nat) (S : List Value) (h : zH), zD 130 17 [some (.ref x), l1, l2, l3, l4] S h = zD 130 18 [some (.ref x), l1, l2, l3, l4] (.ref x :: S) h) ∧
  (∀ (l0 l2 l3 l4 : Option Value) (x : Nat) (S : List Value) (h : zH), zD 130 18 [l0, some (.ref x), l2, l3, l4] S h = zD 130 19 [l0, some (.ref x), l2, l3, l4] (.ref x :: S) h) ∧
  (∀ (l0 l2 l3 l4 : Option Value) (S : List Value) (h : zH), zD 130 18 [l0, some .null, l2, l3, l4] S h = zD 130 19 [l0, some .null, l2, l3, l4] (.null :: S) h) ∧
  (∀ (l0 l1 l2 l3 l4 : Option Value) (S : List Value) (h : zH), zD 130 19 [l0, l1, l2, l3, l4] S h = zD 130 20 [l0, l1, l2, l3, l4] (.int (2 : Int32) :: S) h) ∧
  (∀ (l0 l1 l2 l4 : Option Value) (x : Int32) (S : List Value) (h : zH), zD 130 20 [l0, l1, l2, some (.int x), l4] S h = zD 130 21 [l0, l1, l2, some (.int x), l4] (.int x :: S) h) ∧
  (∀ (l0 l1 l2 l3 l4 : Option Value) (p0 : Nat) (p1 : Int32) (p2 : Int32) (a : Nat) (r : List Value) (h : zH) (hcat : zcat r ≤ 8) (hr : zis (h.2.2 a) 4 = true) (hC : (zC 98 (.ref a :: [.ref p0, .int p1, .int p2]) h).isSome = true), zD 130 21 [l0, l1, l2, l3, l4] (.int p2 :: .int p1 :: .ref p0 :: .ref a :: r) h = zD 130 24 [l0, l1, l2, l3, l4] (zgv (zC 98 (.ref a :: [.ref p0, .int p1, .int p2]) h) ++ r) (zgh h (zC 98 (.ref a :: [.ref p0, .int p1, .int p2]) h))) ∧
  (∀ (l0 l1 l2 l3 l4 : Option Value) (x : Int32) (r : List Value) (h : zH), zD 130 24 [l0, l1, l2, l3, l4] (.int x :: r) h = if ¬ x = 0 then zD 130 30 [l0, l1, l2, l3, l4] r h else zD 130 27 [l0, l1, l2, l3, l4] r h) ∧
  (∀ (l0 l1 l2 l3 l4 : Option Value) (S : List Value) (h : zH), zD 130 27 [l0, l1, l2, l3, l4] S h = zD 130 71 [l0, l1, l2, l3, l4] S h) ∧
  (∀ (l1 l2 l3 l4 : Option Value) (x : Nat) (S : List Value) (h : zH), zD 130 30 [some (.ref x), l1, l2, l3, l4] S h = zD 130 31 [some (.ref x), l1, l2, l3, l4] (.ref x :: S) h) ∧
  (∀ (l0 l1 l2 l3 l4 : Option Value) (a : Nat) (r : List Value) (h : zH) (hx : zfok (h.2.2 a) 4 5 = true), zD 130 31 [l0, l1, l2, l3, l4] (.ref a :: r) h = zD 130 34 [l0, l1, l2, l3, l4] (zfv (h.2.2 a) 5 :: r) h) ∧
  (∀ (l0 l1 l2 l3 l4 : Option Value) (S : List Value) (h : zH), zD 130 34 [l0, l1, l2, l3, l4] S h = zD 130 35 [l0, l1, l2, l3, l4] (.int (3 : Int32) :: S) h) ∧
  (∀ (l0 l1 l2 l3 l4 : Option Value) (i : Int32) (a : Nat) (r : List Value) (h : zH) (hx : ziok a (h.2.2 a) i = true), zD 130 35 [l0, l1, l2, l3, l4] (.int i :: .ref a :: r) h = zD 130 36 [l0, l1, l2, l3, l4] (.int (ziv (h.2.2 a) i) :: r) h) ∧
  (∀ (l0 l1 l2 l3 l4 : Option Value) (x : Int32) (r : List Value) (h : zH), zD 130 36 [l0, l1, l2, l3, l4] (.int x :: r) h = zD 130 38 [l0, l1, l2, zclr l3, some (.int x)] r h) ∧
  (∀ (l1 l2 l3 l4 : Option Value) (x : Nat) (S : List Value) (h : zH), zD 130 40 [some (.ref x), l1, l2, l3, l4] S h = zD 130 41 [some (.ref x), l1, l2, l3, l4] (.ref x :: S) h) ∧
  (∀ (l0 l1 l2 l3 l4 : Option Value) (a : Nat) (r : List Value) (h : zH) (hx : zfok (h.2.2 a) 4 6 = true), zD 130 41 [l0, l1, l2, l3, l4] (.ref a :: r) h = zD 130 44 [l0, l1, l2, l3, l4] (zfv (h.2.2 a) 6 :: r) h) ∧
  (∀ (l0 l1 l2 l3 l4 : Option Value) (S : List Value) (h : zH), zD 130 44 [l0, l1, l2, l3, l4] S h = zD 130 45 [l0, l1, l2, l3, l4] (.int (3 : Int32) :: S) h) ∧
  (∀ (l0 l1 l2 l3 l4 : Option Value) (i : Int32) (a : Nat) (r : List Value) (h : zH) (hx : ziok a (h.2.2 a) i = true), zD 130 45 [l0, l1, l2, l3, l4] (.int i :: .ref a :: r) h = zD 130 46 [l0, l1, l2, l3, l4] (.int (ziv (h.2.2 a) i) :: r) h) ∧
  (∀ (l0 l1 l2 l3 l4 : Option Value) (x y : Int32) (r : List Value) (h : zH), zD 130 46 [l0, l1, l2, l3, l4] (.int y :: .int x :: r) h = if y < x then zD 130 71 [l0, l1, l2, l3, l4] r h else zD 130 49 [l0, l1, l2, l3, l4] r h) ∧
  (∀ (l1 l2 l3 l4 : Option Value) (x : Nat) (S : List Value) (h : zH), zD 130 49 [some (.ref x), l1, l2, l3, l4] S h = zD 130 50 [some (.ref x), l1, l2, l3, l4] (.ref x :: S) h) ∧
  (∀ (l0 l2 l3 l4 : Option Value) (x : Nat) (S : List Value) (h : zH), zD 130 50 [l0, some (.ref x), l2, l3, l4] S h = zD 130 51 [l0, some (.ref x), l2, l3, l4] (.ref x :: S) h) ∧
  (∀ (l0 l2 l3 l4 : Option Value) (S : List Value) (h : zH), zD 130 50 [l0, some .null, l2, l3, l4] S h = zD 130 51 [l0, some .null, l2, l3, l4] (.null :: S) h) ∧
  (∀ (l0 l1 l2 l3 l4 : Option Value) (S : List Value) (h : zH), zD 130 51 [l0, l1, l2, l3, l4] S h = zD 130 52 [l0, l1, l2, l3, l4] (.int (3 : Int32) :: S) h) ∧
  (∀ (l0 l1 l2 l3 : Option Value) (x : Int32) (S : List Value) (h : zH), zD 130 52 [l0, l1, l2, l3, some (.int x)] S h = zD 130 54 [l0, l1, l2, l3, some (.int x)] (.int x :: S) h) ∧
  (∀ (l0 l1 l2 l3 l4 : Option Value) (p0 : Nat) (p1 : Int32) (p2 : Int32) (a : Nat) (r : List Value) (h : zH) (hcat : zcat r ≤ 8) (hr : zis (h.2.2 a) 4 = true) (hC : (zC 98 (.ref a :: [.ref p0, .int p1, .int p2]) h).isSome = true), zD 130 54 [l0, l1, l2, l3, l4] (.int p2 :: .int p1 :: .ref p0 :: .ref a :: r) h = zD 130 57 [l0, l1, l2, l3, l4] (zgv (zC 98 (.ref a :: [.ref p0, .int p1, .int p2]) h) ++ r) (zgh h (zC 98 (.ref a :: [.ref p0, .int p1, .int p2]) h))) ∧
  (∀ (l0 l1 l2 l3 l4 : Option Value) (x : Int32) (r : List Value) (h : zH), zD 130 57 [l0, l1, l2, l3, l4] (.int x :: r) h = if x = 0 then zD 130 65 [l0, l1, l2, l3, l4] r h else zD 130 60 [l0, l1, l2, l3, l4] r h) ∧
  (∀ (l1 l2 l3 l4 : Option Value) (x : Nat) (S : List Value) (h : zH), zD 130 60 [some (.ref x), l1, l2, l3, l4] S h = zD 130 61 [some (.ref x), l1, l2, l3, l4] (.ref x :: S) h) ∧
  (∀ (l0 l1 l3 l4 : Option Value) (x : Int32) (S : List Value) (h : zH), zD 130 61 [l0, l1, some (.int x), l3, l4] S h = zD 130 62 [l0, l1, some (.int x), l3, l4] (.int x :: S) h) ∧
  (∀ (l0 l1 l2 l3 l4 : Option Value) (p0 : Int32) (a : Nat) (r : List Value) (h : zH) (hcat : zcat r ≤ 8) (hr : zis (h.2.2 a) 4 = true) (hC : (zC 13 (.ref a :: [.int p0]) h).isSome = true), zD 130 62 [l0, l1, l2, l3, l4] (.int p0 :: .ref a :: r) h = zD 130 65 [l0, l1, l2, l3, l4] (zgv (zC 13 (.ref a :: [.int p0]) h) ++ r) (zgh h (zC 13 (.ref a :: [.int p0]) h))) ∧
  (∀ (l0 l1 l2 l3 : Option Value) (x : Int32) (S : List Value) (h : zH), zD 130 65 [l0, l1, l2, l3, some (.int x)] S h = zD 130 68 [l0, l1, l2, zclr l3, some (.int (x + (1 : Int32)))] S h) ∧
  (∀ (l0 l1 l2 l3 l4 : Option Value) (S : List Value) (h : zH), zD 130 68 [l0, l1, l2, l3, l4] S h = zD 130 38 [l0, l1, l2, l3, l4] S h) ∧
  (∀ (l0 l1 l2 l4 : Option Value) (x : Int32) (S : List Value) (h : zH), zD 130 71 [l0, l1, l2, some (.int x), l4] S h = zD 130 74 [l0, l1, zclr l2, some (.int (x + (1 : Int32))), l4] S h) ∧
  (∀ (l0 l1 l2 l3 l4 : Option Value) (S : List Value) (h : zH), zD 130 74 [l0, l1, l2, l3, l4] S h = zD 130 7 [l0, l1, l2, l3, l4] S h) ∧
  (∀ (l0 l1 l2 l3 l4 : Option Value) (h : zH), zD 130 77 [l0, l1, l2, l3, l4] [] h = some (none, h)) :=
  ⟨fun l1 l2 l3 l4 x S h => zD_op (ins := .aload_n 0) (len := 1) (c := (1, [some (.ref x), l1, l2, l3, l4], (.ref x :: S), h)) (by decide +kernel) rfl rfl rfl rfl,
  fun l0 l1 l2 l3 l4 a r h hx => zD_getf (i := 24) (ci := 4) (k := 5) (q := (221, 0)) (by decide +kernel) (by decide +kernel) hx,
  fun l0 l1 l2 l3 l4 S h => zD_icst (n := 2) (by decide +kernel) (by decide +kernel),
  fun l0 l1 l2 l3 l4 i a r h hx => zD_iald (by decide +kernel) hx,
  fun l0 l1 l2 l3 l4 x r h => zD_st1 (k := 3) (ins := .istore_n 3) (len := 1) (by decide +kernel) rfl rfl rfl (by decide +kernel) rfl rfl,
  fun l1 l2 l3 l4 x S h => zD_op (ins := .aload_n 0) (len := 1) (c := (9, [some (.ref x), l1, l2, l3, l4], (.ref x :: S), h)) (by decide +kernel) rfl rfl rfl rfl,
  fun l0 l1 l2 l3 l4 a r h hx => zD_getf (i := 27) (ci := 4) (k := 6) (q := (222, 0)) (by decide +kernel) (by decide +kernel) hx,
  fun l0 l1 l2 l3 l4 S h => zD_icst (n := 2) (by decide +kernel) (by decide +kernel),
  fun l0 l1 l2 l3 l4 i a r h hx => zD_iald (by decide +kernel) hx,
  fun l0 l1 l2 l3 l4 x y r h => zD_if (cnd := .gt) (off := 63) (by decide +kernel) (by decide) rfl,
  fun l1 l2 l3 l4 x S h => zD_op (ins := .aload_n 0) (len := 1) (c := (18, [some (.ref x), l1, l2, l3, l4], (.ref x :: S), h)) (by decide +kernel) rfl rfl rfl rfl,
  fun l0 l2 l3 l4 x S h => zD_op (ins := .aload_n 1) (len := 1) (c := (19, [l0, some (.ref x), l2, l3, l4], (.ref x :: S), h)) (by decide +kernel) rfl rfl rfl rfl,
  fun l0 l2 l3 l4 S h => zD_op (ins := .aload_n 1) (len := 1) (c := (19, [l0, some .null, l2, l3, l4], (.null :: S), h)) (by decide +kernel) rfl rfl rfl rfl,
  fun l0 l1 l2 l3 l4 S h => zD_icst (n := 2) (by decide +kernel) (by decide +kernel),
  fun l0 l1 l2 l4 x S h => zD_op (ins := .iload_n 3) (len := 1) (c := (21, [l0, l1, l2, some (.int x), l4], (.int x :: S), h)) (by decide +kernel) rfl rfl rfl rfl,
  fun l0 l1 l2 l3 l4 p0 p1 p2 a r h hcat hr hC => zD_callv (i := 41) (y := 98) (n := 3) (as := [.ref p0, .int p1, .int p2]) (ci := 4) (by decide +kernel) (by decide +kernel) rfl (by decide +kernel) (Nat.le_of_ble_eq_true rfl) (by decide +kernel) hcat hr hC,
  fun l0 l1 l2 l3 l4 x r h => zD_if0 (cnd := .ne) (off := 6) (by decide +kernel) (by decide) rfl,
  fun l0 l1 l2 l3 l4 S h => zD_goto (off := 44) (by decide +kernel) (by decide),
  fun l1 l2 l3 l4 x S h => zD_op (ins := .aload_n 0) (len := 1) (c := (31, [some (.ref x), l1, l2, l3, l4], (.ref x :: S), h)) (by decide +kernel) rfl rfl rfl rfl,
  fun l0 l1 l2 l3 l4 a r h hx => zD_getf (i := 24) (ci := 4) (k := 5) (q := (221, 0)) (by decide +kernel) (by decide +kernel) hx,
  fun l0 l1 l2 l3 l4 S h => zD_icst (n := 3) (by decide +kernel) (by decide +kernel),
  fun l0 l1 l2 l3 l4 i a r h hx => zD_iald (by decide +kernel) hx,
  fun l0 l1 l2 l3 l4 x r h => zD_st1 (k := 4) (ins := .istore 4) (len := 2) (by decide +kernel) rfl rfl rfl (by decide +kernel) rfl rfl,
  fun l1 l2 l3 l4 x S h => zD_op (ins := .aload_n 0) (len := 1) (c := (41, [some (.ref x), l1, l2, l3, l4], (.ref x :: S), h)) (by decide +kernel) rfl rfl rfl rfl,
  fun l0 l1 l2 l3 l4 a r h hx => zD_getf (i := 27) (ci := 4) (k := 6) (q := (222, 0)) (by decide +kernel) (by decide +kernel) hx,
  fun l0 l1 l2 l3 l4 S h => zD_icst (n := 3) (by decide +kernel) (by decide +kernel),
  fun l0 l1 l2 l3 l4 i a r h hx => zD_iald (by decide +kernel) hx,
  fun l0 l1 l2 l3 l4 x y r h => zD_if (cnd := .gt) (off := 25) (by decide +kernel) (by decide) rfl,
  fun l1 l2 l3 l4 x S h => zD_op (ins := .aload_n 0) (len := 1) (c := (50, [some (.ref x), l1, l2, l3, l4], (.ref x :: S), h)) (by decide +kernel) rfl rfl rfl rfl,
  fun l0 l2 l3 l4 x S h => zD_op (ins := .aload_n 1) (len := 1) (c := (51, [l0, some (.ref x), l2, l3, l4], (.ref x :: S), h)) (by decide +kernel) rfl rfl rfl rfl,
  fun l0 l2 l3 l4 S h => zD_op (ins := .aload_n 1) (len := 1) (c := (51, [l0, some .null, l2, l3, l4], (.null :: S), h)) (by decide +kernel) rfl rfl rfl rfl,
  fun l0 l1 l2 l3 l4 S h => zD_icst (n := 3) (by decide +kernel) (by decide +kernel),
  fun l0 l1 l2 l3 x S h => zD_op (ins := .iload 4) (len := 2) (c := (54, [l0, l1, l2, l3, some (.int x)], (.int x :: S), h)) (by decide +kernel) rfl rfl rfl rfl,
  fun l0 l1 l2 l3 l4 p0 p1 p2 a r h hcat hr hC => zD_callv (i := 41) (y := 98) (n := 3) (as := [.ref p0, .int p1, .int p2]) (ci := 4) (by decide +kernel) (by decide +kernel) rfl (by decide +kernel) (Nat.le_of_ble_eq_true rfl) (by decide +kernel) hcat hr hC,
  fun l0 l1 l2 l3 l4 x r h => zD_if0 (cnd := .eq) (off := 8) (by decide +kernel) (by decide) rfl,
  fun l1 l2 l3 l4 x S h => zD_op (ins := .aload_n 0) (len := 1) (c := (61, [some (.ref x), l1, l2, l3, l4], (.ref x :: S), h)) (by decide +kernel) rfl rfl rfl rfl,
  fun l0 l1 l3 l4 x S h => zD_op (ins := .iload_n 2) (len := 1) (c := (62, [l0, l1, some (.int x), l3, l4], (.int x :: S), h)) (by decide +kernel) rfl rfl rfl rfl,
  fun l0 l1 l2 l3 l4 p0 a r h hcat hr hC => zD_callv (i := 52) (y := 13) (n := 1) (as := [.int p0]) (ci := 4) (by decide +kernel) (by decide +kernel) rfl (by decide +kernel) (Nat.le_of_ble_eq_true rfl) (by decide +kernel) hcat hr hC,
  fun l0 l1 l2 l3 x S h => zD_iinc (k := 4) (x := x) (c := (1 : Int32)) (n := 1) (by decide +kernel) (by decide +kernel) rfl (by decide +kernel) rfl,
  fun l0 l1 l2 l3 l4 S h => zD_goto (off := (-30)) (by decide +kernel) (by decide),
  fun l0 l1 l2 l4 x S h => zD_iinc (k := 3) (x := x) (c := (1 : Int32)) (n := 1) (by decide +kernel) (by decide +kernel) rfl (by decide +kernel) rfl,
  fun l0 l1 l2 l3 l4 S h => zD_goto (off := (-67)) (by decide +kernel) (by decide),
  fun l0 l1 l2 l3 l4 h => zD_vret (by decide +kernel) rfl⟩
set_option maxRecDepth 100000 in
theorem E_X5_searchBehind_h7 : (∀ (l0 l1 l2 l4 : Option Value) (x : Int32) (S : List Value) (h : zH), zD 130 7 [l0, l1, l2, some (.int x), l4] S h = zD 130 8 [l0, l1, l2, some (.int x), l4] (.int x :: S) h) :=
  fun l0 l1 l2 l4 x S h => zD_op (ins := .iload_n 3) (len := 1) (c := (8, [l0, l1, l2, some (.int x), l4], (.int x :: S), h)) (by decide +kernel) rfl rfl rfl rfl
set_option maxRecDepth 100000 in
theorem E_X5_searchBehind_h38 : (∀ (l0 l1 l2 l3 : Option Value) (x : Int32) (S : List Value) (h : zH), zD 130 38 [l0, l1, l2, l3, some (.int x)] S h = zD 130 40 [l0, l1, l2, l3, some (.int x)] (.int x :: S) h) :=
  fun l0 l1 l2 l3 x S h => zD_op (ins := .iload 4) (len := 2) (c := (40, [l0, l1, l2, l3, some (.int x)], (.int x :: S), h)) (by decide +kernel) rfl rfl rfl rfl
set_option maxRecDepth 100000 in
theorem I_X5_searchBehind : (∀ (a : Nat) (p0 : Nat) (p1 : Int32) (h : zH), zC 130 [.ref a, .ref p0, .int p1] h = zD 130 0 [some (.ref a), some (.ref p0), some (.int p1), none, none] [] h) :=
  fun a p0 p1 h => zC_def rfl
set_option maxRecDepth 100000 in
theorem E_X6_meet : (∀ (l1 l2 l3 l4 l5 : Option Value) (x : Nat) (S : List Value) (h : zH), zD 131 0 [some (.ref x), l1, l2, l3, l4, l5] S h = zD 131 1 [some (.ref x), l1, l2, l3, l4, l5] (.ref x :: S) h) ∧
  (∀ (l0 l2 l3 l4 l5 : Option Value) (x : Int32) (S : List Value) (h : zH), zD 131 1 [l0, some (.int x), l2, l3, l4, l5] S h = zD 131 2 [l0, some (.int x), l2, l3, l4, l5] (.int x :: S) h) ∧
  (∀ (l0 l1 l3 l4 l5 : Option Value) (x : Int32) (S : List Value) (h : zH), zD 131 2 [l0, l1, some (.int x), l3, l4, l5] S h = zD 131 3 [l0, l1, some (.int x), l3, l4, l5] (.int x :: S) h) ∧
  (∀ (l0 l1 l2 l3 l4 l5 : Option Value) (p0 : Int32) (p1 : Int32) (a : Nat) (r : List Value) (h : zH) (hcat : zcat r ≤ 8) (hr : zis (h.2.2 a) 5 = true) (hC : (zC 100 (.ref a :: [.int p0, .int p1]) h).isSome = true), zD 131 3 [l0, l1, l2, l3, l4, l5] (.int p1 :: .int p0 :: .ref a :: r) h = zD 131 6 [l0, l1, l2, l3, l4, l5] (zgv (zC 100 (.ref a :: [.int p0, .int p1]) h) ++ r) (zgh h (zC 100 (.ref a :: [.int p0, .int p1]) h))) ∧
  (∀ (l0 l1 l2 l3 l4 l5 : Option Value) (x : Nat) (r : List Value) (h : zH), zD 131 6 [l0, l1, l2, l3, l4, l5] (.ref x :: r) h = zD 131 8 [l0, l1, l2, zclr l3, some (.ref x), l5] r h) ∧
  (∀ (l0 l1 l2 l3 l4 l5 : Option Value) (r : List Value) (h : zH), zD 131 6 [l0, l1, l2, l3, l4, l5] (.null :: r) h = zD 131 8 [l0, l1, l2, zclr l3, some .null, l5] r h) ∧
  (∀ (l0 l1 l2 l3 l5 : Option Value) (x : Nat) (S : List Value) (h : zH), zD 131 8 [l0, l1, l2, l3, some (.ref x), l5] S h = zD 131 10 [l0, l1, l2, l3, some (.ref x), l5] (.ref x :: S) h) ∧
  (∀ (l0 l1 l2 l3 l5 : Option Value) (S : List Value) (h : zH), zD 131 8 [l0, l1, l2, l3, some .null, l5] S h = zD 131 10 [l0, l1, l2, l3, some .null, l5] (.null :: S) h) ∧
  (∀ (l0 l1 l2 l4 l5 : Option Value) (x : Int32) (S : List Value) (h : zH), zD 131 10 [l0, l1, l2, some (.int x), l4, l5] S h = zD 131 11 [l0, l1, l2, some (.int x), l4, l5] (.int x :: S) h) ∧
  (∀ (l0 l1 l2 l3 l4 l5 : Option Value) (p0 : Int32) (a : Nat) (r : List Value) (h : zH) (hcat : zcat r ≤ 8) (hr : zis (h.2.2 a) 7 = true) (hC : (zC 66 (.ref a :: [.int p0]) h).isSome = true), zD 131 11 [l0, l1, l2, l3, l4, l5] (.int p0 :: .ref a :: r) h = zD 131 14 [l0, l1, l2, l3, l4, l5] (zgv (zC 66 (.ref a :: [.int p0]) h) ++ r) (zgh h (zC 66 (.ref a :: [.int p0]) h))) ∧
  (∀ (l0 l2 l3 l4 l5 : Option Value) (x : Int32) (S : List Value) (h : zH), zD 131 14 [l0, some (.int x), l2, l3, l4, l5] S h = zD 131 15 [l0, some (.int x), l2, l3, l4, l5] (.int x :: S) h) ∧
  (∀ (l0 l1 l2 l3 l4 l5 : Option Value) (x : Int32) (r : List Value) (h : zH), zD 131 15 [l0, l1, l2, l3, l4, l5] (.int x :: r) h = zD 131 17 [l0, l1, l2, l3, zclr l4, some (.int x)] r h) ∧
  (∀ (l0 l1 l3 l4 l5 : Option Value) (x : Int32) (S : List Value) (h : zH), zD 131 19 [l0, l1, some (.int x), l3, l4, l5] S h = zD 131 20 [l0, l1, some (.int x), l3, l4, l5] (.int x :: S) h) ∧
  (∀ (l0 l1 l2 l3 l4 l5 : Option Value) (x y : Int32) (r : List Value) (h : zH), zD 131 20 [l0, l1, l2, l3, l4, l5] (.int y :: .int x :: r) h = if y ≤ x then zD 131 51 [l0, l1, l2, l3, l4, l5] r h else zD 131 23 [l0, l1, l2, l3, l4, l5] r h) ∧
  (∀ (l0 l1 l2 l3 l5 : Option Value) (x : Nat) (S : List Value) (h : zH), zD 131 23 [l0, l1, l2, l3, some (.ref x), l5] S h = zD 131 25 [l0, l1, l2, l3, some (.ref x), l5] (.ref x :: S) h) ∧
  (∀ (l0 l1 l2 l3 l5 : Option Value) (S : List Value) (h : zH), zD 131 23 [l0, l1, l2, l3, some .null, l5] S h = zD 131 25 [l0, l1, l2, l3, some .null, l5] (.null :: S) h) ∧
  (∀ (l1 l2 l3 l4 l5 : Option Value) (x : Nat) (S : List Value) (h : zH), zD 131 25 [some (.ref x), l1, l2, l3, l4, l5] S h = zD 131 26 [some (.ref x), l1, l2, l3, l4, l5] (.ref x :: S) h) ∧
  (∀ (l0 l2 l3 l4 l5 : Option Value) (x : Int32) (S : List Value) (h : zH), zD 131 26 [l0, some (.int x), l2, l3, l4, l5] S h = zD 131 27 [l0, some (.int x), l2, l3, l4, l5] (.int x :: S) h) ∧
  (∀ (l0 l1 l2 l3 l4 : Option Value) (x : Int32) (S : List Value) (h : zH), zD 131 27 [l0, l1, l2, l3, l4, some (.int x)] S h = zD 131 29 [l0, l1, l2, l3, l4, some (.int x)] (.int x :: S) h) ∧
  (∀ (l0 l1 l2 l3 l4 l5 : Option Value) (p0 : Int32) (p1 : Int32) (a : Nat) (r : List Value) (h : zH) (hcat : zcat r ≤ 8) (hr : zis (h.2.2 a) 5 = true) (hC : (zC 61 (.ref a :: [.int p0, .int p1]) h).isSome = true), zD 131 29 [l0, l1, l2, l3, l4, l5] (.int p1 :: .int p0 :: .ref a :: r) h = zD 131 32 [l0, l1, l2, l3, l4, l5] (zgv (zC 61 (.ref a :: [.int p0, .int p1]) h) ++ r) (zgh h (zC 61 (.ref a :: [.int p0, .int p1]) h))) ∧
  (∀ (l1 l2 l3 l4 l5 : Option Value) (x : Nat) (S : List Value) (h : zH), zD 131 32 [some (.ref x), l1, l2, l3, l4, l5] S h = zD 131 33 [some (.ref x), l1, l2, l3, l4, l5] (.ref x :: S) h) ∧
  (∀ (l0 l1 l3 l4 l5 : Option Value) (x : Int32) (S : List Value) (h : zH), zD 131 33 [l0, l1, some (.int x), l3, l4, l5] S h = zD 131 34 [l0, l1, some (.int x), l3, l4, l5] (.int x :: S) h) ∧
  (∀ (l0 l1 l2 l3 l4 : Option Value) (x : Int32) (S : List Value) (h : zH), zD 131 34 [l0, l1, l2, l3, l4, some (.int x)] S h = zD 131 36 [l0, l1, l2, l3, l4, some (.int x)] (.int x :: S) h) ∧
  (∀ (l0 l1 l2 l3 l4 l5 : Option Value) (S : List Value) (h : zH), zD 131 36 [l0, l1, l2, l3, l4, l5] S h = zD 131 37 [l0, l1, l2, l3, l4, l5] (.int (1 : Int32) :: S) h) ∧
  (∀ (l0 l1 l2 l3 l4 l5 : Option Value) (x y : Int32) (r : List Value) (h : zH), zD 131 37 [l0, l1, l2, l3, l4, l5] (.int y :: .int x :: r) h = zD 131 38 [l0, l1, l2, l3, l4, l5] (.int (x + y) :: r) h) ∧
  (∀ (l0 l1 l2 l3 l4 l5 : Option Value) (p0 : Int32) (p1 : Int32) (a : Nat) (r : List Value) (h : zH) (hcat : zcat r ≤ 8) (hr : zis (h.2.2 a) 5 = true) (hC : (zC 61 (.ref a :: [.int p0, .int p1]) h).isSome = true), zD 131 38 [l0, l1, l2, l3, l4, l5] (.int p1 :: .int p0 :: .ref a :: r) h = zD 131 41 [l0, l1, l2, l3, l4, l5] (zgv (zC 61 (.ref a :: [.int p0, .int p1]) h) ++ r) (zgh h (zC 61 (.ref a :: [.int p0, .int p1]) h))) ∧
  (∀ (l0 l1 l2 l3 l4 l5 : Option Value) (S : List Value) (h : zH), zD 131 41 [l0, l1, l2, l3, l4, l5] S h = zD 131 42 [l0, l1, l2, l3, l4, l5] (.long (0 : Int64) :: S) h) ∧
  (∀ (l0 l1 l2 l3 l4 l5 : Option Value) (p0 : Nat) (p1 : Nat) (p2 : Int64) (a : Nat) (r : List Value) (h : zH) (hcat : zcat r ≤ 8) (hr : zis (h.2.2 a) 7 = true) (hC : (zC 103 (.ref a :: [.ref p0, .ref p1, .long p2]) h).isSome = true), zD 131 42 [l0, l1, l2, l3, l4, l5] (.long p2 :: .ref p1 :: .ref p0 :: .ref a :: r) h = zD 131 45 [l0, l1, l2, l3, l4, l5] (zgv (zC 103 (.ref a :: [.ref p0, .ref p1, .long p2]) h) ++ r) (zgh h (zC 103 (.ref a :: [.ref p0, .ref p1, .long p2]) h))) ∧
  (∀ (l0 l1 l2 l3 l4 : Option Value) (x : Int32) (S : List Value) (h : zH), zD 131 45 [l0, l1, l2, l3, l4, some (.int x)] S h = zD 131 48 [l0, l1, l2, l3, zclr l4, some (.int (x + (1 : Int32)))] S h) ∧
  (∀ (l0 l1 l2 l3 l4 l5 : Option Value) (S : List Value) (h : zH), zD 131 48 [l0, l1, l2, l3, l4, l5] S h = zD 131 17 [l0, l1, l2, l3, l4, l5] S h) ∧
  (∀ (l0 l1 l2 l3 l4 l5 : Option Value) (h : zH), zD 131 51 [l0, l1, l2, l3, l4, l5] [] h = some (none, h)) :=
  ⟨fun l1 l2 l3 l4 l5 x S h => zD_op (ins := .aload_n 0) (len := 1) (c := (1, [some (.ref x), l1, l2, l3, l4, l5], (.ref x :: S), h)) (by decide +kernel) rfl rfl rfl rfl,
  fun l0 l2 l3 l4 l5 x S h => zD_op (ins := .iload_n 1) (len := 1) (c := (2, [l0, some (.int x), l2, l3, l4, l5], (.int x :: S), h)) (by decide +kernel) rfl rfl rfl rfl,
  fun l0 l1 l3 l4 l5 x S h => zD_op (ins := .iload_n 2) (len := 1) (c := (3, [l0, l1, some (.int x), l3, l4, l5], (.int x :: S), h)) (by decide +kernel) rfl rfl rfl rfl,
  fun l0 l1 l2 l3 l4 l5 p0 p1 a r h hcat hr hC => zD_callv (i := 40) (y := 100) (n := 2) (as := [.int p0, .int p1]) (ci := 5) (by decide +kernel) (by decide +kernel) rfl (by decide +kernel) (Nat.le_of_ble_eq_true rfl) (by decide +kernel) hcat hr hC,
  fun l0 l1 l2 l3 l4 l5 x r h => zD_st1 (k := 4) (ins := .astore 4) (len := 2) (by decide +kernel) rfl rfl rfl (by decide +kernel) rfl rfl,
  fun l0 l1 l2 l3 l4 l5 r h => zD_st1 (k := 4) (ins := .astore 4) (len := 2) (by decide +kernel) rfl rfl rfl (by decide +kernel) rfl rfl,
  fun l0 l1 l2 l3 l5 x S h => zD_op (ins := .aload 4) (len := 2) (c := (10, [l0, l1, l2, l3, some (.ref x), l5], (.ref x :: S), h)) (by decide +kernel) rfl rfl rfl rfl,
  fun l0 l1 l2 l3 l5 S h => zD_op (ins := .aload 4) (len := 2) (c := (10, [l0, l1, l2, l3, some .null, l5], (.null :: S), h)) (by decide +kernel) rfl rfl rfl rfl,
  fun l0 l1 l2 l4 l5 x S h => zD_op (ins := .iload_n 3) (len := 1) (c := (11, [l0, l1, l2, some (.int x), l4, l5], (.int x :: S), h)) (by decide +kernel) rfl rfl rfl rfl,
  fun l0 l1 l2 l3 l4 l5 p0 a r h hcat hr hC => zD_callv (i := 43) (y := 66) (n := 1) (as := [.int p0]) (ci := 7) (by decide +kernel) (by decide +kernel) rfl (by decide +kernel) (Nat.le_of_ble_eq_true rfl) (by decide +kernel) hcat hr hC,
  fun l0 l2 l3 l4 l5 x S h => zD_op (ins := .iload_n 1) (len := 1) (c := (15, [l0, some (.int x), l2, l3, l4, l5], (.int x :: S), h)) (by decide +kernel) rfl rfl rfl rfl,
  fun l0 l1 l2 l3 l4 l5 x r h => zD_st1 (k := 5) (ins := .istore 5) (len := 2) (by decide +kernel) rfl rfl rfl (by decide +kernel) rfl rfl,
  fun l0 l1 l3 l4 l5 x S h => zD_op (ins := .iload_n 2) (len := 1) (c := (20, [l0, l1, some (.int x), l3, l4, l5], (.int x :: S), h)) (by decide +kernel) rfl rfl rfl rfl,
  fun l0 l1 l2 l3 l4 l5 x y r h => zD_if (cnd := .ge) (off := 31) (by decide +kernel) (by decide) rfl,
  fun l0 l1 l2 l3 l5 x S h => zD_op (ins := .aload 4) (len := 2) (c := (25, [l0, l1, l2, l3, some (.ref x), l5], (.ref x :: S), h)) (by decide +kernel) rfl rfl rfl rfl,
  fun l0 l1 l2 l3 l5 S h => zD_op (ins := .aload 4) (len := 2) (c := (25, [l0, l1, l2, l3, some .null, l5], (.null :: S), h)) (by decide +kernel) rfl rfl rfl rfl,
  fun l1 l2 l3 l4 l5 x S h => zD_op (ins := .aload_n 0) (len := 1) (c := (26, [some (.ref x), l1, l2, l3, l4, l5], (.ref x :: S), h)) (by decide +kernel) rfl rfl rfl rfl,
  fun l0 l2 l3 l4 l5 x S h => zD_op (ins := .iload_n 1) (len := 1) (c := (27, [l0, some (.int x), l2, l3, l4, l5], (.int x :: S), h)) (by decide +kernel) rfl rfl rfl rfl,
  fun l0 l1 l2 l3 l4 x S h => zD_op (ins := .iload 5) (len := 2) (c := (29, [l0, l1, l2, l3, l4, some (.int x)], (.int x :: S), h)) (by decide +kernel) rfl rfl rfl rfl,
  fun l0 l1 l2 l3 l4 l5 p0 p1 a r h hcat hr hC => zD_callv (i := 22) (y := 61) (n := 2) (as := [.int p0, .int p1]) (ci := 5) (by decide +kernel) (by decide +kernel) rfl (by decide +kernel) (Nat.le_of_ble_eq_true rfl) (by decide +kernel) hcat hr hC,
  fun l1 l2 l3 l4 l5 x S h => zD_op (ins := .aload_n 0) (len := 1) (c := (33, [some (.ref x), l1, l2, l3, l4, l5], (.ref x :: S), h)) (by decide +kernel) rfl rfl rfl rfl,
  fun l0 l1 l3 l4 l5 x S h => zD_op (ins := .iload_n 2) (len := 1) (c := (34, [l0, l1, some (.int x), l3, l4, l5], (.int x :: S), h)) (by decide +kernel) rfl rfl rfl rfl,
  fun l0 l1 l2 l3 l4 x S h => zD_op (ins := .iload 5) (len := 2) (c := (36, [l0, l1, l2, l3, l4, some (.int x)], (.int x :: S), h)) (by decide +kernel) rfl rfl rfl rfl,
  fun l0 l1 l2 l3 l4 l5 S h => zD_icst (n := 1) (by decide +kernel) (by decide +kernel),
  fun l0 l1 l2 l3 l4 l5 x y r h => zD_op (ins := .iadd) (len := 1) (c := (38, [l0, l1, l2, l3, l4, l5], (.int (x + y) :: r), h)) (by decide +kernel) rfl rfl rfl rfl,
  fun l0 l1 l2 l3 l4 l5 p0 p1 a r h hcat hr hC => zD_callv (i := 22) (y := 61) (n := 2) (as := [.int p0, .int p1]) (ci := 5) (by decide +kernel) (by decide +kernel) rfl (by decide +kernel) (Nat.le_of_ble_eq_true rfl) (by decide +kernel) hcat hr hC,
  fun l0 l1 l2 l3 l4 l5 S h => zD_op (ins := .lconst 0) (len := 1) (c := (42, [l0, l1, l2, l3, l4, l5], (.long (0 : Int64) :: S), h)) (by decide +kernel) rfl rfl rfl rfl,
  fun l0 l1 l2 l3 l4 l5 p0 p1 p2 a r h hcat hr hC => zD_callv (i := 46) (y := 103) (n := 3) (as := [.ref p0, .ref p1, .long p2]) (ci := 7) (by decide +kernel) (by decide +kernel) rfl (by decide +kernel) (Nat.le_of_ble_eq_true rfl) (by decide +kernel) hcat hr hC,
  fun l0 l1 l2 l3 l4 x S h => zD_iinc (k := 5) (x := x) (c := (1 : Int32)) (n := 1) (by decide +kernel) (by decide +kernel) rfl (by decide +kernel) rfl,
  fun l0 l1 l2 l3 l4 l5 S h => zD_goto (off := (-31)) (by decide +kernel) (by decide),
  fun l0 l1 l2 l3 l4 l5 h => zD_vret (by decide +kernel) rfl⟩
set_option maxRecDepth 100000 in
theorem E_X6_meet_h17 : (∀ (l0 l1 l2 l3 l4 : Option Value) (x : Int32) (S : List Value) (h : zH), zD 131 17 [l0, l1, l2, l3, l4, some (.int x)] S h = zD 131 19 [l0, l1, l2, l3, l4, some (.int x)] (.int x :: S) h) :=
  fun l0 l1 l2 l3 l4 x S h => zD_op (ins := .iload 5) (len := 2) (c := (19, [l0, l1, l2, l3, l4, some (.int x)], (.int x :: S), h)) (by decide +kernel) rfl rfl rfl rfl
set_option maxRecDepth 100000 in
theorem I_X6_meet : (∀ (a : Nat) (p0 : Int32) (p1 : Int32) (p2 : Int32) (h : zH), zC 131 [.ref a, .int p0, .int p1, .int p2] h = zD 131 0 [some (.ref a), some (.int p0), some (.int p1), some (.int p2), none, none] [] h) :=
  fun a p0 p1 p2 h => zC_def rfl
set_option maxRecDepth 100000 in
theorem E_X6_spread : (∀ (l1 l2 l3 l4 l5 l6 l7 : Option Value) (x : Nat) (S : List Value) (h : zH), zD 132 0 [some (.ref x), l1, l2, l3, l4, l5, l6, l7] S h = zD 132 1 [some (.ref x), l1, l2, l3, l4, l5, l6, l7] (.ref x :: S) h) ∧
  (∀ (l0 l1 l3 l4 l5 l6 l7 : Option Value) (x : Int32) (S : List Value) (h : zH), zD 132 1 [l0, l1, some (.int x), l3, l4, l5, l6, l7] S h = zD 132 2 [l0, l1, some (.int x), l3, l4, l5, l6, l7] (.int x :: S) h) ∧
  (∀ (l0 l1 l2 l4 l5 l6 l7 : Option Value) (x : Int32) (S : List Value) (h : zH), zD 132 2 [l0, l1, l2, some (.int x), l4, l5, l6, l7] S h = zD 132 3 [l0, l1, l2, some (.int x), l4, l5, l6, l7] (.int x :: S) h) ∧
  (∀ (l0 l1 l2 l3 l4 l5 l6 l7 : Option Value) (p0 : Int32) (p1 : Int32) (a : Nat) (r : List Value) (h : zH) (hcat : zcat r ≤ 8) (hr : zis (h.2.2 a) 5 = true) (hC : (zC 61 (.ref a :: [.int p0, .int p1]) h).isSome = true), zD 132 3 [l0, l1, l2, l3, l4, l5, l6, l7] (.int p1 :: .int p0 :: .ref a :: r) h = zD 132 6 [l0, l1, l2, l3, l4, l5, l6, l7] (zgv (zC 61 (.ref a :: [.int p0, .int p1]) h) ++ r) (zgh h (zC 61 (.ref a :: [.int p0, .int p1]) h))) ∧
  (∀ (l0 l1 l2 l3 l4 l5 l6 l7 : Option Value) (x : Nat) (r : List Value) (h : zH), zD 132 6 [l0, l1, l2, l3, l4, l5, l6, l7] (.ref x :: r) h = zD 132 8 [l0, l1, l2, l3, zclr l4, some (.ref x), l6, l7] r h) ∧
  (∀ (l0 l1 l2 l3 l4 l5 l6 l7 : Option Value) (r : List Value) (h : zH), zD 132 6 [l0, l1, l2, l3, l4, l5, l6, l7] (.null :: r) h = zD 132 8 [l0, l1, l2, l3, zclr l4, some .null, l6, l7] r h) ∧
  (∀ (l0 l1 l2 l3 l4 l6 l7 : Option Value) (x : Nat) (S : List Value) (h : zH), zD 132 8 [l0, l1, l2, l3, l4, some (.ref x), l6, l7] S h = zD 132 10 [l0, l1, l2, l3, l4, some (.ref x), l6, l7] (.ref x :: S) h) ∧
  (∀ (l0 l1 l2 l3 l4 l6 l7 : Option Value) (S : List Value) (h : zH), zD 132 8 [l0, l1, l2, l3, l4, some .null, l6, l7] S h = zD 132 10 [l0, l1, l2, l3, l4, some .null, l6, l7] (.null :: S) h) ∧
  (∀ (l0 l1 l2 l3 l5 l6 l7 : Option Value) (x : Int32) (S : List Value) (h : zH), zD 132 10 [l0, l1, l2, l3, some (.int x), l5, l6, l7] S h = zD 132 12 [l0, l1, l2, l3, some (.int x), l5, l6, l7] (.int x :: S) h) ∧
  (∀ (l0 l1 l2 l3 l4 l5 l6 l7 : Option Value) (p0 : Int32) (a : Nat) (r : List Value) (h : zH) (hcat : zcat r ≤ 8) (hr : zis (h.2.2 a) 7 = true) (hC : (zC 66 (.ref a :: [.int p0]) h).isSome = true), zD 132 12 [l0, l1, l2, l3, l4, l5, l6, l7] (.int p0 :: .ref a :: r) h = zD 132 15 [l0, l1, l2, l3, l4, l5, l6, l7] (zgv (zC 66 (.ref a :: [.int p0]) h) ++ r) (zgh h (zC 66 (.ref a :: [.int p0]) h))) ∧
  (∀ (l0 l1 l2 l3 l4 l5 l6 l7 : Option Value) (S : List Value) (h : zH), zD 132 15 [l0, l1, l2, l3, l4, l5, l6, l7] S h = zD 132 16 [l0, l1, l2, l3, l4, l5, l6, l7] (.int (1 : Int32) :: S) h) ∧
  (∀ (l0 l1 l2 l3 l4 l5 l6 l7 : Option Value) (x : Int32) (r : List Value) (h : zH), zD 132 16 [l0, l1, l2, l3, l4, l5, l6, l7] (.int x :: r) h = zD 132 18 [l0, l1, l2, l3, l4, zclr l5, some (.int x), l7] r h) ∧
  (∀ (l0 l1 l2 l4 l5 l6 l7 : Option Value) (x : Int32) (S : List Value) (h : zH), zD 132 20 [l0, l1, l2, some (.int x), l4, l5, l6, l7] S h = zD 132 21 [l0, l1, l2, some (.int x), l4, l5, l6, l7] (.int x :: S) h) ∧
  (∀ (l0 l1 l3 l4 l5 l6 l7 : Option Value) (x : Int32) (S : List Value) (h : zH), zD 132 21 [l0, l1, some (.int x), l3, l4, l5, l6, l7] S h = zD 132 22 [l0, l1, some (.int x), l3, l4, l5, l6, l7] (.int x :: S) h) ∧
  (∀ (l0 l1 l2 l3 l4 l5 l6 l7 : Option Value) (x y : Int32) (r : List Value) (h : zH), zD 132 22 [l0, l1, l2, l3, l4, l5, l6, l7] (.int y :: .int x :: r) h = zD 132 23 [l0, l1, l2, l3, l4, l5, l6, l7] (.int (x - y) :: r) h) ∧
  (∀ (l0 l1 l2 l3 l4 l5 l6 l7 : Option Value) (x : Int32) (r : List Value) (h : zH) (hcat : zcat r ≤ 8), zD 132 23 [l0, l1, l2, l3, l4, l5, l6, l7] (.int x :: r) h = zD 132 26 [l0, l1, l2, l3, l4, l5, l6, l7] (.int (if 0 ≤ x then x else 0 - x) :: r) h) ∧
  (∀ (l0 l1 l2 l3 l4 l5 l6 l7 : Option Value) (x y : Int32) (r : List Value) (h : zH), zD 132 26 [l0, l1, l2, l3, l4, l5, l6, l7] (.int y :: .int x :: r) h = if y < x then zD 132 80 [l0, l1, l2, l3, l4, l5, l6, l7] r h else zD 132 29 [l0, l1, l2, l3, l4, l5, l6, l7] r h) ∧
  (∀ (l0 l1 l3 l4 l5 l6 l7 : Option Value) (x : Int32) (S : List Value) (h : zH), zD 132 29 [l0, l1, some (.int x), l3, l4, l5, l6, l7] S h = zD 132 30 [l0, l1, some (.int x), l3, l4, l5, l6, l7] (.int x :: S) h) ∧
  (∀ (l0 l1 l2 l4 l5 l6 l7 : Option Value) (x : Int32) (S : List Value) (h : zH), zD 132 30 [l0, l1, l2, some (.int x), l4, l5, l6, l7] S h = zD 132 31 [l0, l1, l2, some (.int x), l4, l5, l6, l7] (.int x :: S) h) ∧
  (∀ (l0 l1 l2 l3 l4 l5 l7 : Option Value) (x : Int32) (S : List Value) (h : zH), zD 132 31 [l0, l1, l2, l3, l4, l5, some (.int x), l7] S h = zD 132 33 [l0, l1, l2, l3, l4, l5, some (.int x), l7] (.int x :: S) h) ∧
  (∀ (l0 l1 l2 l3 l4 l5 l6 l7 : Option Value) (p0 : Int32) (p1 : Int32) (p2 : Int32) (r : List Value) (h : zH) (hcat : zcat r ≤ 8) (hC : (zC 16 [.int p0, .int p1, .int p2] h).isSome = true), zD 132 33 [l0, l1, l2, l3, l4, l5, l6, l7] (.int p2 :: .int p1 :: .int p0 :: r) h = zD 132 36 [l0, l1, l2, l3, l4, l5, l6, l7] (zgv (zC 16 [.int p0, .int p1, .int p2] h) ++ r) (zgh h (zC 16 [.int p0, .int p1, .int p2] h))) ∧
  (∀ (l0 l1 l2 l3 l4 l5 l6 l7 : Option Value) (x : Int32) (r : List Value) (h : zH), zD 132 36 [l0, l1, l2, l3, l4, l5, l6, l7] (.int x :: r) h = zD 132 38 [l0, l1, l2, l3, l4, l5, zclr l6, some (.int x)] r h) ∧
  (∀ (l0 l2 l3 l4 l5 l6 l7 : Option Value) (x : Nat) (S : List Value) (h : zH), zD 132 38 [l0, some (.ref x), l2, l3, l4, l5, l6, l7] S h = zD 132 39 [l0, some (.ref x), l2, l3, l4, l5, l6, l7] (.ref x :: S) h) ∧
  (∀ (l0 l2 l3 l4 l5 l6 l7 : Option Value) (S : List Value) (h : zH), zD 132 38 [l0, some .null, l2, l3, l4, l5, l6, l7] S h = zD 132 39 [l0, some .null, l2, l3, l4, l5, l6, l7] (.null :: S) h) ∧
  (∀ (l0 l1 l3 l4 l5 l6 l7 : Option Value) (x : Int32) (S : List Value) (h : zH), zD 132 39 [l0, l1, some (.int x), l3, l4, l5, l6, l7] S h = zD 132 40 [l0, l1, some (.int x), l3, l4, l5, l6, l7] (.int x :: S) h) ∧
  (∀ (l0 l1 l2 l3 l4 l5 l6 : Option Value) (x : Int32) (S : List Value) (h : zH), zD 132 40 [l0, l1, l2, l3, l4, l5, l6, some (.int x)] S h = zD 132 42 [l0, l1, l2, l3, l4, l5, l6, some (.int x)] (.int x :: S) h) ∧
  (∀ (l0 l1 l2 l3 l4 l5 l6 l7 : Option Value) (p0 : Int32) (p1 : Int32) (a : Nat) (r : List Value) (h : zH) (hcat : zcat r ≤ 8) (hr : zis (h.2.2 a) 2 = true) (hC : (zC 48 (.ref a :: [.int p0, .int p1]) h).isSome = true), zD 132 42 [l0, l1, l2, l3, l4, l5, l6, l7] (.int p1 :: .int p0 :: .ref a :: r) h = zD 132 45 [l0, l1, l2, l3, l4, l5, l6, l7] (zgv (zC 48 (.ref a :: [.int p0, .int p1]) h) ++ r) (zgh h (zC 48 (.ref a :: [.int p0, .int p1]) h))) ∧
  (∀ (l0 l1 l2 l3 l4 l5 l6 l7 : Option Value) (x : Int32) (r : List Value) (h : zH), zD 132 45 [l0, l1, l2, l3, l4, l5, l6, l7] (.int x :: r) h = if x = 0 then zD 132 74 [l0, l1, l2, l3, l4, l5, l6, l7] r h else zD 132 48 [l0, l1, l2, l3, l4, l5, l6, l7] r h) ∧
  (∀ (l0 l1 l2 l3 l4 l6 l7 : Option Value) (x : Nat) (S : List Value) (h : zH), zD 132 48 [l0, l1, l2, l3, l4, some (.ref x), l6, l7] S h = zD 132 50 [l0, l1, l2, l3, l4, some (.ref x), l6, l7] (.ref x :: S) h) ∧
  (∀ (l0 l1 l2 l3 l4 l6 l7 : Option Value) (S : List Value) (h : zH), zD 132 48 [l0, l1, l2, l3, l4, some .null, l6, l7] S h = zD 132 50 [l0, l1, l2, l3, l4, some .null, l6, l7] (.null :: S) h) ∧
  (∀ (l1 l2 l3 l4 l5 l6 l7 : Option Value) (x : Nat) (S : List Value) (h : zH), zD 132 50 [some (.ref x), l1, l2, l3, l4, l5, l6, l7] S h = zD 132 51 [some (.ref x), l1, l2, l3, l4, l5, l6, l7] (.ref x :: S) h) ∧
  (∀ (l0 l1 l3 l4 l5 l6 l7 : Option Value) (x : Int32) (S : List Value) (h : zH), zD 132 51 [l0, l1, some (.int x), l3, l4, l5, l6, l7] S h = zD 132 52 [l0, l1, some (.int x), l3, l4, l5, l6, l7] (.int x :: S) h) ∧
  (∀ (l0 l1 l2 l3 l4 l5 l6 : Option Value) (x : Int32) (S : List Value) (h : zH), zD 132 52 [l0, l1, l2, l3, l4, l5, l6, some (.int x)] S h = zD 132 54 [l0, l1, l2, l3, l4, l5, l6, some (.int x)] (.int x :: S) h) ∧
  (∀ (l0 l1 l2 l3 l4 l5 l6 l7 : Option Value) (p0 : Int32) (p1 : Int32) (a : Nat) (r : List Value) (h : zH) (hcat : zcat r ≤ 8) (hr : zis (h.2.2 a) 5 = true) (hC : (zC 100 (.ref a :: [.int p0, .int p1]) h).isSome = true), zD 132 54 [l0, l1, l2, l3, l4, l5, l6, l7] (.int p1 :: .int p0 :: .ref a :: r) h = zD 132 57 [l0, l1, l2, l3, l4, l5, l6, l7] (zgv (zC 100 (.ref a :: [.int p0, .int p1]) h) ++ r) (zgh h (zC 100 (.ref a :: [.int p0, .int p1]) h))) ∧
  (∀ (l1 l2 l3 l4 l5 l6 l7 : Option Value) (x : Nat) (S : List Value) (h : zH), zD 132 57 [some (.ref x), l1, l2, l3, l4, l5, l6, l7] S h = zD 132 58 [some (.ref x), l1, l2, l3, l4, l5, l6, l7] (.ref x :: S) h) ∧
  (∀ (l0 l1 l2 l3 l4 l5 l6 : Option Value) (x : Int32) (S : List Value) (h : zH), zD 132 58 [l0, l1, l2, l3, l4, l5, l6, some (.int x)] S h = zD 132 60 [l0, l1, l2, l3, l4, l5, l6, some (.int x)] (.int x :: S) h) ∧
  (∀ (l0 l1 l2 l4 l5 l6 l7 : Option Value) (x : Int32) (S : List Value) (h : zH), zD 132 60 [l0, l1, l2, some (.int x), l4, l5, l6, l7] S h = zD 132 61 [l0, l1, l2, some (.int x), l4, l5, l6, l7] (.int x :: S) h) ∧
  (∀ (l0 l1 l2 l3 l4 l5 l6 l7 : Option Value) (p0 : Int32) (p1 : Int32) (a : Nat) (r : List Value) (h : zH) (hcat : zcat r ≤ 8) (hr : zis (h.2.2 a) 5 = true) (hC : (zC 61 (.ref a :: [.int p0, .int p1]) h).isSome = true), zD 132 61 [l0, l1, l2, l3, l4, l5, l6, l7] (.int p1 :: .int p0 :: .ref a :: r) h = zD 132 64 [l0, l1, l2, l3, l4, l5, l6, l7] (zgv (zC 61 (.ref a :: [.int p0, .int p1]) h) ++ r) (zgh h (zC 61 (.ref a :: [.int p0, .int p1]) h))) ∧
  (∀ (l0 l2 l3 l4 l5 l6 l7 : Option Value) (x : Nat) (S : List Value) (h : zH), zD 132 64 [l0, some (.ref x), l2, l3, l4, l5, l6, l7] S h = zD 132 65 [l0, some (.ref x), l2, l3, l4, l5, l6, l7] (.ref x :: S) h) ∧
  (∀ (l0 l2 l3 l4 l5 l6 l7 : Option Value) (S : List Value) (h : zH), zD 132 64 [l0, some .null, l2, l3, l4, l5, l6, l7] S h = zD 132 65 [l0, some .null, l2, l3, l4, l5, l6, l7] (.null :: S) h) ∧
  (∀ (l0 l1 l3 l4 l5 l6 l7 : Option Value) (x : Int32) (S : List Value) (h : zH), zD 132 65 [l0, l1, some (.int x), l3, l4, l5, l6, l7] S h = zD 132 66 [l0, l1, some (.int x), l3, l4, l5, l6, l7] (.int x :: S) h) ∧
  (∀ (l0 l1 l2 l3 l4 l5 l6 : Option Value) (x : Int32) (S : List Value) (h : zH), zD 132 66 [l0, l1, l2, l3, l4, l5, l6, some (.int x)] S h = zD 132 68 [l0, l1, l2, l3, l4, l5, l6, some (.int x)] (.int x :: S) h) ∧
  (∀ (l0 l1 l2 l3 l4 l5 l6 l7 : Option Value) (p0 : Int32) (p1 : Int32) (a : Nat) (r : List Value) (h : zH) (hcat : zcat r ≤ 8) (hr : zis (h.2.2 a) 2 = true) (hC : (zC 89 (.ref a :: [.int p0, .int p1]) h).isSome = true), zD 132 68 [l0, l1, l2, l3, l4, l5, l6, l7] (.int p1 :: .int p0 :: .ref a :: r) h = zD 132 71 [l0, l1, l2, l3, l4, l5, l6, l7] (zgv (zC 89 (.ref a :: [.int p0, .int p1]) h) ++ r) (zgh h (zC 89 (.ref a :: [.int p0, .int p1]) h))) ∧
  (∀ (l0 l1 l2 l3 l4 l5 l6 l7 : Option Value) (p0 : Nat) (p1 : Nat) (p2 : Int64) (a : Nat) (r : List Value) (h : zH) (hcat : zcat r ≤ 8) (hr : zis (h.2.2 a) 7 = true) (hC : (zC 103 (.ref a :: [.ref p0, .ref p1, .long p2]) h).isSome = true), zD 132 71 [l0, l1, l2, l3, l4, l5, l6, l7] (.long p2 :: .ref p1 :: .ref p0 :: .ref a :: r) h = zD 132 74 [l0, l1, l2, l3, l4, l5, l6, l7] (zgv (zC 103 (.ref a :: [.ref p0, .ref p1, .long p2]) h) ++ r) (zgh h (zC 103 (.ref a :: [.ref p0, .ref p1, .long p2]) h))) ∧
  (∀ (l0 l1 l2 l3 l4 l5 l7 : Option Value) (x : Int32) (S : List Value) (h : zH), zD 132 74 [l0, l1, l2, l3, l4, l5, some (.int x), l7] S h = zD 132 77 [l0, l1, l2, l3, l4, zclr l5, some (.int (x + (1 : Int32))), l7] S h) ∧
  (∀ (l0 l1 l2 l3 l4 l5 l6 l7 : Option Value) (S : List Value) (h : zH), zD 132 77 [l0, l1, l2, l3, l4, l5, l6, l7] S h = zD 132 18 [l0, l1, l2, l3, l4, l5, l6, l7] S h) ∧
  (∀ (l0 l1 l2 l3 l4 l5 l6 l7 : Option Value) (h : zH), zD 132 80 [l0, l1, l2, l3, l4, l5, l6, l7] [] h = some (none, h)) :=
  ⟨fun l1 l2 l3 l4 l5 l6 l7 x S h => zD_op (ins := .aload_n 0) (len := 1) (c := (1, [some (.ref x), l1, l2, l3, l4, l5, l6, l7], (.ref x :: S), h)) (by decide +kernel) rfl rfl rfl rfl,
  fun l0 l1 l3 l4 l5 l6 l7 x S h => zD_op (ins := .iload_n 2) (len := 1) (c := (2, [l0, l1, some (.int x), l3, l4, l5, l6, l7], (.int x :: S), h)) (by decide +kernel) rfl rfl rfl rfl,
  fun l0 l1 l2 l4 l5 l6 l7 x S h => zD_op (ins := .iload_n 3) (len := 1) (c := (3, [l0, l1, l2, some (.int x), l4, l5, l6, l7], (.int x :: S), h)) (by decide +kernel) rfl rfl rfl rfl,
  fun l0 l1 l2 l3 l4 l5 l6 l7 p0 p1 a r h hcat hr hC => zD_callv (i := 22) (y := 61) (n := 2) (as := [.int p0, .int p1]) (ci := 5) (by decide +kernel) (by decide +kernel) rfl (by decide +kernel) (Nat.le_of_ble_eq_true rfl) (by decide +kernel) hcat hr hC,
  fun l0 l1 l2 l3 l4 l5 l6 l7 x r h => zD_st1 (k := 5) (ins := .astore 5) (len := 2) (by decide +kernel) rfl rfl rfl (by decide +kernel) rfl rfl,
  fun l0 l1 l2 l3 l4 l5 l6 l7 r h => zD_st1 (k := 5) (ins := .astore 5) (len := 2) (by decide +kernel) rfl rfl rfl (by decide +kernel) rfl rfl,
  fun l0 l1 l2 l3 l4 l6 l7 x S h => zD_op (ins := .aload 5) (len := 2) (c := (10, [l0, l1, l2, l3, l4, some (.ref x), l6, l7], (.ref x :: S), h)) (by decide +kernel) rfl rfl rfl rfl,
  fun l0 l1 l2 l3 l4 l6 l7 S h => zD_op (ins := .aload 5) (len := 2) (c := (10, [l0, l1, l2, l3, l4, some .null, l6, l7], (.null :: S), h)) (by decide +kernel) rfl rfl rfl rfl,
  fun l0 l1 l2 l3 l5 l6 l7 x S h => zD_op (ins := .iload 4) (len := 2) (c := (12, [l0, l1, l2, l3, some (.int x), l5, l6, l7], (.int x :: S), h)) (by decide +kernel) rfl rfl rfl rfl,
  fun l0 l1 l2 l3 l4 l5 l6 l7 p0 a r h hcat hr hC => zD_callv (i := 43) (y := 66) (n := 1) (as := [.int p0]) (ci := 7) (by decide +kernel) (by decide +kernel) rfl (by decide +kernel) (Nat.le_of_ble_eq_true rfl) (by decide +kernel) hcat hr hC,
  fun l0 l1 l2 l3 l4 l5 l6 l7 S h => zD_icst (n := 1) (by decide +kernel) (by decide +kernel),
  fun l0 l1 l2 l3 l4 l5 l6 l7 x r h => zD_st1 (k := 6) (ins := .istore 6) (len := 2) (by decide +kernel) rfl rfl rfl (by decide +kernel) rfl rfl,
  fun l0 l1 l2 l4 l5 l6 l7 x S h => zD_op (ins := .iload_n 3) (len := 1) (c := (21, [l0, l1, l2, some (.int x), l4, l5, l6, l7], (.int x :: S), h)) (by decide +kernel) rfl rfl rfl rfl,
  fun l0 l1 l3 l4 l5 l6 l7 x S h => zD_op (ins := .iload_n 2) (len := 1) (c := (22, [l0, l1, some (.int x), l3, l4, l5, l6, l7], (.int x :: S), h)) (by decide +kernel) rfl rfl rfl rfl,
  fun l0 l1 l2 l3 l4 l5 l6 l7 x y r h => zD_op (ins := .isub) (len := 1) (c := (23, [l0, l1, l2, l3, l4, l5, l6, l7], (.int (x - y) :: r), h)) (by decide +kernel) rfl rfl rfl rfl,
  fun l0 l1 l2 l3 l4 l5 l6 l7 x r h hcat => zD_abs (i := 50) (q := 467) (by decide +kernel) (by decide +kernel) (by decide +kernel) (by decide +kernel) hcat,
  fun l0 l1 l2 l3 l4 l5 l6 l7 x y r h => zD_if (cnd := .gt) (off := 54) (by decide +kernel) (by decide) rfl,
  fun l0 l1 l3 l4 l5 l6 l7 x S h => zD_op (ins := .iload_n 2) (len := 1) (c := (30, [l0, l1, some (.int x), l3, l4, l5, l6, l7], (.int x :: S), h)) (by decide +kernel) rfl rfl rfl rfl,
  fun l0 l1 l2 l4 l5 l6 l7 x S h => zD_op (ins := .iload_n 3) (len := 1) (c := (31, [l0, l1, l2, some (.int x), l4, l5, l6, l7], (.int x :: S), h)) (by decide +kernel) rfl rfl rfl rfl,
  fun l0 l1 l2 l3 l4 l5 l7 x S h => zD_op (ins := .iload 6) (len := 2) (c := (33, [l0, l1, l2, l3, l4, l5, some (.int x), l7], (.int x :: S), h)) (by decide +kernel) rfl rfl rfl rfl,
  fun l0 l1 l2 l3 l4 l5 l6 l7 p0 p1 p2 r h hcat hC => zD_calls (i := 56) (y := 16) (n := 3) (as := [.int p0, .int p1, .int p2]) (by decide +kernel) (by decide +kernel) rfl (by decide +kernel) (Nat.le_of_ble_eq_true rfl) hcat hC,
  fun l0 l1 l2 l3 l4 l5 l6 l7 x r h => zD_st1 (k := 7) (ins := .istore 7) (len := 2) (by decide +kernel) rfl rfl rfl (by decide +kernel) rfl rfl,
  fun l0 l2 l3 l4 l5 l6 l7 x S h => zD_op (ins := .aload_n 1) (len := 1) (c := (39, [l0, some (.ref x), l2, l3, l4, l5, l6, l7], (.ref x :: S), h)) (by decide +kernel) rfl rfl rfl rfl,
  fun l0 l2 l3 l4 l5 l6 l7 S h => zD_op (ins := .aload_n 1) (len := 1) (c := (39, [l0, some .null, l2, l3, l4, l5, l6, l7], (.null :: S), h)) (by decide +kernel) rfl rfl rfl rfl,
  fun l0 l1 l3 l4 l5 l6 l7 x S h => zD_op (ins := .iload_n 2) (len := 1) (c := (40, [l0, l1, some (.int x), l3, l4, l5, l6, l7], (.int x :: S), h)) (by decide +kernel) rfl rfl rfl rfl,
  fun l0 l1 l2 l3 l4 l5 l6 x S h => zD_op (ins := .iload 7) (len := 2) (c := (42, [l0, l1, l2, l3, l4, l5, l6, some (.int x)], (.int x :: S), h)) (by decide +kernel) rfl rfl rfl rfl,
  fun l0 l1 l2 l3 l4 l5 l6 l7 p0 p1 a r h hcat hr hC => zD_callv (i := 60) (y := 48) (n := 2) (as := [.int p0, .int p1]) (ci := 2) (by decide +kernel) (by decide +kernel) rfl (by decide +kernel) (Nat.le_of_ble_eq_true rfl) (by decide +kernel) hcat hr hC,
  fun l0 l1 l2 l3 l4 l5 l6 l7 x r h => zD_if0 (cnd := .eq) (off := 29) (by decide +kernel) (by decide) rfl,
  fun l0 l1 l2 l3 l4 l6 l7 x S h => zD_op (ins := .aload 5) (len := 2) (c := (50, [l0, l1, l2, l3, l4, some (.ref x), l6, l7], (.ref x :: S), h)) (by decide +kernel) rfl rfl rfl rfl,
  fun l0 l1 l2 l3 l4 l6 l7 S h => zD_op (ins := .aload 5) (len := 2) (c := (50, [l0, l1, l2, l3, l4, some .null, l6, l7], (.null :: S), h)) (by decide +kernel) rfl rfl rfl rfl,
  fun l1 l2 l3 l4 l5 l6 l7 x S h => zD_op (ins := .aload_n 0) (len := 1) (c := (51, [some (.ref x), l1, l2, l3, l4, l5, l6, l7], (.ref x :: S), h)) (by decide +kernel) rfl rfl rfl rfl,
  fun l0 l1 l3 l4 l5 l6 l7 x S h => zD_op (ins := .iload_n 2) (len := 1) (c := (52, [l0, l1, some (.int x), l3, l4, l5, l6, l7], (.int x :: S), h)) (by decide +kernel) rfl rfl rfl rfl,
  fun l0 l1 l2 l3 l4 l5 l6 x S h => zD_op (ins := .iload 7) (len := 2) (c := (54, [l0, l1, l2, l3, l4, l5, l6, some (.int x)], (.int x :: S), h)) (by decide +kernel) rfl rfl rfl rfl,
  fun l0 l1 l2 l3 l4 l5 l6 l7 p0 p1 a r h hcat hr hC => zD_callv (i := 40) (y := 100) (n := 2) (as := [.int p0, .int p1]) (ci := 5) (by decide +kernel) (by decide +kernel) rfl (by decide +kernel) (Nat.le_of_ble_eq_true rfl) (by decide +kernel) hcat hr hC,
  fun l1 l2 l3 l4 l5 l6 l7 x S h => zD_op (ins := .aload_n 0) (len := 1) (c := (58, [some (.ref x), l1, l2, l3, l4, l5, l6, l7], (.ref x :: S), h)) (by decide +kernel) rfl rfl rfl rfl,
  fun l0 l1 l2 l3 l4 l5 l6 x S h => zD_op (ins := .iload 7) (len := 2) (c := (60, [l0, l1, l2, l3, l4, l5, l6, some (.int x)], (.int x :: S), h)) (by decide +kernel) rfl rfl rfl rfl,
  fun l0 l1 l2 l4 l5 l6 l7 x S h => zD_op (ins := .iload_n 3) (len := 1) (c := (61, [l0, l1, l2, some (.int x), l4, l5, l6, l7], (.int x :: S), h)) (by decide +kernel) rfl rfl rfl rfl,
  fun l0 l1 l2 l3 l4 l5 l6 l7 p0 p1 a r h hcat hr hC => zD_callv (i := 22) (y := 61) (n := 2) (as := [.int p0, .int p1]) (ci := 5) (by decide +kernel) (by decide +kernel) rfl (by decide +kernel) (Nat.le_of_ble_eq_true rfl) (by decide +kernel) hcat hr hC,
  fun l0 l2 l3 l4 l5 l6 l7 x S h => zD_op (ins := .aload_n 1) (len := 1) (c := (65, [l0, some (.ref x), l2, l3, l4, l5, l6, l7], (.ref x :: S), h)) (by decide +kernel) rfl rfl rfl rfl,
  fun l0 l2 l3 l4 l5 l6 l7 S h => zD_op (ins := .aload_n 1) (len := 1) (c := (65, [l0, some .null, l2, l3, l4, l5, l6, l7], (.null :: S), h)) (by decide +kernel) rfl rfl rfl rfl,
  fun l0 l1 l3 l4 l5 l6 l7 x S h => zD_op (ins := .iload_n 2) (len := 1) (c := (66, [l0, l1, some (.int x), l3, l4, l5, l6, l7], (.int x :: S), h)) (by decide +kernel) rfl rfl rfl rfl,
  fun l0 l1 l2 l3 l4 l5 l6 x S h => zD_op (ins := .iload 7) (len := 2) (c := (68, [l0, l1, l2, l3, l4, l5, l6, some (.int x)], (.int x :: S), h)) (by decide +kernel) rfl rfl rfl rfl,
  fun l0 l1 l2 l3 l4 l5 l6 l7 p0 p1 a r h hcat hr hC => zD_callv (i := 66) (y := 89) (n := 2) (as := [.int p0, .int p1]) (ci := 2) (by decide +kernel) (by decide +kernel) rfl (by decide +kernel) (Nat.le_of_ble_eq_true rfl) (by decide +kernel) hcat hr hC,
  fun l0 l1 l2 l3 l4 l5 l6 l7 p0 p1 p2 a r h hcat hr hC => zD_callv (i := 46) (y := 103) (n := 3) (as := [.ref p0, .ref p1, .long p2]) (ci := 7) (by decide +kernel) (by decide +kernel) rfl (by decide +kernel) (Nat.le_of_ble_eq_true rfl) (by decide +kernel) hcat hr hC,
  fun l0 l1 l2 l3 l4 l5 l7 x S h => zD_iinc (k := 6) (x := x) (c := (1 : Int32)) (n := 1) (by decide +kernel) (by decide +kernel) rfl (by decide +kernel) rfl,
  fun l0 l1 l2 l3 l4 l5 l6 l7 S h => zD_goto (off := (-59)) (by decide +kernel) (by decide),
  fun l0 l1 l2 l3 l4 l5 l6 l7 h => zD_vret (by decide +kernel) rfl⟩
set_option maxRecDepth 100000 in
theorem E_X6_spread_h18 : (∀ (l0 l1 l2 l3 l4 l5 l7 : Option Value) (x : Int32) (S : List Value) (h : zH), zD 132 18 [l0, l1, l2, l3, l4, l5, some (.int x), l7] S h = zD 132 20 [l0, l1, l2, l3, l4, l5, some (.int x), l7] (.int x :: S) h) :=
  fun l0 l1 l2 l3 l4 l5 l7 x S h => zD_op (ins := .iload 6) (len := 2) (c := (20, [l0, l1, l2, l3, l4, l5, some (.int x), l7], (.int x :: S), h)) (by decide +kernel) rfl rfl rfl rfl
set_option maxRecDepth 100000 in
theorem I_X6_spread : (∀ (a : Nat) (p0 : Nat) (p1 : Int32) (p2 : Int32) (p3 : Int32) (h : zH), zC 132 [.ref a, .ref p0, .int p1, .int p2, .int p3] h = zD 132 0 [some (.ref a), some (.ref p0), some (.int p1), some (.int p2), some (.int p3), none, none, none] [] h) :=
  fun a p0 p1 p2 p3 h => zC_def rfl
set_option maxRecDepth 100000 in
theorem E_X6_howMany : (∀ (l0 l1 l2 l3 l4 l5 : Option Value) (S : List Value) (h : zH), zD 133 0 [l0, l1, l2, l3, l4, l5] S h = zD 133 1 [l0, l1, l2, l3, l4, l5] (.int (0 : Int32) :: S) h) ∧
  (∀ (l0 l1 l2 l3 l4 l5 : Option Value) (x : Int32) (r : List Value) (h : zH), zD 133 1 [l0, l1, l2, l3, l4, l5] (.int x :: r) h = zD 133 2 [l0, l1, zclr l2, some (.int x), l4, l5] r h) ∧
  (∀ (l0 l1 l3 l4 l5 : Option Value) (x : Int32) (S : List Value) (h : zH), zD 133 3 [l0, l1, some (.int x), l3, l4, l5] S h = zD 133 4 [l0, l1, some (.int x), l3, l4, l5] (.int x :: S) h) ∧
  (∀ (l0 l1 l2 l3 l4 l5 : Option Value) (x y : Int32) (r : List Value) (h : zH), zD 133 4 [l0, l1, l2, l3, l4, l5] (.int y :: .int x :: r) h = if y < x then zD 133 24 [l0, l1, l2, l3, l4, l5] r h else zD 133 7 [l0, l1, l2, l3, l4, l5] r h) ∧
  (∀ (l1 l2 l3 l4 l5 : Option Value) (x : Nat) (S : List Value) (h : zH), zD 133 7 [some (.ref x), l1, l2, l3, l4, l5] S h = zD 133 8 [some (.ref x), l1, l2, l3, l4, l5] (.ref x :: S) h) ∧
  (∀ (l0 l1 l2 l3 l4 l5 : Option Value) (a : Nat) (r : List Value) (h : zH) (hx : zfok (h.2.2 a) 5 1 = true), zD 133 8 [l0, l1, l2, l3, l4, l5] (.ref a :: r) h = zD 133 11 [l0, l1, l2, l3, l4, l5] (zfv (h.2.2 a) 1 :: r) h) ∧
  (∀ (l0 l1 l2 l4 l5 : Option Value) (x : Int32) (S : List Value) (h : zH), zD 133 11 [l0, l1, l2, some (.int x), l4, l5] S h = zD 133 12 [l0, l1, l2, some (.int x), l4, l5] (.int x :: S) h) ∧
  (∀ (l0 l1 l2 l4 l5 : Option Value) (x : Int32) (S : List Value) (h : zH), zD 133 12 [l0, l1, l2, some (.int x), l4, l5] S h = zD 133 13 [l0, l1, l2, some (.int x), l4, l5] (.int x :: S) h) ∧
  (∀ (l0 l1 l2 l3 l4 l5 : Option Value) (p0 : Int32) (p1 : Int32) (r : List Value) (h : zH) (hcat : zcat r ≤ 8) (hC : (zC 17 [.int p0, .int p1] h).isSome = true), zD 133 13 [l0, l1, l2, l3, l4, l5] (.int p1 :: .int p0 :: r) h = zD 133 16 [l0, l1, l2, l3, l4, l5] (zgv (zC 17 [.int p0, .int p1] h) ++ r) (zgh h (zC 17 [.int p0, .int p1] h))) ∧
  (∀ (l0 l1 l2 l3 l4 l5 : Option Value) (S : List Value) (h : zH), zD 133 16 [l0, l1, l2, l3, l4, l5] S h = zD 133 17 [l0, l1, l2, l3, l4, l5] (.long (1 : Int64) :: S) h) ∧
  (∀ (l0 l1 l2 l3 l4 l5 : Option Value) (w : Int64) (i : Int32) (a : Nat) (r : List Value) (h : zH) (hx : zlok (h.2.2 a) i = true), zD 133 17 [l0, l1, l2, l3, l4, l5] (.long w :: .int i :: .ref a :: r) h = zD 133 18 [l0, l1, l2, l3, l4, l5] r (zw h a (zls' (h.2.2 a) i w))) ∧
  (∀ (l0 l1 l2 l4 l5 : Option Value) (x : Int32) (S : List Value) (h : zH), zD 133 18 [l0, l1, l2, some (.int x), l4, l5] S h = zD 133 21 [l0, l1, zclr l2, some (.int (x + (1 : Int32))), l4, l5] S h) ∧
  (∀ (l0 l1 l2 l3 l4 l5 : Option Value) (S : List Value) (h : zH), zD 133 21 [l0, l1, l2, l3, l4, l5] S h = zD 133 2 [l0, l1, l2, l3, l4, l5] S h) ∧
  (∀ (l0 l1 l2 l3 l4 l5 : Option Value) (S : List Value) (h : zH), zD 133 24 [l0, l1, l2, l3, l4, l5] S h = zD 133 25 [l0, l1, l2, l3, l4, l5] (.int (1 : Int32) :: S) h) ∧
  (∀ (l0 l1 l2 l3 l4 l5 : Option Value) (x : Int32) (r : List Value) (h : zH), zD 133 25 [l0, l1, l2, l3, l4, l5] (.int x :: r) h = zD 133 26 [l0, l1, zclr l2, some (.int x), l4, l5] r h) ∧
  (∀ (l0 l1 l3 l4 l5 : Option Value) (x : Int32) (S : List Value) (h : zH), zD 133 27 [l0, l1, some (.int x), l3, l4, l5] S h = zD 133 28 [l0, l1, some (.int x), l3, l4, l5] (.int x :: S) h) ∧
  (∀ (l0 l1 l2 l3 l4 l5 : Option Value) (x y : Int32) (r : List Value) (h : zH), zD 133 28 [l0, l1, l2, l3, l4, l5] (.int y :: .int x :: r) h = if y < x then zD 133 127 [l0, l1, l2, l3, l4, l5] r h else zD 133 31 [l0, l1, l2, l3, l4, l5] r h) ∧
  (∀ (l0 l1 l2 l3 l4 l5 : Option Value) (S : List Value) (h : zH), zD 133 31 [l0, l1, l2, l3, l4, l5] S h = zD 133 32 [l0, l1, l2, l3, l4, l5] (.int (0 : Int32) :: S) h) ∧
  (∀ (l0 l1 l2 l3 l4 l5 : Option Value) (x : Int32) (r : List Value) (h : zH), zD 133 32 [l0, l1, l2, l3, l4, l5] (.int x :: r) h = zD 133 34 [l0, l1, l2, zclr l3, some (.int x), l5] r h) ∧
  (∀ (l0 l1 l2 l4 l5 : Option Value) (x : Int32) (S : List Value) (h : zH), zD 133 36 [l0, l1, l2, some (.int x), l4, l5] S h = zD 133 37 [l0, l1, l2, some (.int x), l4, l5] (.int x :: S) h) ∧
  (∀ (l0 l1 l2 l3 l4 l5 : Option Value) (x y : Int32) (r : List Value) (h : zH), zD 133 37 [l0, l1, l2, l3, l4, l5] (.int y :: .int x :: r) h = zD 133 38 [l0, l1, l2, l3, l4, l5] (.int (x + y) :: r) h) ∧
  (∀ (l0 l1 l3 l4 l5 : Option Value) (x : Int32) (S : List Value) (h : zH), zD 133 38 [l0, l1, some (.int x), l3, l4, l5] S h = zD 133 39 [l0, l1, some (.int x), l3, l4, l5] (.int x :: S) h) ∧
  (∀ (l0 l1 l2 l3 l4 l5 : Option Value) (x y : Int32) (r : List Value) (h : zH), zD 133 39 [l0, l1, l2, l3, l4, l5] (.int y :: .int x :: r) h = if y < x then zD 133 121 [l0, l1, l2, l3, l4, l5] r h else zD 133 42 [l0, l1, l2, l3, l4, l5] r h) ∧
  (∀ (l0 l1 l2 l3 l5 : Option Value) (x : Int32) (S : List Value) (h : zH), zD 133 42 [l0, l1, l2, l3, some (.int x), l5] S h = zD 133 44 [l0, l1, l2, l3, some (.int x), l5] (.int x :: S) h) ∧
  (∀ (l0 l1 l2 l4 l5 : Option Value) (x : Int32) (S : List Value) (h : zH), zD 133 44 [l0, l1, l2, some (.int x), l4, l5] S h = zD 133 45 [l0, l1, l2, some (.int x), l4, l5] (.int x :: S) h) ∧
  (∀ (l0 l1 l2 l3 l4 l5 : Option Value) (x y : Int32) (r : List Value) (h : zH), zD 133 45 [l0, l1, l2, l3, l4, l5] (.int y :: .int x :: r) h = zD 133 46 [l0, l1, l2, l3, l4, l5] (.int (x + y) :: r) h) ∧
  (∀ (l0 l1 l2 l3 l4 l5 : Option Value) (x : Int32) (r : List Value) (h : zH), zD 133 46 [l0, l1, l2, l3, l4, l5] (.int x :: r) h = zD 133 48 [l0, l1, l2, l3, zclr l4, some (.int x)] r h) ∧
  (∀ (l1 l2 l3 l4 l5 : Option Value) (x : Nat) (S : List Value) (h : zH), zD 133 48 [some (.ref x), l1, l2, l3, l4, l5] S h = zD 133 49 [some (.ref x), l1, l2, l3, l4, l5] (.ref x :: S) h) ∧
  (∀ (l0 l1 l2 l3 l4 l5 : Option Value) (a : Nat) (r : List Value) (h : zH) (hx : zfok (h.2.2 a) 5 2 = true), zD 133 49 [l0, l1, l2, l3, l4, l5] (.ref a :: r) h = zD 133 52 [l0, l1, l2, l3, l4, l5] (zfv (h.2.2 a) 2 :: r) h) ∧
  (∀ (l0 l1 l2 l3 l5 : Option Value) (x : Int32) (S : List Value) (h : zH), zD 133 52 [l0, l1, l2, l3, some (.int x), l5] S h = zD 133 54 [l0, l1, l2, l3, some (.int x), l5] (.int x :: S) h) ∧
  (∀ (l0 l1 l2 l3 l4 : Option Value) (x : Int32) (S : List Value) (h : zH), zD 133 54 [l0, l1, l2, l3, l4, some (.int x)] S h = zD 133 56 [l0, l1, l2, l3, l4, some (.int x)] (.int x :: S) h) ∧
  (∀ (l0 l1 l2 l3 l4 l5 : Option Value) (p0 : Int32) (p1 : Int32) (r : List Value) (h : zH) (hcat : zcat r ≤ 8) (hC : (zC 62 [.int p0, .int p1] h).isSome = true), zD 133 56 [l0, l1, l2, l3, l4, l5] (.int p1 :: .int p0 :: r) h = zD 133 59 [l0, l1, l2, l3, l4, l5] (zgv (zC 62 [.int p0, .int p1] h) ++ r) (zgh h (zC 62 [.int p0, .int p1] h))) ∧
  (∀ (l1 l2 l3 l4 l5 : Option Value) (x : Nat) (S : List Value) (h : zH), zD 133 59 [some (.ref x), l1, l2, l3, l4, l5] S h = zD 133 60 [some (.ref x), l1, l2, l3, l4, l5] (.ref x :: S) h) ∧
  (∀ (l0 l1 l2 l3 l5 : Option Value) (x : Int32) (S : List Value) (h : zH), zD 133 60 [l0, l1, l2, l3, some (.int x), l5] S h = zD 133 62 [l0, l1, l2, l3, some (.int x), l5] (.int x :: S) h) ∧
  (∀ (l0 l1 l2 l3 l4 : Option Value) (x : Int32) (S : List Value) (h : zH), zD 133 62 [l0, l1, l2, l3, l4, some (.int x)] S h = zD 133 64 [l0, l1, l2, l3, l4, some (.int x)] (.int x :: S) h) ∧
  (∀ (l0 l1 l2 l3 l4 l5 : Option Value) (p0 : Int32) (p1 : Int32) (a : Nat) (r : List Value) (h : zH) (hcat : zcat r ≤ 8) (hr : zis (h.2.2 a) 5 = true) (hC : (zC 60 (.ref a :: [.int p0, .int p1]) h).isSome = true), zD 133 64 [l0, l1, l2, l3, l4, l5] (.int p1 :: .int p0 :: .ref a :: r) h = zD 133 67 [l0, l1, l2, l3, l4, l5] (zgv (zC 60 (.ref a :: [.int p0, .int p1]) h) ++ r) (zgh h (zC 60 (.ref a :: [.int p0, .int p1]) h))) ∧
  (∀ (l0 l1 l2 l3 l4 l5 : Option Value) (w : Int64) (i : Int32) (a : Nat) (r : List Value) (h : zH) (hx : zlok (h.2.2 a) i = true), zD 133 67 [l0, l1, l2, l3, l4, l5] (.long w :: .int i :: .ref a :: r) h = zD 133 68 [l0, l1, l2, l3, l4, l5] r (zw h a (zls' (h.2.2 a) i w))) ∧
  (∀ (l1 l2 l3 l4 l5 : Option Value) (x : Nat) (S : List Value) (h : zH), zD 133 68 [some (.ref x), l1, l2, l3, l4, l5] S h = zD 133 69 [some (.ref x), l1, l2, l3, l4, l5] (.ref x :: S) h) ∧
  (∀ (l0 l1 l2 l3 l4 l5 : Option Value) (a : Nat) (r : List Value) (h : zH) (hx : zfok (h.2.2 a) 5 1 = true), zD 133 69 [l0, l1, l2, l3, l4, l5] (.ref a :: r) h = zD 133 72 [l0, l1, l2, l3, l4, l5] (zfv (h.2.2 a) 1 :: r) h) ∧
  (∀ (l0 l1 l2 l3 l5 : Option Value) (x : Int32) (S : List Value) (h : zH), zD 133 72 [l0, l1, l2, l3, some (.int x), l5] S h = zD 133 74 [l0, l1, l2, l3, some (.int x), l5] (.int x :: S) h) ∧
  (∀ (l0 l1 l2 l3 l4 : Option Value) (x : Int32) (S : List Value) (h : zH), zD 133 74 [l0, l1, l2, l3, l4, some (.int x)] S h = zD 133 76 [l0, l1, l2, l3, l4, some (.int x)] (.int x :: S) h) ∧
  (∀ (l0 l1 l2 l3 l4 l5 : Option Value) (p0 : Int32) (p1 : Int32) (r : List Value) (h : zH) (hcat : zcat r ≤ 8) (hC : (zC 17 [.int p0, .int p1] h).isSome = true), zD 133 76 [l0, l1, l2, l3, l4, l5] (.int p1 :: .int p0 :: r) h = zD 133 79 [l0, l1, l2, l3, l4, l5] (zgv (zC 17 [.int p0, .int p1] h) ++ r) (zgh h (zC 17 [.int p0, .int p1] h))) ∧
  (∀ (l1 l2 l3 l4 l5 : Option Value) (x : Nat) (S : List Value) (h : zH), zD 133 79 [some (.ref x), l1, l2, l3, l4, l5] S h = zD 133 80 [some (.ref x), l1, l2, l3, l4, l5] (.ref x :: S) h) ∧
  (∀ (l0 l2 l3 l4 l5 : Option Value) (x : Nat) (S : List Value) (h : zH), zD 133 80 [l0, some (.ref x), l2, l3, l4, l5] S h = zD 133 81 [l0, some (.ref x), l2, l3, l4, l5] (.ref x :: S) h) ∧
  (∀ (l0 l2 l3 l4 l5 : Option Value) (S : List Value) (h : zH), zD 133 80 [l0, some .null, l2, l3, l4, l5] S h = zD 133 81 [l0, some .null, l2, l3, l4, l5] (.null :: S) h) ∧
  (∀ (l0 l1 l2 l3 l5 : Option Value) (x : Int32) (S : List Value) (h : zH), zD 133 81 [l0, l1, l2, l3, some (.int x), l5] S h = zD 133 83 [l0, l1, l2, l3, some (.int x), l5] (.int x :: S) h) ∧
  (∀ (l0 l1 l2 l3 l4 : Option Value) (x : Int32) (S : List Value) (h : zH), zD 133 83 [l0, l1, l2, l3, l4, some (.int x)] S h = zD 133 85 [l0, l1, l2, l3, l4, some (.int x)] (.int x :: S) h) ∧
  (∀ (l0 l1 l2 l3 l4 l5 : Option Value) (p0 : Nat) (p1 : Int32) (p2 : Int32) (a : Nat) (r : List Value) (h : zH) (hcat : zcat r ≤ 8) (hr : zis (h.2.2 a) 5 = true) (hC : (zC 99 (.ref a :: [.ref p0, .int p1, .int p2]) h).isSome = true), zD 133 85 [l0, l1, l2, l3, l4, l5] (.int p2 :: .int p1 :: .ref p0 :: .ref a :: r) h = zD 133 88 [l0, l1, l2, l3, l4, l5] (zgv (zC 99 (.ref a :: [.ref p0, .int p1, .int p2]) h) ++ r) (zgh h (zC 99 (.ref a :: [.ref p0, .int p1, .int p2]) h))) ∧
  (∀ (l0 l1 l2 l3 l4 l5 : Option Value) (w : Int64) (i : Int32) (a : Nat) (r : List Value) (h : zH) (hx : zlok (h.2.2 a) i = true), zD 133 88 [l0, l1, l2, l3, l4, l5] (.long w :: .int i :: .ref a :: r) h = zD 133 89 [l0, l1, l2, l3, l4, l5] r (zw h a (zls' (h.2.2 a) i w))) ∧
  (∀ (l0 l1 l2 l3 l5 : Option Value) (x : Int32) (S : List Value) (h : zH), zD 133 89 [l0, l1, l2, l3, some (.int x), l5] S h = zD 133 91 [l0, l1, l2, l3, some (.int x), l5] (.int x :: S) h) ∧
  (∀ (l0 l1 l2 l3 l4 l5 : Option Value) (x : Int32) (r : List Value) (h : zH), zD 133 91 [l0, l1, l2, l3, l4, l5] (.int x :: r) h = if x ≤ 0 then zD 133 115 [l0, l1, l2, l3, l4, l5] r h else zD 133 94 [l0, l1, l2, l3, l4, l5] r h) ∧
  (∀ (l1 l2 l3 l4 l5 : Option Value) (x : Nat) (S : List Value) (h : zH), zD 133 94 [some (.ref x), l1, l2, l3, l4, l5] S h = zD 133 95 [some (.ref x), l1, l2, l3, l4, l5] (.ref x :: S) h) ∧
  (∀ (l0 l1 l2 l3 l4 l5 : Option Value) (a : Nat) (r : List Value) (h : zH) (hx : zfok (h.2.2 a) 5 1 = true), zD 133 95 [l0, l1, l2, l3, l4, l5] (.ref a :: r) h = zD 133 98 [l0, l1, l2, l3, l4, l5] (zfv (h.2.2 a) 1 :: r) h) ∧
  (∀ (l0 l1 l2 l3 l4 : Option Value) (x : Int32) (S : List Value) (h : zH), zD 133 98 [l0, l1, l2, l3, l4, some (.int x)] S h = zD 133 100 [l0, l1, l2, l3, l4, some (.int x)] (.int x :: S) h) ∧
  (∀ (l0 l1 l2 l3 l5 : Option Value) (x : Int32) (S : List Value) (h : zH), zD 133 100 [l0, l1, l2, l3, some (.int x), l5] S h = zD 133 102 [l0, l1, l2, l3, some (.int x), l5] (.int x :: S) h) ∧
  (∀ (l0 l1 l2 l3 l4 l5 : Option Value) (p0 : Int32) (p1 : Int32) (r : List Value) (h : zH) (hcat : zcat r ≤ 8) (hC : (zC 17 [.int p0, .int p1] h).isSome = true), zD 133 102 [l0, l1, l2, l3, l4, l5] (.int p1 :: .int p0 :: r) h = zD 133 105 [l0, l1, l2, l3, l4, l5] (zgv (zC 17 [.int p0, .int p1] h) ++ r) (zgh h (zC 17 [.int p0, .int p1] h))) ∧
  (∀ (l1 l2 l3 l4 l5 : Option Value) (x : Nat) (S : List Value) (h : zH), zD 133 105 [some (.ref x), l1, l2, l3, l4, l5] S h = zD 133 106 [some (.ref x), l1, l2, l3, l4, l5] (.ref x :: S) h) ∧
  (∀ (l0 l2 l3 l4 l5 : Option Value) (x : Nat) (S : List Value) (h : zH), zD 133 106 [l0, some (.ref x), l2, l3, l4, l5] S h = zD 133 107 [l0, some (.ref x), l2, l3, l4, l5] (.ref x :: S) h) ∧
  (∀ (l0 l2 l3 l4 l5 : Option Value) (S : List Value) (h : zH), zD 133 106 [l0, some .null, l2, l3, l4, l5] S h = zD 133 107 [l0, some .null, l2, l3, l4, l5] (.null :: S) h) ∧
  (∀ (l0 l1 l2 l3 l4 : Option Value) (x : Int32) (S : List Value) (h : zH), zD 133 107 [l0, l1, l2, l3, l4, some (.int x)] S h = zD 133 109 [l0, l1, l2, l3, l4, some (.int x)] (.int x :: S) h) ∧
  (∀ (l0 l1 l2 l3 l5 : Option Value) (x : Int32) (S : List Value) (h : zH), zD 133 109 [l0, l1, l2, l3, some (.int x), l5] S h = zD 133 111 [l0, l1, l2, l3, some (.int x), l5] (.int x :: S) h) ∧
  (∀ (l0 l1 l2 l3 l4 l5 : Option Value) (p0 : Nat) (p1 : Int32) (p2 : Int32) (a : Nat) (r : List Value) (h : zH) (hcat : zcat r ≤ 8) (hr : zis (h.2.2 a) 5 = true) (hC : (zC 99 (.ref a :: [.ref p0, .int p1, .int p2]) h).isSome = true), zD 133 111 [l0, l1, l2, l3, l4, l5] (.int p2 :: .int p1 :: .ref p0 :: .ref a :: r) h = zD 133 114 [l0, l1, l2, l3, l4, l5] (zgv (zC 99 (.ref a :: [.ref p0, .int p1, .int p2]) h) ++ r) (zgh h (zC 99 (.ref a :: [.ref p0, .int p1, .int p2]) h))) ∧
  (∀ (l0 l1 l2 l3 l4 l5 : Option Value) (w : Int64) (i : Int32) (a : Nat) (r : List Value) (h : zH) (hx : zlok (h.2.2 a) i = true), zD 133 114 [l0, l1, l2, l3, l4, l5] (.long w :: .int i :: .ref a :: r) h = zD 133 115 [l0, l1, l2, l3, l4, l5] r (zw h a (zls' (h.2.2 a) i w))) ∧
  (∀ (l0 l1 l2 l3 l5 : Option Value) (x : Int32) (S : List Value) (h : zH), zD 133 115 [l0, l1, l2, l3, some (.int x), l5] S h = zD 133 118 [l0, l1, l2, zclr l3, some (.int (x + (1 : Int32))), l5] S h) ∧
  (∀ (l0 l1 l2 l3 l4 l5 : Option Value) (S : List Value) (h : zH), zD 133 118 [l0, l1, l2, l3, l4, l5] S h = zD 133 34 [l0, l1, l2, l3, l4, l5] S h) ∧
  (∀ (l0 l1 l2 l4 l5 : Option Value) (x : Int32) (S : List Value) (h : zH), zD 133 121 [l0, l1, l2, some (.int x), l4, l5] S h = zD 133 124 [l0, l1, zclr l2, some (.int (x + (1 : Int32))), l4, l5] S h) ∧
  (∀ (l0 l1 l2 l3 l4 l5 : Option Value) (S : List Value) (h : zH), zD 133 124 [l0, l1, l2, l3, l4, l5] S h = zD 133 26 [l0, l1, l2, l3, l4, l5] S h) ∧
  (∀ (l1 l2 l3 l4 l5 : Option Value) (x : Nat) (S : List Value) (h : zH), zD 133 127 [some (.ref x), l1, l2, l3, l4, l5] S h = zD 133 128 [some (.ref x), l1, l2, l3, l4, l5] (.ref x :: S) h) ∧
  (∀ (l0 l1 l2 l3 l4 l5 : Option Value) (a : Nat) (r : List Value) (h : zH) (hx : zfok (h.2.2 a) 5 1 = true), zD 133 128 [l0, l1, l2, l3, l4, l5] (.ref a :: r) h = zD 133 131 [l0, l1, l2, l3, l4, l5] (zfv (h.2.2 a) 1 :: r) h) ∧
  (∀ (l0 l1 l2 l3 l4 l5 : Option Value) (S : List Value) (h : zH), zD 133 131 [l0, l1, l2, l3, l4, l5] S h = zD 133 132 [l0, l1, l2, l3, l4, l5] (.int (0 : Int32) :: S) h) ∧
  (∀ (l0 l1 l3 l4 l5 : Option Value) (x : Int32) (S : List Value) (h : zH), zD 133 132 [l0, l1, some (.int x), l3, l4, l5] S h = zD 133 133 [l0, l1, some (.int x), l3, l4, l5] (.int x :: S) h) ∧
  (∀ (l0 l1 l2 l3 l4 l5 : Option Value) (p0 : Int32) (p1 : Int32) (r : List Value) (h : zH) (hcat : zcat r ≤ 8) (hC : (zC 17 [.int p0, .int p1] h).isSome = true), zD 133 133 [l0, l1, l2, l3, l4, l5] (.int p1 :: .int p0 :: r) h = zD 133 136 [l0, l1, l2, l3, l4, l5] (zgv (zC 17 [.int p0, .int p1] h) ++ r) (zgh h (zC 17 [.int p0, .int p1] h))) ∧
  (∀ (l0 l1 l2 l3 l4 l5 : Option Value) (i : Int32) (a : Nat) (r : List Value) (h : zH) (hx : zlok (h.2.2 a) i = true), zD 133 136 [l0, l1, l2, l3, l4, l5] (.int i :: .ref a :: r) h = zD 133 137 [l0, l1, l2, l3, l4, l5] (.long (zlv' (h.2.2 a) i) :: r) h) ∧
  (∀ (l0 l1 l2 l3 l4 l5 : Option Value) (v : Int64) (h : zH), zD 133 137 [l0, l1, l2, l3, l4, l5] [.long v] h = some (some (.long v), h)) :=
  ⟨fun l0 l1 l2 l3 l4 l5 S h => zD_icst (n := 0) (by decide +kernel) (by decide +kernel),
  fun l0 l1 l2 l3 l4 l5 x r h => zD_st1 (k := 3) (ins := .istore_n 3) (len := 1) (by decide +kernel) rfl rfl rfl (by decide +kernel) rfl rfl,
  fun l0 l1 l3 l4 l5 x S h => zD_op (ins := .iload_n 2) (len := 1) (c := (4, [l0, l1, some (.int x), l3, l4, l5], (.int x :: S), h)) (by decide +kernel) rfl rfl rfl rfl,
  fun l0 l1 l2 l3 l4 l5 x y r h => zD_if (cnd := .gt) (off := 20) (by decide +kernel) (by decide) rfl,
  fun l1 l2 l3 l4 l5 x S h => zD_op (ins := .aload_n 0) (len := 1) (c := (8, [some (.ref x), l1, l2, l3, l4, l5], (.ref x :: S), h)) (by decide +kernel) rfl rfl rfl rfl,
  fun l0 l1 l2 l3 l4 l5 a r h hx => zD_getf (i := 15) (ci := 5) (k := 1) (q := (167, 0)) (by decide +kernel) (by decide +kernel) hx,
  fun l0 l1 l2 l4 l5 x S h => zD_op (ins := .iload_n 3) (len := 1) (c := (12, [l0, l1, l2, some (.int x), l4, l5], (.int x :: S), h)) (by decide +kernel) rfl rfl rfl rfl,
  fun l0 l1 l2 l4 l5 x S h => zD_op (ins := .iload_n 3) (len := 1) (c := (13, [l0, l1, l2, some (.int x), l4, l5], (.int x :: S), h)) (by decide +kernel) rfl rfl rfl rfl,
  fun l0 l1 l2 l3 l4 l5 p0 p1 r h hcat hC => zD_calls (i := 70) (y := 17) (n := 2) (as := [.int p0, .int p1]) (by decide +kernel) (by decide +kernel) rfl (by decide +kernel) (Nat.le_of_ble_eq_true rfl) hcat hC,
  fun l0 l1 l2 l3 l4 l5 S h => zD_op (ins := .lconst 1) (len := 1) (c := (17, [l0, l1, l2, l3, l4, l5], (.long (1 : Int64) :: S), h)) (by decide +kernel) rfl rfl rfl rfl,
  fun l0 l1 l2 l3 l4 l5 w i a r h hx => zD_last (by decide +kernel) hx,
  fun l0 l1 l2 l4 l5 x S h => zD_iinc (k := 3) (x := x) (c := (1 : Int32)) (n := 1) (by decide +kernel) (by decide +kernel) rfl (by decide +kernel) rfl,
  fun l0 l1 l2 l3 l4 l5 S h => zD_goto (off := (-19)) (by decide +kernel) (by decide),
  fun l0 l1 l2 l3 l4 l5 S h => zD_icst (n := 1) (by decide +kernel) (by decide +kernel),
  fun l0 l1 l2 l3 l4 l5 x r h => zD_st1 (k := 3) (ins := .istore_n 3) (len := 1) (by decide +kernel) rfl rfl rfl (by decide +kernel) rfl rfl,
  fun l0 l1 l3 l4 l5 x S h => zD_op (ins := .iload_n 2) (len := 1) (c := (28, [l0, l1, some (.int x), l3, l4, l5], (.int x :: S), h)) (by decide +kernel) rfl rfl rfl rfl,
  fun l0 l1 l2 l3 l4 l5 x y r h => zD_if (cnd := .gt) (off := 99) (by decide +kernel) (by decide) rfl,
  fun l0 l1 l2 l3 l4 l5 S h => zD_icst (n := 0) (by decide +kernel) (by decide +kernel),
  fun l0 l1 l2 l3 l4 l5 x r h => zD_st1 (k := 4) (ins := .istore 4) (len := 2) (by decide +kernel) rfl rfl rfl (by decide +kernel) rfl rfl,
  fun l0 l1 l2 l4 l5 x S h => zD_op (ins := .iload_n 3) (len := 1) (c := (37, [l0, l1, l2, some (.int x), l4, l5], (.int x :: S), h)) (by decide +kernel) rfl rfl rfl rfl,
  fun l0 l1 l2 l3 l4 l5 x y r h => zD_op (ins := .iadd) (len := 1) (c := (38, [l0, l1, l2, l3, l4, l5], (.int (x + y) :: r), h)) (by decide +kernel) rfl rfl rfl rfl,
  fun l0 l1 l3 l4 l5 x S h => zD_op (ins := .iload_n 2) (len := 1) (c := (39, [l0, l1, some (.int x), l3, l4, l5], (.int x :: S), h)) (by decide +kernel) rfl rfl rfl rfl,
  fun l0 l1 l2 l3 l4 l5 x y r h => zD_if (cnd := .gt) (off := 82) (by decide +kernel) (by decide) rfl,
  fun l0 l1 l2 l3 l5 x S h => zD_op (ins := .iload 4) (len := 2) (c := (44, [l0, l1, l2, l3, some (.int x), l5], (.int x :: S), h)) (by decide +kernel) rfl rfl rfl rfl,
  fun l0 l1 l2 l4 l5 x S h => zD_op (ins := .iload_n 3) (len := 1) (c := (45, [l0, l1, l2, some (.int x), l4, l5], (.int x :: S), h)) (by decide +kernel) rfl rfl rfl rfl,
  fun l0 l1 l2 l3 l4 l5 x y r h => zD_op (ins := .iadd) (len := 1) (c := (46, [l0, l1, l2, l3, l4, l5], (.int (x + y) :: r), h)) (by decide +kernel) rfl rfl rfl rfl,
  fun l0 l1 l2 l3 l4 l5 x r h => zD_st1 (k := 5) (ins := .istore 5) (len := 2) (by decide +kernel) rfl rfl rfl (by decide +kernel) rfl rfl,
  fun l1 l2 l3 l4 l5 x S h => zD_op (ins := .aload_n 0) (len := 1) (c := (49, [some (.ref x), l1, l2, l3, l4, l5], (.ref x :: S), h)) (by decide +kernel) rfl rfl rfl rfl,
  fun l0 l1 l2 l3 l4 l5 a r h hx => zD_getf (i := 19) (ci := 5) (k := 2) (q := (168, 0)) (by decide +kernel) (by decide +kernel) hx,
  fun l0 l1 l2 l3 l5 x S h => zD_op (ins := .iload 4) (len := 2) (c := (54, [l0, l1, l2, l3, some (.int x), l5], (.int x :: S), h)) (by decide +kernel) rfl rfl rfl rfl,
  fun l0 l1 l2 l3 l4 x S h => zD_op (ins := .iload 5) (len := 2) (c := (56, [l0, l1, l2, l3, l4, some (.int x)], (.int x :: S), h)) (by decide +kernel) rfl rfl rfl rfl,
  fun l0 l1 l2 l3 l4 l5 p0 p1 r h hcat hC => zD_calls (i := 74) (y := 62) (n := 2) (as := [.int p0, .int p1]) (by decide +kernel) (by decide +kernel) rfl (by decide +kernel) (Nat.le_of_ble_eq_true rfl) hcat hC,
  fun l1 l2 l3 l4 l5 x S h => zD_op (ins := .aload_n 0) (len := 1) (c := (60, [some (.ref x), l1, l2, l3, l4, l5], (.ref x :: S), h)) (by decide +kernel) rfl rfl rfl rfl,
  fun l0 l1 l2 l3 l5 x S h => zD_op (ins := .iload 4) (len := 2) (c := (62, [l0, l1, l2, l3, some (.int x), l5], (.int x :: S), h)) (by decide +kernel) rfl rfl rfl rfl,
  fun l0 l1 l2 l3 l4 x S h => zD_op (ins := .iload 5) (len := 2) (c := (64, [l0, l1, l2, l3, l4, some (.int x)], (.int x :: S), h)) (by decide +kernel) rfl rfl rfl rfl,
  fun l0 l1 l2 l3 l4 l5 p0 p1 a r h hcat hr hC => zD_callv (i := 77) (y := 60) (n := 2) (as := [.int p0, .int p1]) (ci := 5) (by decide +kernel) (by decide +kernel) rfl (by decide +kernel) (Nat.le_of_ble_eq_true rfl) (by decide +kernel) hcat hr hC,
  fun l0 l1 l2 l3 l4 l5 w i a r h hx => zD_last (by decide +kernel) hx,
  fun l1 l2 l3 l4 l5 x S h => zD_op (ins := .aload_n 0) (len := 1) (c := (69, [some (.ref x), l1, l2, l3, l4, l5], (.ref x :: S), h)) (by decide +kernel) rfl rfl rfl rfl,
  fun l0 l1 l2 l3 l4 l5 a r h hx => zD_getf (i := 15) (ci := 5) (k := 1) (q := (167, 0)) (by decide +kernel) (by decide +kernel) hx,
  fun l0 l1 l2 l3 l5 x S h => zD_op (ins := .iload 4) (len := 2) (c := (74, [l0, l1, l2, l3, some (.int x), l5], (.int x :: S), h)) (by decide +kernel) rfl rfl rfl rfl,
  fun l0 l1 l2 l3 l4 x S h => zD_op (ins := .iload 5) (len := 2) (c := (76, [l0, l1, l2, l3, l4, some (.int x)], (.int x :: S), h)) (by decide +kernel) rfl rfl rfl rfl,
  fun l0 l1 l2 l3 l4 l5 p0 p1 r h hcat hC => zD_calls (i := 70) (y := 17) (n := 2) (as := [.int p0, .int p1]) (by decide +kernel) (by decide +kernel) rfl (by decide +kernel) (Nat.le_of_ble_eq_true rfl) hcat hC,
  fun l1 l2 l3 l4 l5 x S h => zD_op (ins := .aload_n 0) (len := 1) (c := (80, [some (.ref x), l1, l2, l3, l4, l5], (.ref x :: S), h)) (by decide +kernel) rfl rfl rfl rfl,
  fun l0 l2 l3 l4 l5 x S h => zD_op (ins := .aload_n 1) (len := 1) (c := (81, [l0, some (.ref x), l2, l3, l4, l5], (.ref x :: S), h)) (by decide +kernel) rfl rfl rfl rfl,
  fun l0 l2 l3 l4 l5 S h => zD_op (ins := .aload_n 1) (len := 1) (c := (81, [l0, some .null, l2, l3, l4, l5], (.null :: S), h)) (by decide +kernel) rfl rfl rfl rfl,
  fun l0 l1 l2 l3 l5 x S h => zD_op (ins := .iload 4) (len := 2) (c := (83, [l0, l1, l2, l3, some (.int x), l5], (.int x :: S), h)) (by decide +kernel) rfl rfl rfl rfl,
  fun l0 l1 l2 l3 l4 x S h => zD_op (ins := .iload 5) (len := 2) (c := (85, [l0, l1, l2, l3, l4, some (.int x)], (.int x :: S), h)) (by decide +kernel) rfl rfl rfl rfl,
  fun l0 l1 l2 l3 l4 l5 p0 p1 p2 a r h hcat hr hC => zD_callv (i := 80) (y := 99) (n := 3) (as := [.ref p0, .int p1, .int p2]) (ci := 5) (by decide +kernel) (by decide +kernel) rfl (by decide +kernel) (Nat.le_of_ble_eq_true rfl) (by decide +kernel) hcat hr hC,
  fun l0 l1 l2 l3 l4 l5 w i a r h hx => zD_last (by decide +kernel) hx,
  fun l0 l1 l2 l3 l5 x S h => zD_op (ins := .iload 4) (len := 2) (c := (91, [l0, l1, l2, l3, some (.int x), l5], (.int x :: S), h)) (by decide +kernel) rfl rfl rfl rfl,
  fun l0 l1 l2 l3 l4 l5 x r h => zD_if0 (cnd := .le) (off := 24) (by decide +kernel) (by decide) rfl,
  fun l1 l2 l3 l4 l5 x S h => zD_op (ins := .aload_n 0) (len := 1) (c := (95, [some (.ref x), l1, l2, l3, l4, l5], (.ref x :: S), h)) (by decide +kernel) rfl rfl rfl rfl,
  fun l0 l1 l2 l3 l4 l5 a r h hx => zD_getf (i := 15) (ci := 5) (k := 1) (q := (167, 0)) (by decide +kernel) (by decide +kernel) hx,
  fun l0 l1 l2 l3 l4 x S h => zD_op (ins := .iload 5) (len := 2) (c := (100, [l0, l1, l2, l3, l4, some (.int x)], (.int x :: S), h)) (by decide +kernel) rfl rfl rfl rfl,
  fun l0 l1 l2 l3 l5 x S h => zD_op (ins := .iload 4) (len := 2) (c := (102, [l0, l1, l2, l3, some (.int x), l5], (.int x :: S), h)) (by decide +kernel) rfl rfl rfl rfl,
  fun l0 l1 l2 l3 l4 l5 p0 p1 r h hcat hC => zD_calls (i := 70) (y := 17) (n := 2) (as := [.int p0, .int p1]) (by decide +kernel) (by decide +kernel) rfl (by decide +kernel) (Nat.le_of_ble_eq_true rfl) hcat hC,
  fun l1 l2 l3 l4 l5 x S h => zD_op (ins := .aload_n 0) (len := 1) (c := (106, [some (.ref x), l1, l2, l3, l4, l5], (.ref x :: S), h)) (by decide +kernel) rfl rfl rfl rfl,
  fun l0 l2 l3 l4 l5 x S h => zD_op (ins := .aload_n 1) (len := 1) (c := (107, [l0, some (.ref x), l2, l3, l4, l5], (.ref x :: S), h)) (by decide +kernel) rfl rfl rfl rfl,
  fun l0 l2 l3 l4 l5 S h => zD_op (ins := .aload_n 1) (len := 1) (c := (107, [l0, some .null, l2, l3, l4, l5], (.null :: S), h)) (by decide +kernel) rfl rfl rfl rfl,
  fun l0 l1 l2 l3 l4 x S h => zD_op (ins := .iload 5) (len := 2) (c := (109, [l0, l1, l2, l3, l4, some (.int x)], (.int x :: S), h)) (by decide +kernel) rfl rfl rfl rfl,
  fun l0 l1 l2 l3 l5 x S h => zD_op (ins := .iload 4) (len := 2) (c := (111, [l0, l1, l2, l3, some (.int x), l5], (.int x :: S), h)) (by decide +kernel) rfl rfl rfl rfl,
  fun l0 l1 l2 l3 l4 l5 p0 p1 p2 a r h hcat hr hC => zD_callv (i := 80) (y := 99) (n := 3) (as := [.ref p0, .int p1, .int p2]) (ci := 5) (by decide +kernel) (by decide +kernel) rfl (by decide +kernel) (Nat.le_of_ble_eq_true rfl) (by decide +kernel) hcat hr hC,
  fun l0 l1 l2 l3 l4 l5 w i a r h hx => zD_last (by decide +kernel) hx,
  fun l0 l1 l2 l3 l5 x S h => zD_iinc (k := 4) (x := x) (c := (1 : Int32)) (n := 1) (by decide +kernel) (by decide +kernel) rfl (by decide +kernel) rfl,
  fun l0 l1 l2 l3 l4 l5 S h => zD_goto (off := (-84)) (by decide +kernel) (by decide),
  fun l0 l1 l2 l4 l5 x S h => zD_iinc (k := 3) (x := x) (c := (1 : Int32)) (n := 1) (by decide +kernel) (by decide +kernel) rfl (by decide +kernel) rfl,
  fun l0 l1 l2 l3 l4 l5 S h => zD_goto (off := (-98)) (by decide +kernel) (by decide),
  fun l1 l2 l3 l4 l5 x S h => zD_op (ins := .aload_n 0) (len := 1) (c := (128, [some (.ref x), l1, l2, l3, l4, l5], (.ref x :: S), h)) (by decide +kernel) rfl rfl rfl rfl,
  fun l0 l1 l2 l3 l4 l5 a r h hx => zD_getf (i := 15) (ci := 5) (k := 1) (q := (167, 0)) (by decide +kernel) (by decide +kernel) hx,
  fun l0 l1 l2 l3 l4 l5 S h => zD_icst (n := 0) (by decide +kernel) (by decide +kernel),
  fun l0 l1 l3 l4 l5 x S h => zD_op (ins := .iload_n 2) (len := 1) (c := (133, [l0, l1, some (.int x), l3, l4, l5], (.int x :: S), h)) (by decide +kernel) rfl rfl rfl rfl,
  fun l0 l1 l2 l3 l4 l5 p0 p1 r h hcat hC => zD_calls (i := 70) (y := 17) (n := 2) (as := [.int p0, .int p1]) (by decide +kernel) (by decide +kernel) rfl (by decide +kernel) (Nat.le_of_ble_eq_true rfl) hcat hC,
  fun l0 l1 l2 l3 l4 l5 i a r h hx => zD_lald (by decide +kernel) hx,
  fun l0 l1 l2 l3 l4 l5 v h => zD_lret (by decide +kernel) rfl⟩
set_option maxRecDepth 100000 in
theorem E_X6_howMany_h2 : (∀ (l0 l1 l2 l4 l5 : Option Value) (x : Int32) (S : List Value) (h : zH), zD 133 2 [l0, l1, l2, some (.int x), l4, l5] S h = zD 133 3 [l0, l1, l2, some (.int x), l4, l5] (.int x :: S) h) :=
  fun l0 l1 l2 l4 l5 x S h => zD_op (ins := .iload_n 3) (len := 1) (c := (3, [l0, l1, l2, some (.int x), l4, l5], (.int x :: S), h)) (by decide +kernel) rfl rfl rfl rfl
set_option maxRecDepth 100000 in
theorem E_X6_howMany_h26 : (∀ (l0 l1 l2 l4 l5 : Option Value) (x : Int32) (S : List Value) (h : zH), zD 133 26 [l0, l1, l2, some (.int x), l4, l5] S h = zD 133 27 [l0, l1, l2, some (.int x), l4, l5] (.int x :: S) h) :=
  fun l0 l1 l2 l4 l5 x S h => zD_op (ins := .iload_n 3) (len := 1) (c := (27, [l0, l1, l2, some (.int x), l4, l5], (.int x :: S), h)) (by decide +kernel) rfl rfl rfl rfl
set_option maxRecDepth 100000 in
theorem E_X6_howMany_h34 : (∀ (l0 l1 l2 l3 l5 : Option Value) (x : Int32) (S : List Value) (h : zH), zD 133 34 [l0, l1, l2, l3, some (.int x), l5] S h = zD 133 36 [l0, l1, l2, l3, some (.int x), l5] (.int x :: S) h) :=
  fun l0 l1 l2 l3 l5 x S h => zD_op (ins := .iload 4) (len := 2) (c := (36, [l0, l1, l2, l3, some (.int x), l5], (.int x :: S), h)) (by decide +kernel) rfl rfl rfl rfl
set_option maxRecDepth 100000 in
theorem I_X6_howMany : (∀ (a : Nat) (p0 : Nat) (p1 : Int32) (h : zH), zC 133 [.ref a, .ref p0, .int p1] h = zD 133 0 [some (.ref a), some (.ref p0), some (.int p1), none, none, none] [] h) :=
  fun a p0 p1 h => zC_def rfl
set_option maxRecDepth 100000 in
theorem E_X8_rows : (∀ (l0 l1 : Option Value) (S : List Value) (h : zH), zD 134 0 [l0, l1] S h = zD 134 3 [l0, l1] (.int (128 : Int32) :: S) h) ∧
  (∀ (l0 l1 : Option Value) (n : Int32) (r : List Value) (h : zH) (hx : znok n = true), zD 134 3 [l0, l1] (.int n :: r) h = zD 134 6 [l0, l1] (.ref h.1 :: r) (znew h n.toNatClampNeg (.inl (3, n.toNatClampNeg, .inr (.inr (.inr (.inr (fun _ => none)))))))) ∧
  (∀ (l0 l1 : Option Value) (x : Nat) (r : List Value) (h : zH), zD 134 6 [l0, l1] (.ref x :: r) h = zD 134 7 [some (.ref x), l1] r h) ∧
  (∀ (l0 l1 : Option Value) (r : List Value) (h : zH), zD 134 6 [l0, l1] (.null :: r) h = zD 134 7 [some .null, l1] r h) ∧
  (∀ (l0 l1 : Option Value) (S : List Value) (h : zH), zD 134 7 [l0, l1] S h = zD 134 8 [l0, l1] (.int (0 : Int32) :: S) h) ∧
  (∀ (l0 l1 : Option Value) (x : Int32) (r : List Value) (h : zH), zD 134 8 [l0, l1] (.int x :: r) h = zD 134 9 [zclr l0, some (.int x)] r h) ∧
  (∀ (l0 l1 : Option Value) (S : List Value) (h : zH), zD 134 10 [l0, l1] S h = zD 134 13 [l0, l1] (.int (128 : Int32) :: S) h) ∧
  (∀ (l0 l1 : Option Value) (x y : Int32) (r : List Value) (h : zH), zD 134 13 [l0, l1] (.int y :: .int x :: r) h = if y ≤ x then zD 134 32 [l0, l1] r h else zD 134 16 [l0, l1] r h) ∧
  (∀ (l1 : Option Value) (x : Nat) (S : List Value) (h : zH), zD 134 16 [some (.ref x), l1] S h = zD 134 17 [some (.ref x), l1] (.ref x :: S) h) ∧
  (∀ (l0 : Option Value) (x : Int32) (S : List Value) (h : zH), zD 134 17 [l0, some (.int x)] S h = zD 134 18 [l0, some (.int x)] (.int x :: S) h) ∧
  (∀ (l0 l1 : Option Value) (S : List Value) (h : zH), zD 134 18 [l0, l1] S h = zD 134 21 [l0, l1] (.ref h.1 :: S) (znew h 3 (.inr (7, [.null, .int 0, .int 0])))) ∧
  (∀ (l0 l1 : Option Value) (x : Int32) (r : List Value) (h : zH), zD 134 21 [l0, l1] (.int x :: r) h = zD 134 22 [l0, l1] (.int x :: .int x :: r) h) ∧
  (∀ (l0 l1 : Option Value) (x : Nat) (r : List Value) (h : zH), zD 134 21 [l0, l1] (.ref x :: r) h = zD 134 22 [l0, l1] (.ref x :: .ref x :: r) h) ∧
  (∀ (l0 l1 : Option Value) (a : Nat) (r : List Value) (h : zH) (hcat : zcat r ≤ 8) (hC : (zC 101 [.ref a] h).isSome = true), zD 134 22 [l0, l1] (.ref a :: r) h = zD 134 25 [l0, l1] (zgv (zC 101 [.ref a] h) ++ r) (zgh h (zC 101 [.ref a] h))) ∧
  (∀ (l0 l1 : Option Value) (w : Nat) (i : Int32) (a : Nat) (r : List Value) (h : zH) (hx : zrok (h.2.2 a) i = true) (hw : zrel h (h.2.2 a) w = true), zD 134 25 [l0, l1] (.ref w :: .int i :: .ref a :: r) h = zD 134 26 [l0, l1] r (zw h a (zrs' (h.2.2 a) i (some w)))) ∧
  (∀ (l0 l1 : Option Value) (i : Int32) (a : Nat) (r : List Value) (h : zH) (hx : zrok (h.2.2 a) i = true), zD 134 25 [l0, l1] (.null :: .int i :: .ref a :: r) h = zD 134 26 [l0, l1] r (zw h a (zrs' (h.2.2 a) i none))) ∧
  (∀ (l0 : Option Value) (x : Int32) (S : List Value) (h : zH), zD 134 26 [l0, some (.int x)] S h = zD 134 29 [zclr l0, some (.int (x + (1 : Int32)))] S h) ∧
  (∀ (l0 l1 : Option Value) (S : List Value) (h : zH), zD 134 29 [l0, l1] S h = zD 134 9 [l0, l1] S h) ∧
  (∀ (l1 : Option Value) (x : Nat) (S : List Value) (h : zH), zD 134 32 [some (.ref x), l1] S h = zD 134 33 [some (.ref x), l1] (.ref x :: S) h) ∧
  (∀ (l0 l1 : Option Value) (v : Nat) (h : zH), zD 134 33 [l0, l1] [.ref v] h = some (some (.ref v), h)) :=
  ⟨fun l0 l1 S h => zD_sip (n := 128) (by decide +kernel) (by decide +kernel),
  fun l0 l1 n r h hx => zD_anew (i := 10) (ci := 7) (q := (117, 119, 45)) (by decide +kernel) (by decide +kernel) rfl hx,
  fun l0 l1 x r h => zD_st1 (k := 0) (ins := .astore_n 0) (len := 1) (by decide +kernel) rfl rfl rfl (by decide +kernel) rfl rfl,
  fun l0 l1 r h => zD_st1 (k := 0) (ins := .astore_n 0) (len := 1) (by decide +kernel) rfl rfl rfl (by decide +kernel) rfl rfl,
  fun l0 l1 S h => zD_icst (n := 0) (by decide +kernel) (by decide +kernel),
  fun l0 l1 x r h => zD_st1 (k := 1) (ins := .istore_n 1) (len := 1) (by decide +kernel) rfl rfl rfl (by decide +kernel) rfl rfl,
  fun l0 l1 S h => zD_sip (n := 128) (by decide +kernel) (by decide +kernel),
  fun l0 l1 x y r h => zD_if (cnd := .ge) (off := 19) (by decide +kernel) (by decide) rfl,
  fun l1 x S h => zD_op (ins := .aload_n 0) (len := 1) (c := (17, [some (.ref x), l1], (.ref x :: S), h)) (by decide +kernel) rfl rfl rfl rfl,
  fun l0 x S h => zD_op (ins := .iload_n 1) (len := 1) (c := (18, [l0, some (.int x)], (.int x :: S), h)) (by decide +kernel) rfl rfl rfl rfl,
  fun l0 l1 S h => zD_new (i := 10) (ci := 7) (q := (117, 119, 45)) (by decide +kernel) (by decide +kernel) rfl rfl,
  fun l0 l1 x r h => zD_op (ins := .dup) (len := 1) (c := (22, [l0, l1], (.int x :: .int x :: r), h)) (by decide +kernel) rfl rfl rfl rfl,
  fun l0 l1 x r h => zD_op (ins := .dup) (len := 1) (c := (22, [l0, l1], (.ref x :: .ref x :: r), h)) (by decide +kernel) rfl rfl rfl rfl,
  fun l0 l1 a r h hcat hC => zD_calli (i := 19) (y := 101) (n := 0) (as := []) (by decide +kernel) (by decide +kernel) rfl (by decide +kernel) (Nat.le_of_ble_eq_true rfl) hcat hC,
  fun l0 l1 w i a r h hx hw => zD_aast (by decide +kernel) hx hw,
  fun l0 l1 i a r h hx => zD_aastn (by decide +kernel) hx,
  fun l0 x S h => zD_iinc (k := 1) (x := x) (c := (1 : Int32)) (n := 1) (by decide +kernel) (by decide +kernel) rfl (by decide +kernel) rfl,
  fun l0 l1 S h => zD_goto (off := (-20)) (by decide +kernel) (by decide),
  fun l1 x S h => zD_op (ins := .aload_n 0) (len := 1) (c := (33, [some (.ref x), l1], (.ref x :: S), h)) (by decide +kernel) rfl rfl rfl rfl,
  fun l0 l1 v h => zD_areta (by decide +kernel) rfl⟩
set_option maxRecDepth 100000 in
theorem E_X8_rows_h9 : (∀ (l0 : Option Value) (x : Int32) (S : List Value) (h : zH), zD 134 9 [l0, some (.int x)] S h = zD 134 10 [l0, some (.int x)] (.int x :: S) h) :=
  fun l0 x S h => zD_op (ins := .iload_n 1) (len := 1) (c := (10, [l0, some (.int x)], (.int x :: S), h)) (by decide +kernel) rfl rfl rfl rfl
set_option maxRecDepth 100000 in
theorem I_X8_rows : (∀ (h : zH), zC 134 [] h = zD 134 0 [none, none] [] h) :=
  fun h => zC_def rfl
