set_option maxRecDepth 100000 in
theorem E_X9_digest : (∀ (l0 l1 l2 l3 : Option Value) (S : List Value) (h : zH), zD 112 0 [l0, l1, l2, l3] S h = zD 112 3 [l0, l1, l2, l3] (.long (139 : Int64) :: S) h) ∧
  (∀ (l1 l2 l3 : Option Value) (x : Nat) (S : List Value) (h : zH), zD 112 3 [some (.ref x), l1, l2, l3] S h = zD 112 4 [some (.ref x), l1, l2, l3] (.ref x :: S) h) ∧
  (∀ (l0 l1 l2 l3 : Option Value) (a : Nat) (r : List Value) (h : zH) (hx : zfok (h.2.2 a) 8 0 = true), zD 112 4 [l0, l1, l2, l3] (.ref a :: r) h = zD 112 7 [l0, l1, l2, l3] (zfv (h.2.2 a) 0 :: r) h) ∧
  (∀ (l0 l1 l2 l3 : Option Value) (a : Nat) (r : List Value) (h : zH) (hx : zfok (h.2.2 a) 3 2 = true), zD 112 7 [l0, l1, l2, l3] (.ref a :: r) h = zD 112 10 [l0, l1, l2, l3] (zfv (h.2.2 a) 2 :: r) h) ∧
  (∀ (l0 l1 l2 l3 : Option Value) (p0 : Int64) (p1 : Int32) (r : List Value) (h : zH) (hcat : zcat r ≤ 8) (hC : (zC 22 [.long p0, .int p1] h).isSome = true), zD 112 10 [l0, l1, l2, l3] (.int p1 :: .long p0 :: r) h = zD 112 13 [l0, l1, l2, l3] (zgv (zC 22 [.long p0, .int p1] h) ++ r) (zgh h (zC 22 [.long p0, .int p1] h))) ∧
  (∀ (l0 l1 l2 l3 : Option Value) (x : Int64) (r : List Value) (h : zH), zD 112 13 [l0, l1, l2, l3] (.long x :: r) h = zD 112 14 [zclr l0, some (.long x), none, l3] r h) ∧
  (∀ (l0 l1 l2 l3 : Option Value) (S : List Value) (h : zH), zD 112 14 [l0, l1, l2, l3] S h = zD 112 15 [l0, l1, l2, l3] (.int (1 : Int32) :: S) h) ∧
  (∀ (l0 l1 l2 l3 : Option Value) (x : Int32) (r : List Value) (h : zH), zD 112 15 [l0, l1, l2, l3] (.int x :: r) h = zD 112 16 [l0, l1, zclr l2, some (.int x)] r h) ∧
  (∀ (l1 l2 l3 : Option Value) (x : Nat) (S : List Value) (h : zH), zD 112 17 [some (.ref x), l1, l2, l3] S h = zD 112 18 [some (.ref x), l1, l2, l3] (.ref x :: S) h) ∧
  (∀ (l0 l1 l2 l3 : Option Value) (a : Nat) (r : List Value) (h : zH) (hx : zfok (h.2.2 a) 8 0 = true), zD 112 18 [l0, l1, l2, l3] (.ref a :: r) h = zD 112 21 [l0, l1, l2, l3] (zfv (h.2.2 a) 0 :: r) h) ∧
  (∀ (l0 l1 l2 l3 : Option Value) (a : Nat) (r : List Value) (h : zH) (hx : zfok (h.2.2 a) 3 2 = true), zD 112 21 [l0, l1, l2, l3] (.ref a :: r) h = zD 112 24 [l0, l1, l2, l3] (zfv (h.2.2 a) 2 :: r) h) ∧
  (∀ (l0 l1 l2 l3 : Option Value) (x y : Int32) (r : List Value) (h : zH), zD 112 24 [l0, l1, l2, l3] (.int y :: .int x :: r) h = if y < x then zD 112 66 [l0, l1, l2, l3] r h else zD 112 27 [l0, l1, l2, l3] r h) ∧
  (∀ (l0 l2 l3 : Option Value) (x : Int64) (S : List Value) (h : zH), zD 112 27 [l0, some (.long x), l2, l3] S h = zD 112 28 [l0, some (.long x), l2, l3] (.long x :: S) h) ∧
  (∀ (l1 l2 l3 : Option Value) (x : Nat) (S : List Value) (h : zH), zD 112 28 [some (.ref x), l1, l2, l3] S h = zD 112 29 [some (.ref x), l1, l2, l3] (.ref x :: S) h) ∧
  (∀ (l0 l1 l2 l3 : Option Value) (a : Nat) (r : List Value) (h : zH) (hx : zfok (h.2.2 a) 8 0 = true), zD 112 29 [l0, l1, l2, l3] (.ref a :: r) h = zD 112 32 [l0, l1, l2, l3] (zfv (h.2.2 a) 0 :: r) h) ∧
  (∀ (l0 l1 l2 l3 : Option Value) (a : Nat) (r : List Value) (h : zH) (hx : zfok (h.2.2 a) 3 0 = true), zD 112 32 [l0, l1, l2, l3] (.ref a :: r) h = zD 112 35 [l0, l1, l2, l3] (zfv (h.2.2 a) 0 :: r) h) ∧
  (∀ (l0 l1 l2 : Option Value) (x : Int32) (S : List Value) (h : zH), zD 112 35 [l0, l1, l2, some (.int x)] S h = zD 112 36 [l0, l1, l2, some (.int x)] (.int x :: S) h) ∧
  (∀ (l0 l1 l2 l3 : Option Value) (i : Int32) (a : Nat) (r : List Value) (h : zH) (hx : ziok a (h.2.2 a) i = true), zD 112 36 [l0, l1, l2, l3] (.int i :: .ref a :: r) h = zD 112 37 [l0, l1, l2, l3] (.int (ziv (h.2.2 a) i) :: r) h) ∧
  (∀ (l0 l1 l2 l3 : Option Value) (p0 : Int64) (p1 : Int32) (r : List Value) (h : zH) (hcat : zcat r ≤ 8) (hC : (zC 22 [.long p0, .int p1] h).isSome = true), zD 112 37 [l0, l1, l2, l3] (.int p1 :: .long p0 :: r) h = zD 112 40 [l0, l1, l2, l3] (zgv (zC 22 [.long p0, .int p1] h) ++ r) (zgh h (zC 22 [.long p0, .int p1] h))) ∧
  (∀ (l1 l2 l3 : Option Value) (x : Nat) (S : List Value) (h : zH), zD 112 40 [some (.ref x), l1, l2, l3] S h = zD 112 41 [some (.ref x), l1, l2, l3] (.ref x :: S) h) ∧
  (∀ (l0 l1 l2 l3 : Option Value) (a : Nat) (r : List Value) (h : zH) (hx : zfok (h.2.2 a) 8 0 = true), zD 112 41 [l0, l1, l2, l3] (.ref a :: r) h = zD 112 44 [l0, l1, l2, l3] (zfv (h.2.2 a) 0 :: r) h) ∧
  (∀ (l0 l1 l2 l3 : Option Value) (a : Nat) (r : List Value) (h : zH) (hx : zfok (h.2.2 a) 3 1 = true), zD 112 44 [l0, l1, l2, l3] (.ref a :: r) h = zD 112 47 [l0, l1, l2, l3] (zfv (h.2.2 a) 1 :: r) h) ∧
  (∀ (l0 l1 l2 : Option Value) (x : Int32) (S : List Value) (h : zH), zD 112 47 [l0, l1, l2, some (.int x)] S h = zD 112 48 [l0, l1, l2, some (.int x)] (.int x :: S) h) ∧
  (∀ (l0 l1 l2 l3 : Option Value) (i : Int32) (a : Nat) (r : List Value) (h : zH) (hx : ziok a (h.2.2 a) i = true), zD 112 48 [l0, l1, l2, l3] (.int i :: .ref a :: r) h = zD 112 49 [l0, l1, l2, l3] (.int (ziv (h.2.2 a) i) :: r) h) ∧
  (∀ (l0 l1 l2 l3 : Option Value) (p0 : Int64) (p1 : Int32) (r : List Value) (h : zH) (hcat : zcat r ≤ 8) (hC : (zC 22 [.long p0, .int p1] h).isSome = true), zD 112 49 [l0, l1, l2, l3] (.int p1 :: .long p0 :: r) h = zD 112 52 [l0, l1, l2, l3] (zgv (zC 22 [.long p0, .int p1] h) ++ r) (zgh h (zC 22 [.long p0, .int p1] h))) ∧
  (∀ (l0 l1 l2 l3 : Option Value) (x : Int64) (r : List Value) (h : zH), zD 112 52 [l0, l1, l2, l3] (.long x :: r) h = zD 112 53 [zclr l0, some (.long x), none, l3] r h) ∧
  (∀ (l1 l2 l3 : Option Value) (x : Nat) (S : List Value) (h : zH), zD 112 53 [some (.ref x), l1, l2, l3] S h = zD 112 54 [some (.ref x), l1, l2, l3] (.ref x :: S) h) ∧
  (∀ (l0 l2 l3 : Option Value) (x : Int64) (S : List Value) (h : zH), zD 112 54 [l0, some (.long x), l2, l3] S h = zD 112 55 [l0, some (.long x), l2, l3] (.long x :: S) h) ∧
  (∀ (l0 l1 l2 : Option Value) (x : Int32) (S : List Value) (h : zH), zD 112 55 [l0, l1, l2, some (.int x)] S h = zD 112 56 [l0, l1, l2, some (.int x)] (.int x :: S) h) ∧
  (∀ (l0 l1 l2 l3 : Option Value) (p0 : Int64) (p1 : Int32) (a : Nat) (r : List Value) (h : zH) (hcat : zcat r ≤ 8) (hr : zis (h.2.2 a) 8 = true) (hC : (zC 74 (.ref a :: [.long p0, .int p1]) h).isSome = true), zD 112 56 [l0, l1, l2, l3] (.int p1 :: .long p0 :: .ref a :: r) h = zD 112 59 [l0, l1, l2, l3] (zgv (zC 74 (.ref a :: [.long p0, .int p1]) h) ++ r) (zgh h (zC 74 (.ref a :: [.long p0, .int p1]) h))) ∧
  (∀ (l0 l1 l2 l3 : Option Value) (x : Int64) (r : List Value) (h : zH), zD 112 59 [l0, l1, l2, l3] (.long x :: r) h = zD 112 60 [zclr l0, some (.long x), none, l3] r h) ∧
  (∀ (l0 l1 l2 : Option Value) (x : Int32) (S : List Value) (h : zH), zD 112 60 [l0, l1, l2, some (.int x)] S h = zD 112 63 [l0, l1, zclr l2, some (.int (x + (1 : Int32)))] S h) ∧
  (∀ (l0 l1 l2 l3 : Option Value) (S : List Value) (h : zH), zD 112 63 [l0, l1, l2, l3] S h = zD 112 16 [l0, l1, l2, l3] S h) ∧
  (∀ (l0 l1 l2 l3 : Option Value) (S : List Value) (h : zH), zD 112 66 [l0, l1, l2, l3] S h = zD 112 67 [l0, l1, l2, l3] (.int (0 : Int32) :: S) h) ∧
  (∀ (l0 l1 l2 l3 : Option Value) (x : Int32) (r : List Value) (h : zH), zD 112 67 [l0, l1, l2, l3] (.int x :: r) h = zD 112 68 [l0, l1, zclr l2, some (.int x)] r h) ∧
  (∀ (l1 l2 l3 : Option Value) (x : Nat) (S : List Value) (h : zH), zD 112 69 [some (.ref x), l1, l2, l3] S h = zD 112 70 [some (.ref x), l1, l2, l3] (.ref x :: S) h) ∧
  (∀ (l0 l1 l2 l3 : Option Value) (a : Nat) (r : List Value) (h : zH) (hx : zfok (h.2.2 a) 8 4 = true), zD 112 70 [l0, l1, l2, l3] (.ref a :: r) h = zD 112 73 [l0, l1, l2, l3] (zfv (h.2.2 a) 4 :: r) h) ∧
  (∀ (l0 l1 l2 l3 : Option Value) (a : Nat) (r : List Value) (h : zH) (hx : zfok (h.2.2 a) 1 1 = true), zD 112 73 [l0, l1, l2, l3] (.ref a :: r) h = zD 112 76 [l0, l1, l2, l3] (zfv (h.2.2 a) 1 :: r) h) ∧
  (∀ (l0 l1 l2 l3 : Option Value) (x y : Int32) (r : List Value) (h : zH), zD 112 76 [l0, l1, l2, l3] (.int y :: .int x :: r) h = if y ≤ x then zD 112 98 [l0, l1, l2, l3] r h else zD 112 79 [l0, l1, l2, l3] r h) ∧
  (∀ (l0 l2 l3 : Option Value) (x : Int64) (S : List Value) (h : zH), zD 112 79 [l0, some (.long x), l2, l3] S h = zD 112 80 [l0, some (.long x), l2, l3] (.long x :: S) h) ∧
  (∀ (l1 l2 l3 : Option Value) (x : Nat) (S : List Value) (h : zH), zD 112 80 [some (.ref x), l1, l2, l3] S h = zD 112 81 [some (.ref x), l1, l2, l3] (.ref x :: S) h) ∧
  (∀ (l0 l1 l2 l3 : Option Value) (a : Nat) (r : List Value) (h : zH) (hx : zfok (h.2.2 a) 8 4 = true), zD 112 81 [l0, l1, l2, l3] (.ref a :: r) h = zD 112 84 [l0, l1, l2, l3] (zfv (h.2.2 a) 4 :: r) h) ∧
  (∀ (l0 l1 l2 : Option Value) (x : Int32) (S : List Value) (h : zH), zD 112 84 [l0, l1, l2, some (.int x)] S h = zD 112 85 [l0, l1, l2, some (.int x)] (.int x :: S) h) ∧
  (∀ (l0 l1 l2 l3 : Option Value) (p0 : Int32) (a : Nat) (r : List Value) (h : zH) (hcat : zcat r ≤ 8) (hr : zis (h.2.2 a) 1 = true) (hC : (zC 1 (.ref a :: [.int p0]) h).isSome = true), zD 112 85 [l0, l1, l2, l3] (.int p0 :: .ref a :: r) h = zD 112 88 [l0, l1, l2, l3] (zgv (zC 1 (.ref a :: [.int p0]) h) ++ r) (zgh h (zC 1 (.ref a :: [.int p0]) h))) ∧
  (∀ (l0 l1 l2 l3 : Option Value) (p0 : Int64) (p1 : Nat) (r : List Value) (h : zH) (hcat : zcat r ≤ 8) (hC : (zC 75 [.long p0, .ref p1] h).isSome = true), zD 112 88 [l0, l1, l2, l3] (.ref p1 :: .long p0 :: r) h = zD 112 91 [l0, l1, l2, l3] (zgv (zC 75 [.long p0, .ref p1] h) ++ r) (zgh h (zC 75 [.long p0, .ref p1] h))) ∧
  (∀ (l0 l1 l2 l3 : Option Value) (p0 : Int64) (r : List Value) (h : zH) (hcat : zcat r ≤ 8) (hC : (zC 75 [.long p0, .null] h).isSome = true), zD 112 88 [l0, l1, l2, l3] (.null :: .long p0 :: r) h = zD 112 91 [l0, l1, l2, l3] (zgv (zC 75 [.long p0, .null] h) ++ r) (zgh h (zC 75 [.long p0, .null] h))) ∧
  (∀ (l0 l1 l2 l3 : Option Value) (x : Int64) (r : List Value) (h : zH), zD 112 91 [l0, l1, l2, l3] (.long x :: r) h = zD 112 92 [zclr l0, some (.long x), none, l3] r h) ∧
  (∀ (l0 l1 l2 : Option Value) (x : Int32) (S : List Value) (h : zH), zD 112 92 [l0, l1, l2, some (.int x)] S h = zD 112 95 [l0, l1, zclr l2, some (.int (x + (1 : Int32)))] S h) ∧
  (∀ (l0 l1 l2 l3 : Option Value) (S : List Value) (h : zH), zD 112 95 [l0, l1, l2, l3] S h = zD 112 68 [l0, l1, l2, l3] S h) ∧
  (∀ (l0 l1 l2 l3 : Option Value) (S : List Value) (h : zH), zD 112 98 [l0, l1, l2, l3] S h = zD 112 99 [l0, l1, l2, l3] (.int (0 : Int32) :: S) h) ∧
  (∀ (l0 l1 l2 l3 : Option Value) (x : Int32) (r : List Value) (h : zH), zD 112 99 [l0, l1, l2, l3] (.int x :: r) h = zD 112 100 [l0, l1, zclr l2, some (.int x)] r h) ∧
  (∀ (l1 l2 l3 : Option Value) (x : Nat) (S : List Value) (h : zH), zD 112 101 [some (.ref x), l1, l2, l3] S h = zD 112 102 [some (.ref x), l1, l2, l3] (.ref x :: S) h) ∧
  (∀ (l0 l1 l2 l3 : Option Value) (a : Nat) (r : List Value) (h : zH) (hx : zfok (h.2.2 a) 8 6 = true), zD 112 102 [l0, l1, l2, l3] (.ref a :: r) h = zD 112 105 [l0, l1, l2, l3] (zfv (h.2.2 a) 6 :: r) h) ∧
  (∀ (l0 l1 l2 l3 : Option Value) (a : Nat) (r : List Value) (h : zH) (hx : zfok (h.2.2 a) 4 3 = true), zD 112 105 [l0, l1, l2, l3] (.ref a :: r) h = zD 112 108 [l0, l1, l2, l3] (zfv (h.2.2 a) 3 :: r) h) ∧
  (∀ (l0 l1 l2 l3 : Option Value) (x y : Int32) (r : List Value) (h : zH), zD 112 108 [l0, l1, l2, l3] (.int y :: .int x :: r) h = if y ≤ x then zD 112 157 [l0, l1, l2, l3] r h else zD 112 111 [l0, l1, l2, l3] r h) ∧
  (∀ (l0 l2 l3 : Option Value) (x : Int64) (S : List Value) (h : zH), zD 112 111 [l0, some (.long x), l2, l3] S h = zD 112 112 [l0, some (.long x), l2, l3] (.long x :: S) h) ∧
  (∀ (l1 l2 l3 : Option Value) (x : Nat) (S : List Value) (h : zH), zD 112 112 [some (.ref x), l1, l2, l3] S h = zD 112 113 [some (.ref x), l1, l2, l3] (.ref x :: S) h) ∧
  (∀ (l0 l1 l2 l3 : Option Value) (a : Nat) (r : List Value) (h : zH) (hx : zfok (h.2.2 a) 8 6 = true), zD 112 113 [l0, l1, l2, l3] (.ref a :: r) h = zD 112 116 [l0, l1, l2, l3] (zfv (h.2.2 a) 6 :: r) h) ∧
  (∀ (l0 l1 l2 l3 : Option Value) (a : Nat) (r : List Value) (h : zH) (hx : zfok (h.2.2 a) 4 0 = true), zD 112 116 [l0, l1, l2, l3] (.ref a :: r) h = zD 112 119 [l0, l1, l2, l3] (zfv (h.2.2 a) 0 :: r) h) ∧
  (∀ (l0 l1 l2 : Option Value) (x : Int32) (S : List Value) (h : zH), zD 112 119 [l0, l1, l2, some (.int x)] S h = zD 112 120 [l0, l1, l2, some (.int x)] (.int x :: S) h) ∧
  (∀ (l0 l1 l2 l3 : Option Value) (i : Int32) (a : Nat) (r : List Value) (h : zH) (hx : ziok a (h.2.2 a) i = true), zD 112 120 [l0, l1, l2, l3] (.int i :: .ref a :: r) h = zD 112 121 [l0, l1, l2, l3] (.int (ziv (h.2.2 a) i) :: r) h) ∧
  (∀ (l0 l1 l2 l3 : Option Value) (p0 : Int64) (p1 : Int32) (r : List Value) (h : zH) (hcat : zcat r ≤ 8) (hC : (zC 22 [.long p0, .int p1] h).isSome = true), zD 112 121 [l0, l1, l2, l3] (.int p1 :: .long p0 :: r) h = zD 112 124 [l0, l1, l2, l3] (zgv (zC 22 [.long p0, .int p1] h) ++ r) (zgh h (zC 22 [.long p0, .int p1] h))) ∧
  (∀ (l0 l1 l2 l3 : Option Value) (x : Int64) (r : List Value) (h : zH), zD 112 124 [l0, l1, l2, l3] (.long x :: r) h = zD 112 125 [zclr l0, some (.long x), none, l3] r h) ∧
  (∀ (l0 l2 l3 : Option Value) (x : Int64) (S : List Value) (h : zH), zD 112 125 [l0, some (.long x), l2, l3] S h = zD 112 126 [l0, some (.long x), l2, l3] (.long x :: S) h) ∧
  (∀ (l1 l2 l3 : Option Value) (x : Nat) (S : List Value) (h : zH), zD 112 126 [some (.ref x), l1, l2, l3] S h = zD 112 127 [some (.ref x), l1, l2, l3] (.ref x :: S) h) ∧
  (∀ (l0 l1 l2 l3 : Option Value) (a : Nat) (r : List Value) (h : zH) (hx : zfok (h.2.2 a) 8 6 = true), zD 112 127 [l0, l1, l2, l3] (.ref a :: r) h = zD 112 130 [l0, l1, l2, l3] (zfv (h.2.2 a) 6 :: r) h) ∧
  (∀ (l0 l1 l2 l3 : Option Value) (a : Nat) (r : List Value) (h : zH) (hx : zfok (h.2.2 a) 4 1 = true), zD 112 130 [l0, l1, l2, l3] (.ref a :: r) h = zD 112 133 [l0, l1, l2, l3] (zfv (h.2.2 a) 1 :: r) h) ∧
  (∀ (l0 l1 l2 : Option Value) (x : Int32) (S : List Value) (h : zH), zD 112 133 [l0, l1, l2, some (.int x)] S h = zD 112 134 [l0, l1, l2, some (.int x)] (.int x :: S) h) ∧
  (∀ (l0 l1 l2 l3 : Option Value) (i : Int32) (a : Nat) (r : List Value) (h : zH) (hx : ziok a (h.2.2 a) i = true), zD 112 134 [l0, l1, l2, l3] (.int i :: .ref a :: r) h = zD 112 135 [l0, l1, l2, l3] (.int (ziv (h.2.2 a) i) :: r) h) ∧
  (∀ (l0 l1 l2 l3 : Option Value) (p0 : Int64) (p1 : Int32) (r : List Value) (h : zH) (hcat : zcat r ≤ 8) (hC : (zC 22 [.long p0, .int p1] h).isSome = true), zD 112 135 [l0, l1, l2, l3] (.int p1 :: .long p0 :: r) h = zD 112 138 [l0, l1, l2, l3] (zgv (zC 22 [.long p0, .int p1] h) ++ r) (zgh h (zC 22 [.long p0, .int p1] h))) ∧
  (∀ (l1 l2 l3 : Option Value) (x : Nat) (S : List Value) (h : zH), zD 112 138 [some (.ref x), l1, l2, l3] S h = zD 112 139 [some (.ref x), l1, l2, l3] (.ref x :: S) h) ∧
  (∀ (l0 l1 l2 l3 : Option Value) (a : Nat) (r : List Value) (h : zH) (hx : zfok (h.2.2 a) 8 6 = true), zD 112 139 [l0, l1, l2, l3] (.ref a :: r) h = zD 112 142 [l0, l1, l2, l3] (zfv (h.2.2 a) 6 :: r) h) ∧
  (∀ (l0 l1 l2 l3 : Option Value) (a : Nat) (r : List Value) (h : zH) (hx : zfok (h.2.2 a) 4 2 = true), zD 112 142 [l0, l1, l2, l3] (.ref a :: r) h = zD 112 145 [l0, l1, l2, l3] (zfv (h.2.2 a) 2 :: r) h) ∧
  (∀ (l0 l1 l2 : Option Value) (x : Int32) (S : List Value) (h : zH), zD 112 145 [l0, l1, l2, some (.int x)] S h = zD 112 146 [l0, l1, l2, some (.int x)] (.int x :: S) h) ∧
  (∀ (l0 l1 l2 l3 : Option Value) (i : Int32) (a : Nat) (r : List Value) (h : zH) (hx : ziok a (h.2.2 a) i = true), zD 112 146 [l0, l1, l2, l3] (.int i :: .ref a :: r) h = zD 112 147 [l0, l1, l2, l3] (.int (ziv (h.2.2 a) i) :: r) h) ∧
  (∀ (l0 l1 l2 l3 : Option Value) (p0 : Int64) (p1 : Int32) (r : List Value) (h : zH) (hcat : zcat r ≤ 8) (hC : (zC 22 [.long p0, .int p1] h).isSome = true), zD 112 147 [l0, l1, l2, l3] (.int p1 :: .long p0 :: r) h = zD 112 150 [l0, l1, l2, l3] (zgv (zC 22 [.long p0, .int p1] h) ++ r) (zgh h (zC 22 [.long p0, .int p1] h))) ∧
  (∀ (l0 l1 l2 l3 : Option Value) (x : Int64) (r : List Value) (h : zH), zD 112 150 [l0, l1, l2, l3] (.long x :: r) h = zD 112 151 [zclr l0, some (.long x), none, l3] r h) ∧
  (∀ (l0 l1 l2 : Option Value) (x : Int32) (S : List Value) (h : zH), zD 112 151 [l0, l1, l2, some (.int x)] S h = zD 112 154 [l0, l1, zclr l2, some (.int (x + (1 : Int32)))] S h) ∧
  (∀ (l0 l1 l2 l3 : Option Value) (S : List Value) (h : zH), zD 112 154 [l0, l1, l2, l3] S h = zD 112 100 [l0, l1, l2, l3] S h) ∧
  (∀ (l0 l2 l3 : Option Value) (x : Int64) (S : List Value) (h : zH), zD 112 157 [l0, some (.long x), l2, l3] S h = zD 112 158 [l0, some (.long x), l2, l3] (.long x :: S) h) ∧
  (∀ (l0 l1 l2 l3 : Option Value) (v : Int64) (h : zH), zD 112 158 [l0, l1, l2, l3] [.long v] h = some (some (.long v), h)) :=
  ⟨fun l0 l1 l2 l3 S h => zD_ldc2 (i := 250) (q := 693) (by decide +kernel) (by decide +kernel),
  fun l1 l2 l3 x S h => zD_op (ins := .aload_n 0) (len := 1) (c := (4, [some (.ref x), l1, l2, l3], (.ref x :: S), h)) (by decide +kernel) rfl rfl rfl rfl,
  fun l0 l1 l2 l3 a r h hx => zD_getf (i := 12) (ci := 8) (k := 0) (q := (248, 0)) (by decide +kernel) (by decide +kernel) hx,
  fun l0 l1 l2 l3 a r h hx => zD_getf (i := 166) (ci := 3) (k := 2) (q := (90, 1)) (by decide +kernel) (by decide +kernel) hx,
  fun l0 l1 l2 l3 p0 p1 r h hcat hC => zD_calls (i := 252) (y := 22) (n := 2) (as := [.long p0, .int p1]) (by decide +kernel) (by decide +kernel) rfl (by decide +kernel) (Nat.le_of_ble_eq_true rfl) hcat hC,
  fun l0 l1 l2 l3 x r h => zD_st2 (k := 1) (ins := .lstore_n 1) (len := 1) (by decide +kernel) rfl rfl rfl (by decide +kernel) rfl rfl,
  fun l0 l1 l2 l3 S h => zD_icst (n := 1) (by decide +kernel) (by decide +kernel),
  fun l0 l1 l2 l3 x r h => zD_st1 (k := 3) (ins := .istore_n 3) (len := 1) (by decide +kernel) rfl rfl rfl (by decide +kernel) rfl rfl,
  fun l1 l2 l3 x S h => zD_op (ins := .aload_n 0) (len := 1) (c := (18, [some (.ref x), l1, l2, l3], (.ref x :: S), h)) (by decide +kernel) rfl rfl rfl rfl,
  fun l0 l1 l2 l3 a r h hx => zD_getf (i := 12) (ci := 8) (k := 0) (q := (248, 0)) (by decide +kernel) (by decide +kernel) hx,
  fun l0 l1 l2 l3 a r h hx => zD_getf (i := 166) (ci := 3) (k := 2) (q := (90, 1)) (by decide +kernel) (by decide +kernel) hx,
  fun l0 l1 l2 l3 x y r h => zD_if (cnd := .gt) (off := 42) (by decide +kernel) (by decide) rfl,
  fun l0 l2 l3 x S h => zD_op (ins := .lload_n 1) (len := 1) (c := (28, [l0, some (.long x), l2, l3], (.long x :: S), h)) (by decide +kernel) rfl rfl rfl rfl,
  fun l1 l2 l3 x S h => zD_op (ins := .aload_n 0) (len := 1) (c := (29, [some (.ref x), l1, l2, l3], (.ref x :: S), h)) (by decide +kernel) rfl rfl rfl rfl,
  fun l0 l1 l2 l3 a r h hx => zD_getf (i := 12) (ci := 8) (k := 0) (q := (248, 0)) (by decide +kernel) (by decide +kernel) hx,
  fun l0 l1 l2 l3 a r h hx => zD_getf (i := 79) (ci := 3) (k := 0) (q := (79, 1)) (by decide +kernel) (by decide +kernel) hx,
  fun l0 l1 l2 x S h => zD_op (ins := .iload_n 3) (len := 1) (c := (36, [l0, l1, l2, some (.int x)], (.int x :: S), h)) (by decide +kernel) rfl rfl rfl rfl,
  fun l0 l1 l2 l3 i a r h hx => zD_iald (by decide +kernel) hx,
  fun l0 l1 l2 l3 p0 p1 r h hcat hC => zD_calls (i := 252) (y := 22) (n := 2) (as := [.long p0, .int p1]) (by decide +kernel) (by decide +kernel) rfl (by decide +kernel) (Nat.le_of_ble_eq_true rfl) hcat hC,
  fun l1 l2 l3 x S h => zD_op (ins := .aload_n 0) (len := 1) (c := (41, [some (.ref x), l1, l2, l3], (.ref x :: S), h)) (by decide +kernel) rfl rfl rfl rfl,
  fun l0 l1 l2 l3 a r h hx => zD_getf (i := 12) (ci := 8) (k := 0) (q := (248, 0)) (by decide +kernel) (by decide +kernel) hx,
  fun l0 l1 l2 l3 a r h hx => zD_getf (i := 100) (ci := 3) (k := 1) (q := (84, 1)) (by decide +kernel) (by decide +kernel) hx,
  fun l0 l1 l2 x S h => zD_op (ins := .iload_n 3) (len := 1) (c := (48, [l0, l1, l2, some (.int x)], (.int x :: S), h)) (by decide +kernel) rfl rfl rfl rfl,
  fun l0 l1 l2 l3 i a r h hx => zD_iald (by decide +kernel) hx,
  fun l0 l1 l2 l3 p0 p1 r h hcat hC => zD_calls (i := 252) (y := 22) (n := 2) (as := [.long p0, .int p1]) (by decide +kernel) (by decide +kernel) rfl (by decide +kernel) (Nat.le_of_ble_eq_true rfl) hcat hC,
  fun l0 l1 l2 l3 x r h => zD_st2 (k := 1) (ins := .lstore_n 1) (len := 1) (by decide +kernel) rfl rfl rfl (by decide +kernel) rfl rfl,
  fun l1 l2 l3 x S h => zD_op (ins := .aload_n 0) (len := 1) (c := (54, [some (.ref x), l1, l2, l3], (.ref x :: S), h)) (by decide +kernel) rfl rfl rfl rfl,
  fun l0 l2 l3 x S h => zD_op (ins := .lload_n 1) (len := 1) (c := (55, [l0, some (.long x), l2, l3], (.long x :: S), h)) (by decide +kernel) rfl rfl rfl rfl,
  fun l0 l1 l2 x S h => zD_op (ins := .iload_n 3) (len := 1) (c := (56, [l0, l1, l2, some (.int x)], (.int x :: S), h)) (by decide +kernel) rfl rfl rfl rfl,
  fun l0 l1 l2 l3 p0 p1 a r h hcat hr hC => zD_callv (i := 256) (y := 74) (n := 2) (as := [.long p0, .int p1]) (ci := 8) (by decide +kernel) (by decide +kernel) rfl (by decide +kernel) (Nat.le_of_ble_eq_true rfl) (by decide +kernel) hcat hr hC,
  fun l0 l1 l2 l3 x r h => zD_st2 (k := 1) (ins := .lstore_n 1) (len := 1) (by decide +kernel) rfl rfl rfl (by decide +kernel) rfl rfl,
  fun l0 l1 l2 x S h => zD_iinc (k := 3) (x := x) (c := (1 : Int32)) (n := 1) (by decide +kernel) (by decide +kernel) rfl (by decide +kernel) rfl,
  fun l0 l1 l2 l3 S h => zD_goto (off := (-47)) (by decide +kernel) (by decide),
  fun l0 l1 l2 l3 S h => zD_icst (n := 0) (by decide +kernel) (by decide +kernel),
  fun l0 l1 l2 l3 x r h => zD_st1 (k := 3) (ins := .istore_n 3) (len := 1) (by decide +kernel) rfl rfl rfl (by decide +kernel) rfl rfl,
  fun l1 l2 l3 x S h => zD_op (ins := .aload_n 0) (len := 1) (c := (70, [some (.ref x), l1, l2, l3], (.ref x :: S), h)) (by decide +kernel) rfl rfl rfl rfl,
  fun l0 l1 l2 l3 a r h hx => zD_getf (i := 48) (ci := 8) (k := 4) (q := (252, 0)) (by decide +kernel) (by decide +kernel) hx,
  fun l0 l1 l2 l3 a r h hx => zD_getf (i := 247) (ci := 1) (k := 1) (q := (186, 1)) (by decide +kernel) (by decide +kernel) hx,
  fun l0 l1 l2 l3 x y r h => zD_if (cnd := .ge) (off := 22) (by decide +kernel) (by decide) rfl,
  fun l0 l2 l3 x S h => zD_op (ins := .lload_n 1) (len := 1) (c := (80, [l0, some (.long x), l2, l3], (.long x :: S), h)) (by decide +kernel) rfl rfl rfl rfl,
  fun l1 l2 l3 x S h => zD_op (ins := .aload_n 0) (len := 1) (c := (81, [some (.ref x), l1, l2, l3], (.ref x :: S), h)) (by decide +kernel) rfl rfl rfl rfl,
  fun l0 l1 l2 l3 a r h hx => zD_getf (i := 48) (ci := 8) (k := 4) (q := (252, 0)) (by decide +kernel) (by decide +kernel) hx,
  fun l0 l1 l2 x S h => zD_op (ins := .iload_n 3) (len := 1) (c := (85, [l0, l1, l2, some (.int x)], (.int x :: S), h)) (by decide +kernel) rfl rfl rfl rfl,
  fun l0 l1 l2 l3 p0 a r h hcat hr hC => zD_callv (i := 192) (y := 1) (n := 1) (as := [.int p0]) (ci := 1) (by decide +kernel) (by decide +kernel) rfl (by decide +kernel) (Nat.le_of_ble_eq_true rfl) (by decide +kernel) hcat hr hC,
  fun l0 l1 l2 l3 p0 p1 r h hcat hC => zD_calls (i := 259) (y := 75) (n := 2) (as := [.long p0, .ref p1]) (by decide +kernel) (by decide +kernel) rfl (by decide +kernel) (Nat.le_of_ble_eq_true rfl) hcat hC,
  fun l0 l1 l2 l3 p0 r h hcat hC => zD_calls (i := 259) (y := 75) (n := 2) (as := [.long p0, .null]) (by decide +kernel) (by decide +kernel) rfl (by decide +kernel) (Nat.le_of_ble_eq_true rfl) hcat hC,
  fun l0 l1 l2 l3 x r h => zD_st2 (k := 1) (ins := .lstore_n 1) (len := 1) (by decide +kernel) rfl rfl rfl (by decide +kernel) rfl rfl,
  fun l0 l1 l2 x S h => zD_iinc (k := 3) (x := x) (c := (1 : Int32)) (n := 1) (by decide +kernel) (by decide +kernel) rfl (by decide +kernel) rfl,
  fun l0 l1 l2 l3 S h => zD_goto (off := (-27)) (by decide +kernel) (by decide),
  fun l0 l1 l2 l3 S h => zD_icst (n := 0) (by decide +kernel) (by decide +kernel),
  fun l0 l1 l2 l3 x r h => zD_st1 (k := 3) (ins := .istore_n 3) (len := 1) (by decide +kernel) rfl rfl rfl (by decide +kernel) rfl rfl,
  fun l1 l2 l3 x S h => zD_op (ins := .aload_n 0) (len := 1) (c := (102, [some (.ref x), l1, l2, l3], (.ref x :: S), h)) (by decide +kernel) rfl rfl rfl rfl,
  fun l0 l1 l2 l3 a r h hx => zD_getf (i := 62) (ci := 8) (k := 6) (q := (254, 0)) (by decide +kernel) (by decide +kernel) hx,
  fun l0 l1 l2 l3 a r h hx => zD_getf (i := 215) (ci := 4) (k := 3) (q := (219, 1)) (by decide +kernel) (by decide +kernel) hx,
  fun l0 l1 l2 l3 x y r h => zD_if (cnd := .ge) (off := 49) (by decide +kernel) (by decide) rfl,
  fun l0 l2 l3 x S h => zD_op (ins := .lload_n 1) (len := 1) (c := (112, [l0, some (.long x), l2, l3], (.long x :: S), h)) (by decide +kernel) rfl rfl rfl rfl,
  fun l1 l2 l3 x S h => zD_op (ins := .aload_n 0) (len := 1) (c := (113, [some (.ref x), l1, l2, l3], (.ref x :: S), h)) (by decide +kernel) rfl rfl rfl rfl,
  fun l0 l1 l2 l3 a r h hx => zD_getf (i := 62) (ci := 8) (k := 6) (q := (254, 0)) (by decide +kernel) (by decide +kernel) hx,
  fun l0 l1 l2 l3 a r h hx => zD_getf (i := 263) (ci := 4) (k := 0) (q := (213, 1)) (by decide +kernel) (by decide +kernel) hx,
  fun l0 l1 l2 x S h => zD_op (ins := .iload_n 3) (len := 1) (c := (120, [l0, l1, l2, some (.int x)], (.int x :: S), h)) (by decide +kernel) rfl rfl rfl rfl,
  fun l0 l1 l2 l3 i a r h hx => zD_iald (by decide +kernel) hx,
  fun l0 l1 l2 l3 p0 p1 r h hcat hC => zD_calls (i := 252) (y := 22) (n := 2) (as := [.long p0, .int p1]) (by decide +kernel) (by decide +kernel) rfl (by decide +kernel) (Nat.le_of_ble_eq_true rfl) hcat hC,
  fun l0 l1 l2 l3 x r h => zD_st2 (k := 1) (ins := .lstore_n 1) (len := 1) (by decide +kernel) rfl rfl rfl (by decide +kernel) rfl rfl,
  fun l0 l2 l3 x S h => zD_op (ins := .lload_n 1) (len := 1) (c := (126, [l0, some (.long x), l2, l3], (.long x :: S), h)) (by decide +kernel) rfl rfl rfl rfl,
  fun l1 l2 l3 x S h => zD_op (ins := .aload_n 0) (len := 1) (c := (127, [some (.ref x), l1, l2, l3], (.ref x :: S), h)) (by decide +kernel) rfl rfl rfl rfl,
  fun l0 l1 l2 l3 a r h hx => zD_getf (i := 62) (ci := 8) (k := 6) (q := (254, 0)) (by decide +kernel) (by decide +kernel) hx,
  fun l0 l1 l2 l3 a r h hx => zD_getf (i := 266) (ci := 4) (k := 1) (q := (215, 1)) (by decide +kernel) (by decide +kernel) hx,
  fun l0 l1 l2 x S h => zD_op (ins := .iload_n 3) (len := 1) (c := (134, [l0, l1, l2, some (.int x)], (.int x :: S), h)) (by decide +kernel) rfl rfl rfl rfl,
  fun l0 l1 l2 l3 i a r h hx => zD_iald (by decide +kernel) hx,
  fun l0 l1 l2 l3 p0 p1 r h hcat hC => zD_calls (i := 252) (y := 22) (n := 2) (as := [.long p0, .int p1]) (by decide +kernel) (by decide +kernel) rfl (by decide +kernel) (Nat.le_of_ble_eq_true rfl) hcat hC,
  fun l1 l2 l3 x S h => zD_op (ins := .aload_n 0) (len := 1) (c := (139, [some (.ref x), l1, l2, l3], (.ref x :: S), h)) (by decide +kernel) rfl rfl rfl rfl,
  fun l0 l1 l2 l3 a r h hx => zD_getf (i := 62) (ci := 8) (k := 6) (q := (254, 0)) (by decide +kernel) (by decide +kernel) hx,
  fun l0 l1 l2 l3 a r h hx => zD_getf (i := 269) (ci := 4) (k := 2) (q := (217, 1)) (by decide +kernel) (by decide +kernel) hx,
  fun l0 l1 l2 x S h => zD_op (ins := .iload_n 3) (len := 1) (c := (146, [l0, l1, l2, some (.int x)], (.int x :: S), h)) (by decide +kernel) rfl rfl rfl rfl,
  fun l0 l1 l2 l3 i a r h hx => zD_iald (by decide +kernel) hx,
  fun l0 l1 l2 l3 p0 p1 r h hcat hC => zD_calls (i := 252) (y := 22) (n := 2) (as := [.long p0, .int p1]) (by decide +kernel) (by decide +kernel) rfl (by decide +kernel) (Nat.le_of_ble_eq_true rfl) hcat hC,
  fun l0 l1 l2 l3 x r h => zD_st2 (k := 1) (ins := .lstore_n 1) (len := 1) (by decide +kernel) rfl rfl rfl (by decide +kernel) rfl rfl,
  fun l0 l1 l2 x S h => zD_iinc (k := 3) (x := x) (c := (1 : Int32)) (n := 1) (by decide +kernel) (by decide +kernel) rfl (by decide +kernel) rfl,
  fun l0 l1 l2 l3 S h => zD_goto (off := (-54)) (by decide +kernel) (by decide),
  fun l0 l2 l3 x S h => zD_op (ins := .lload_n 1) (len := 1) (c := (158, [l0, some (.long x), l2, l3], (.long x :: S), h)) (by decide +kernel) rfl rfl rfl rfl,
  fun l0 l1 l2 l3 v h => zD_lret (by decide +kernel) rfl⟩
set_option maxRecDepth 100000 in
theorem E_X9_digest_h16 : (∀ (l0 l1 l2 : Option Value) (x : Int32) (S : List Value) (h : zH), zD 112 16 [l0, l1, l2, some (.int x)] S h = zD 112 17 [l0, l1, l2, some (.int x)] (.int x :: S) h) :=
  fun l0 l1 l2 x S h => zD_op (ins := .iload_n 3) (len := 1) (c := (17, [l0, l1, l2, some (.int x)], (.int x :: S), h)) (by decide +kernel) rfl rfl rfl rfl
set_option maxRecDepth 100000 in
theorem E_X9_digest_h68 : (∀ (l0 l1 l2 : Option Value) (x : Int32) (S : List Value) (h : zH), zD 112 68 [l0, l1, l2, some (.int x)] S h = zD 112 69 [l0, l1, l2, some (.int x)] (.int x :: S) h) :=
  fun l0 l1 l2 x S h => zD_op (ins := .iload_n 3) (len := 1) (c := (69, [l0, l1, l2, some (.int x)], (.int x :: S), h)) (by decide +kernel) rfl rfl rfl rfl
set_option maxRecDepth 100000 in
theorem E_X9_digest_h100 : (∀ (l0 l1 l2 : Option Value) (x : Int32) (S : List Value) (h : zH), zD 112 100 [l0, l1, l2, some (.int x)] S h = zD 112 101 [l0, l1, l2, some (.int x)] (.int x :: S) h) :=
  fun l0 l1 l2 x S h => zD_op (ins := .iload_n 3) (len := 1) (c := (101, [l0, l1, l2, some (.int x)], (.int x :: S), h)) (by decide +kernel) rfl rfl rfl rfl
set_option maxRecDepth 100000 in
theorem I_X9_digest : (∀ (a : Nat) (h : zH), zC 112 [.ref a] h = zD 112 0 [some (.ref a), none, none, none] [] h) :=
  fun a h => zC_def rfl
set_option maxRecDepth 100000 in
theorem E_X10_isPair : (∀ (l0 l2 : Option Value) (x : Int32) (S : List Value) (h : zH), zD 113 0 [l0, some (.int x), l2] S h = zD 113 1 [l0, some (.int x), l2] (.int x :: S) h) ∧
  (∀ (l0 l1 l2 : Option Value) (S : List Value) (h : zH), zD 113 1 [l0, l1, l2] S h = zD 113 2 [l0, l1, l2] (.int (0 : Int32) :: S) h) ∧
  (∀ (l1 l2 : Option Value) (x : Nat) (S : List Value) (h : zH), zD 113 2 [some (.ref x), l1, l2] S h = zD 113 3 [some (.ref x), l1, l2] (.ref x :: S) h) ∧
  (∀ (l0 l1 l2 : Option Value) (a : Nat) (r : List Value) (h : zH) (hx : zfok (h.2.2 a) 9 0 = true), zD 113 3 [l0, l1, l2] (.ref a :: r) h = zD 113 6 [l0, l1, l2] (zfv (h.2.2 a) 0 :: r) h) ∧
  (∀ (l0 l1 l2 : Option Value) (p0 : Int32) (p1 : Int32) (p2 : Int32) (r : List Value) (h : zH) (hcat : zcat r ≤ 8) (hC : (zC 26 [.int p0, .int p1, .int p2] h).isSome = true), zD 113 6 [l0, l1, l2] (.int p2 :: .int p1 :: .int p0 :: r) h = zD 113 9 [l0, l1, l2] (zgv (zC 26 [.int p0, .int p1, .int p2] h) ++ r) (zgh h (zC 26 [.int p0, .int p1, .int p2] h))) ∧
  (∀ (l0 l1 l2 : Option Value) (x : Int32) (r : List Value) (h : zH), zD 113 9 [l0, l1, l2] (.int x :: r) h = if x = 0 then zD 113 29 [l0, l1, l2] r h else zD 113 12 [l0, l1, l2] r h) ∧
  (∀ (l1 l2 : Option Value) (x : Nat) (S : List Value) (h : zH), zD 113 12 [some (.ref x), l1, l2] S h = zD 113 13 [some (.ref x), l1, l2] (.ref x :: S) h) ∧
  (∀ (l0 l1 : Option Value) (x : Int32) (S : List Value) (h : zH), zD 113 13 [l0, l1, some (.int x)] S h = zD 113 14 [l0, l1, some (.int x)] (.int x :: S) h) ∧
  (∀ (l0 l1 l2 : Option Value) (p0 : Int32) (a : Nat) (r : List Value) (h : zH) (hcat : zcat r ≤ 8) (hr : zis (h.2.2 a) 9 = true) (hC : (zC 78 (.ref a :: [.int p0]) h).isSome = true), zD 113 14 [l0, l1, l2] (.int p0 :: .ref a :: r) h = zD 113 17 [l0, l1, l2] (zgv (zC 78 (.ref a :: [.int p0]) h) ++ r) (zgh h (zC 78 (.ref a :: [.int p0]) h))) ∧
  (∀ (l0 l1 l2 : Option Value) (x : Int32) (r : List Value) (h : zH), zD 113 17 [l0, l1, l2] (.int x :: r) h = if x = 0 then zD 113 29 [l0, l1, l2] r h else zD 113 20 [l0, l1, l2] r h) ∧
  (∀ (l0 l2 : Option Value) (x : Int32) (S : List Value) (h : zH), zD 113 20 [l0, some (.int x), l2] S h = zD 113 21 [l0, some (.int x), l2] (.int x :: S) h) ∧
  (∀ (l0 l1 : Option Value) (x : Int32) (S : List Value) (h : zH), zD 113 21 [l0, l1, some (.int x)] S h = zD 113 22 [l0, l1, some (.int x)] (.int x :: S) h) ∧
  (∀ (l0 l1 l2 : Option Value) (x y : Int32) (r : List Value) (h : zH), zD 113 22 [l0, l1, l2] (.int y :: .int x :: r) h = if x = y then zD 113 29 [l0, l1, l2] r h else zD 113 25 [l0, l1, l2] r h) ∧
  (∀ (l0 l1 l2 : Option Value) (S : List Value) (h : zH), zD 113 25 [l0, l1, l2] S h = zD 113 26 [l0, l1, l2] (.int (1 : Int32) :: S) h) ∧
  (∀ (l0 l1 l2 : Option Value) (S : List Value) (h : zH), zD 113 26 [l0, l1, l2] S h = zD 113 30 [l0, l1, l2] S h) ∧
  (∀ (l0 l1 l2 : Option Value) (S : List Value) (h : zH), zD 113 29 [l0, l1, l2] S h = zD 113 30 [l0, l1, l2] (.int (0 : Int32) :: S) h) ∧
  (∀ (l0 l1 l2 : Option Value) (v : Int32) (h : zH) (hv : zbv v), zD 113 30 [l0, l1, l2] [.int v] h = some (some (.int v), h)) :=
  ⟨fun l0 l2 x S h => zD_op (ins := .iload_n 1) (len := 1) (c := (1, [l0, some (.int x), l2], (.int x :: S), h)) (by decide +kernel) rfl rfl rfl rfl,
  fun l0 l1 l2 S h => zD_icst (n := 0) (by decide +kernel) (by decide +kernel),
  fun l1 l2 x S h => zD_op (ins := .aload_n 0) (len := 1) (c := (3, [some (.ref x), l1, l2], (.ref x :: S), h)) (by decide +kernel) rfl rfl rfl rfl,
  fun l0 l1 l2 a r h hx => zD_getf (i := 7) (ci := 9) (k := 0) (q := (711, 0)) (by decide +kernel) (by decide +kernel) hx,
  fun l0 l1 l2 p0 p1 p2 r h hcat hC => zD_calls (i := 77) (y := 26) (n := 3) (as := [.int p0, .int p1, .int p2]) (by decide +kernel) (by decide +kernel) rfl (by decide +kernel) (Nat.le_of_ble_eq_true rfl) hcat hC,
  fun l0 l1 l2 x r h => zD_if0 (cnd := .eq) (off := 20) (by decide +kernel) (by decide) rfl,
  fun l1 l2 x S h => zD_op (ins := .aload_n 0) (len := 1) (c := (13, [some (.ref x), l1, l2], (.ref x :: S), h)) (by decide +kernel) rfl rfl rfl rfl,
  fun l0 l1 x S h => zD_op (ins := .iload_n 2) (len := 1) (c := (14, [l0, l1, some (.int x)], (.int x :: S), h)) (by decide +kernel) rfl rfl rfl rfl,
  fun l0 l1 l2 p0 a r h hcat hr hC => zD_callv (i := 85) (y := 78) (n := 1) (as := [.int p0]) (ci := 9) (by decide +kernel) (by decide +kernel) rfl (by decide +kernel) (Nat.le_of_ble_eq_true rfl) (by decide +kernel) hcat hr hC,
  fun l0 l1 l2 x r h => zD_if0 (cnd := .eq) (off := 12) (by decide +kernel) (by decide) rfl,
  fun l0 l2 x S h => zD_op (ins := .iload_n 1) (len := 1) (c := (21, [l0, some (.int x), l2], (.int x :: S), h)) (by decide +kernel) rfl rfl rfl rfl,
  fun l0 l1 x S h => zD_op (ins := .iload_n 2) (len := 1) (c := (22, [l0, l1, some (.int x)], (.int x :: S), h)) (by decide +kernel) rfl rfl rfl rfl,
  fun l0 l1 l2 x y r h => zD_if (cnd := .eq) (off := 7) (by decide +kernel) (by decide) rfl,
  fun l0 l1 l2 S h => zD_icst (n := 1) (by decide +kernel) (by decide +kernel),
  fun l0 l1 l2 S h => zD_goto (off := 4) (by decide +kernel) (by decide),
  fun l0 l1 l2 S h => zD_icst (n := 0) (by decide +kernel) (by decide +kernel),
  fun l0 l1 l2 v h hv => zD_iretz (by decide +kernel) rfl hv⟩
set_option maxRecDepth 100000 in
theorem I_X10_isPair : (∀ (a : Nat) (p0 : Int32) (p1 : Int32) (h : zH), zC 113 [.ref a, .int p0, .int p1] h = zD 113 0 [some (.ref a), some (.int p0), some (.int p1)] [] h) :=
  fun a p0 p1 h => zC_def rfl
set_option maxRecDepth 100000 in
theorem E_X10_tag : (∀ (l1 l2 l3 : Option Value) (x : Nat) (S : List Value) (h : zH), zD 114 0 [some (.ref x), l1, l2, l3] S h = zD 114 1 [some (.ref x), l1, l2, l3] (.ref x :: S) h) ∧
  (∀ (l0 l2 l3 : Option Value) (x : Int32) (S : List Value) (h : zH), zD 114 1 [l0, some (.int x), l2, l3] S h = zD 114 2 [l0, some (.int x), l2, l3] (.int x :: S) h) ∧
  (∀ (l0 l1 l2 l3 : Option Value) (p0 : Int32) (a : Nat) (r : List Value) (h : zH) (hcat : zcat r ≤ 8) (hr : zis (h.2.2 a) 9 = true) (hC : (zC 78 (.ref a :: [.int p0]) h).isSome = true), zD 114 2 [l0, l1, l2, l3] (.int p0 :: .ref a :: r) h = zD 114 5 [l0, l1, l2, l3] (zgv (zC 78 (.ref a :: [.int p0]) h) ++ r) (zgh h (zC 78 (.ref a :: [.int p0]) h))) ∧
  (∀ (l0 l1 l2 l3 : Option Value) (x : Int32) (r : List Value) (h : zH), zD 114 5 [l0, l1, l2, l3] (.int x :: r) h = if ¬ x = 0 then zD 114 11 [l0, l1, l2, l3] r h else zD 114 8 [l0, l1, l2, l3] r h) ∧
  (∀ (l0 l1 l2 l3 : Option Value) (S : List Value) (h : zH), zD 114 8 [l0, l1, l2, l3] S h = zD 114 10 [l0, l1, l2, l3] (.int (-101 : Int32) :: S) h) ∧
  (∀ (l0 l1 l2 l3 : Option Value) (v : Int32) (h : zH), zD 114 10 [l0, l1, l2, l3] [.int v] h = some (some (.int v), h)) ∧
  (∀ (l0 l1 l3 : Option Value) (x : Int32) (S : List Value) (h : zH), zD 114 11 [l0, l1, some (.int x), l3] S h = zD 114 12 [l0, l1, some (.int x), l3] (.int x :: S) h) ∧
  (∀ (l0 l1 l2 l3 : Option Value) (S : List Value) (h : zH), zD 114 12 [l0, l1, l2, l3] S h = zD 114 13 [l0, l1, l2, l3] (.int (0 : Int32) :: S) h) ∧
  (∀ (l0 l1 l2 l3 : Option Value) (S : List Value) (h : zH), zD 114 13 [l0, l1, l2, l3] S h = zD 114 15 [l0, l1, l2, l3] (.int (9 : Int32) :: S) h) ∧
  (∀ (l0 l1 l2 l3 : Option Value) (p0 : Int32) (p1 : Int32) (p2 : Int32) (r : List Value) (h : zH) (hcat : zcat r ≤ 8) (hC : (zC 26 [.int p0, .int p1, .int p2] h).isSome = true), zD 114 15 [l0, l1, l2, l3] (.int p2 :: .int p1 :: .int p0 :: r) h = zD 114 18 [l0, l1, l2, l3] (zgv (zC 26 [.int p0, .int p1, .int p2] h) ++ r) (zgh h (zC 26 [.int p0, .int p1, .int p2] h))) ∧
  (∀ (l0 l1 l2 l3 : Option Value) (x : Int32) (r : List Value) (h : zH), zD 114 18 [l0, l1, l2, l3] (.int x :: r) h = if ¬ x = 0 then zD 114 24 [l0, l1, l2, l3] r h else zD 114 21 [l0, l1, l2, l3] r h) ∧
  (∀ (l0 l1 l2 l3 : Option Value) (S : List Value) (h : zH), zD 114 21 [l0, l1, l2, l3] S h = zD 114 23 [l0, l1, l2, l3] (.int (-102 : Int32) :: S) h) ∧
  (∀ (l0 l1 l2 l3 : Option Value) (v : Int32) (h : zH), zD 114 23 [l0, l1, l2, l3] [.int v] h = some (some (.int v), h)) ∧
  (∀ (l1 l2 l3 : Option Value) (x : Nat) (S : List Value) (h : zH), zD 114 24 [some (.ref x), l1, l2, l3] S h = zD 114 25 [some (.ref x), l1, l2, l3] (.ref x :: S) h) ∧
  (∀ (l0 l1 l2 l3 : Option Value) (a : Nat) (r : List Value) (h : zH) (hx : zfok (h.2.2 a) 9 1 = true), zD 114 25 [l0, l1, l2, l3] (.ref a :: r) h = zD 114 28 [l0, l1, l2, l3] (zfv (h.2.2 a) 1 :: r) h) ∧
  (∀ (l0 l2 l3 : Option Value) (x : Int32) (S : List Value) (h : zH), zD 114 28 [l0, some (.int x), l2, l3] S h = zD 114 29 [l0, some (.int x), l2, l3] (.int x :: S) h) ∧
  (∀ (l0 l1 l2 l3 : Option Value) (i : Int32) (a : Nat) (r : List Value) (h : zH) (hx : ziok a (h.2.2 a) i = true), zD 114 29 [l0, l1, l2, l3] (.int i :: .ref a :: r) h = zD 114 30 [l0, l1, l2, l3] (.int (ziv (h.2.2 a) i) :: r) h) ∧
  (∀ (l0 l1 l2 l3 : Option Value) (x : Int32) (r : List Value) (h : zH), zD 114 30 [l0, l1, l2, l3] (.int x :: r) h = zD 114 31 [l0, l1, zclr l2, some (.int x)] r h) ∧
  (∀ (l1 l2 l3 : Option Value) (x : Nat) (S : List Value) (h : zH), zD 114 31 [some (.ref x), l1, l2, l3] S h = zD 114 32 [some (.ref x), l1, l2, l3] (.ref x :: S) h) ∧
  (∀ (l0 l1 l2 l3 : Option Value) (a : Nat) (r : List Value) (h : zH) (hx : zfok (h.2.2 a) 9 1 = true), zD 114 32 [l0, l1, l2, l3] (.ref a :: r) h = zD 114 35 [l0, l1, l2, l3] (zfv (h.2.2 a) 1 :: r) h) ∧
  (∀ (l0 l2 l3 : Option Value) (x : Int32) (S : List Value) (h : zH), zD 114 35 [l0, some (.int x), l2, l3] S h = zD 114 36 [l0, some (.int x), l2, l3] (.int x :: S) h) ∧
  (∀ (l0 l1 l3 : Option Value) (x : Int32) (S : List Value) (h : zH), zD 114 36 [l0, l1, some (.int x), l3] S h = zD 114 37 [l0, l1, some (.int x), l3] (.int x :: S) h) ∧
  (∀ (l0 l1 l2 l3 : Option Value) (w i : Int32) (a : Nat) (r : List Value) (h : zH) (hx : zpok (h.2.2 a) i = true), zD 114 37 [l0, l1, l2, l3] (.int w :: .int i :: .ref a :: r) h = zD 114 38 [l0, l1, l2, l3] r (zw h a (zis' (h.2.2 a) i w))) ∧
  (∀ (l0 l1 l2 : Option Value) (x : Int32) (S : List Value) (h : zH), zD 114 38 [l0, l1, l2, some (.int x)] S h = zD 114 39 [l0, l1, l2, some (.int x)] (.int x :: S) h) ∧
  (∀ (l0 l1 l2 l3 : Option Value) (v : Int32) (h : zH), zD 114 39 [l0, l1, l2, l3] [.int v] h = some (some (.int v), h)) :=
  ⟨fun l1 l2 l3 x S h => zD_op (ins := .aload_n 0) (len := 1) (c := (1, [some (.ref x), l1, l2, l3], (.ref x :: S), h)) (by decide +kernel) rfl rfl rfl rfl,
  fun l0 l2 l3 x S h => zD_op (ins := .iload_n 1) (len := 1) (c := (2, [l0, some (.int x), l2, l3], (.int x :: S), h)) (by decide +kernel) rfl rfl rfl rfl,
  fun l0 l1 l2 l3 p0 a r h hcat hr hC => zD_callv (i := 85) (y := 78) (n := 1) (as := [.int p0]) (ci := 9) (by decide +kernel) (by decide +kernel) rfl (by decide +kernel) (Nat.le_of_ble_eq_true rfl) (by decide +kernel) hcat hr hC,
  fun l0 l1 l2 l3 x r h => zD_if0 (cnd := .ne) (off := 6) (by decide +kernel) (by decide) rfl,
  fun l0 l1 l2 l3 S h => zD_bip (n := (-101)) (by decide +kernel) (by decide +kernel),
  fun l0 l1 l2 l3 v h => zD_ireti (by decide +kernel) rfl,
  fun l0 l1 l3 x S h => zD_op (ins := .iload_n 2) (len := 1) (c := (12, [l0, l1, some (.int x), l3], (.int x :: S), h)) (by decide +kernel) rfl rfl rfl rfl,
  fun l0 l1 l2 l3 S h => zD_icst (n := 0) (by decide +kernel) (by decide +kernel),
  fun l0 l1 l2 l3 S h => zD_bip (n := 9) (by decide +kernel) (by decide +kernel),
  fun l0 l1 l2 l3 p0 p1 p2 r h hcat hC => zD_calls (i := 77) (y := 26) (n := 3) (as := [.int p0, .int p1, .int p2]) (by decide +kernel) (by decide +kernel) rfl (by decide +kernel) (Nat.le_of_ble_eq_true rfl) hcat hC,
  fun l0 l1 l2 l3 x r h => zD_if0 (cnd := .ne) (off := 6) (by decide +kernel) (by decide) rfl,
  fun l0 l1 l2 l3 S h => zD_bip (n := (-102)) (by decide +kernel) (by decide +kernel),
  fun l0 l1 l2 l3 v h => zD_ireti (by decide +kernel) rfl,
  fun l1 l2 l3 x S h => zD_op (ins := .aload_n 0) (len := 1) (c := (25, [some (.ref x), l1, l2, l3], (.ref x :: S), h)) (by decide +kernel) rfl rfl rfl rfl,
  fun l0 l1 l2 l3 a r h hx => zD_getf (i := 13) (ci := 9) (k := 1) (q := (712, 0)) (by decide +kernel) (by decide +kernel) hx,
  fun l0 l2 l3 x S h => zD_op (ins := .iload_n 1) (len := 1) (c := (29, [l0, some (.int x), l2, l3], (.int x :: S), h)) (by decide +kernel) rfl rfl rfl rfl,
  fun l0 l1 l2 l3 i a r h hx => zD_iald (by decide +kernel) hx,
  fun l0 l1 l2 l3 x r h => zD_st1 (k := 3) (ins := .istore_n 3) (len := 1) (by decide +kernel) rfl rfl rfl (by decide +kernel) rfl rfl,
  fun l1 l2 l3 x S h => zD_op (ins := .aload_n 0) (len := 1) (c := (32, [some (.ref x), l1, l2, l3], (.ref x :: S), h)) (by decide +kernel) rfl rfl rfl rfl,
  fun l0 l1 l2 l3 a r h hx => zD_getf (i := 13) (ci := 9) (k := 1) (q := (712, 0)) (by decide +kernel) (by decide +kernel) hx,
  fun l0 l2 l3 x S h => zD_op (ins := .iload_n 1) (len := 1) (c := (36, [l0, some (.int x), l2, l3], (.int x :: S), h)) (by decide +kernel) rfl rfl rfl rfl,
  fun l0 l1 l3 x S h => zD_op (ins := .iload_n 2) (len := 1) (c := (37, [l0, l1, some (.int x), l3], (.int x :: S), h)) (by decide +kernel) rfl rfl rfl rfl,
  fun l0 l1 l2 l3 w i a r h hx => zD_iast (by decide +kernel) hx,
  fun l0 l1 l2 x S h => zD_op (ins := .iload_n 3) (len := 1) (c := (39, [l0, l1, l2, some (.int x)], (.int x :: S), h)) (by decide +kernel) rfl rfl rfl rfl,
  fun l0 l1 l2 l3 v h => zD_ireti (by decide +kernel) rfl⟩
set_option maxRecDepth 100000 in
theorem I_X10_tag : (∀ (a : Nat) (p0 : Int32) (p1 : Int32) (h : zH), zC 114 [.ref a, .int p0, .int p1] h = zD 114 0 [some (.ref a), some (.int p0), some (.int p1), none] [] h) :=
  fun a p0 p1 h => zC_def rfl
set_option maxRecDepth 100000 in
theorem E_X10_headOf : (∀ (l1 : Option Value) (x : Nat) (S : List Value) (h : zH), zD 115 0 [some (.ref x), l1] S h = zD 115 1 [some (.ref x), l1] (.ref x :: S) h) ∧
  (∀ (l0 : Option Value) (x : Int32) (S : List Value) (h : zH), zD 115 1 [l0, some (.int x)] S h = zD 115 2 [l0, some (.int x)] (.int x :: S) h) ∧
  (∀ (l0 l1 : Option Value) (p0 : Int32) (a : Nat) (r : List Value) (h : zH) (hcat : zcat r ≤ 8) (hr : zis (h.2.2 a) 9 = true) (hC : (zC 78 (.ref a :: [.int p0]) h).isSome = true), zD 115 2 [l0, l1] (.int p0 :: .ref a :: r) h = zD 115 5 [l0, l1] (zgv (zC 78 (.ref a :: [.int p0]) h) ++ r) (zgh h (zC 78 (.ref a :: [.int p0]) h))) ∧
  (∀ (l0 l1 : Option Value) (x : Int32) (r : List Value) (h : zH), zD 115 5 [l0, l1] (.int x :: r) h = if x = 0 then zD 115 17 [l0, l1] r h else zD 115 8 [l0, l1] r h) ∧
  (∀ (l1 : Option Value) (x : Nat) (S : List Value) (h : zH), zD 115 8 [some (.ref x), l1] S h = zD 115 9 [some (.ref x), l1] (.ref x :: S) h) ∧
  (∀ (l0 l1 : Option Value) (a : Nat) (r : List Value) (h : zH) (hx : zfok (h.2.2 a) 9 2 = true), zD 115 9 [l0, l1] (.ref a :: r) h = zD 115 12 [l0, l1] (zfv (h.2.2 a) 2 :: r) h) ∧
  (∀ (l0 : Option Value) (x : Int32) (S : List Value) (h : zH), zD 115 12 [l0, some (.int x)] S h = zD 115 13 [l0, some (.int x)] (.int x :: S) h) ∧
  (∀ (l0 l1 : Option Value) (i : Int32) (a : Nat) (r : List Value) (h : zH) (hx : ziok a (h.2.2 a) i = true), zD 115 13 [l0, l1] (.int i :: .ref a :: r) h = zD 115 14 [l0, l1] (.int (ziv (h.2.2 a) i) :: r) h) ∧
  (∀ (l0 l1 : Option Value) (S : List Value) (h : zH), zD 115 14 [l0, l1] S h = zD 115 18 [l0, l1] S h) ∧
  (∀ (l0 l1 : Option Value) (S : List Value) (h : zH), zD 115 17 [l0, l1] S h = zD 115 18 [l0, l1] (.int (-1 : Int32) :: S) h) ∧
  (∀ (l0 l1 : Option Value) (v : Int32) (h : zH), zD 115 18 [l0, l1] [.int v] h = some (some (.int v), h)) :=
  ⟨fun l1 x S h => zD_op (ins := .aload_n 0) (len := 1) (c := (1, [some (.ref x), l1], (.ref x :: S), h)) (by decide +kernel) rfl rfl rfl rfl,
  fun l0 x S h => zD_op (ins := .iload_n 1) (len := 1) (c := (2, [l0, some (.int x)], (.int x :: S), h)) (by decide +kernel) rfl rfl rfl rfl,
  fun l0 l1 p0 a r h hcat hr hC => zD_callv (i := 85) (y := 78) (n := 1) (as := [.int p0]) (ci := 9) (by decide +kernel) (by decide +kernel) rfl (by decide +kernel) (Nat.le_of_ble_eq_true rfl) (by decide +kernel) hcat hr hC,
  fun l0 l1 x r h => zD_if0 (cnd := .eq) (off := 12) (by decide +kernel) (by decide) rfl,
  fun l1 x S h => zD_op (ins := .aload_n 0) (len := 1) (c := (9, [some (.ref x), l1], (.ref x :: S), h)) (by decide +kernel) rfl rfl rfl rfl,
  fun l0 l1 a r h hx => zD_getf (i := 17) (ci := 9) (k := 2) (q := (713, 0)) (by decide +kernel) (by decide +kernel) hx,
  fun l0 x S h => zD_op (ins := .iload_n 1) (len := 1) (c := (13, [l0, some (.int x)], (.int x :: S), h)) (by decide +kernel) rfl rfl rfl rfl,
  fun l0 l1 i a r h hx => zD_iald (by decide +kernel) hx,
  fun l0 l1 S h => zD_goto (off := 4) (by decide +kernel) (by decide),
  fun l0 l1 S h => zD_icst (n := (-1)) (by decide +kernel) (by decide +kernel),
  fun l0 l1 v h => zD_ireti (by decide +kernel) rfl⟩
set_option maxRecDepth 100000 in
theorem I_X10_headOf : (∀ (a : Nat) (p0 : Int32) (h : zH), zC 115 [.ref a, .int p0] h = zD 115 0 [some (.ref a), some (.int p0)] [] h) :=
  fun a p0 h => zC_def rfl
set_option maxRecDepth 100000 in
theorem E_X10_is : (∀ (l1 l2 l3 : Option Value) (x : Nat) (S : List Value) (h : zH), zD 116 0 [some (.ref x), l1, l2, l3] S h = zD 116 1 [some (.ref x), l1, l2, l3] (.ref x :: S) h) ∧
  (∀ (l0 l1 l2 l3 : Option Value) (a : Nat) (r : List Value) (h : zH) (hcat : zcat r ≤ 8) (hr : zis (h.2.2 a) 9 = true) (hC : (zC 80 [.ref a] h).isSome = true), zD 116 1 [l0, l1, l2, l3] (.ref a :: r) h = zD 116 4 [l0, l1, l2, l3] (zgv (zC 80 [.ref a] h) ++ r) (zgh h (zC 80 [.ref a] h))) ∧
  (∀ (l0 l1 l2 l3 : Option Value) (x : Int32) (r : List Value) (h : zH), zD 116 4 [l0, l1, l2, l3] (.int x :: r) h = zD 116 5 [zclr l0, some (.int x), l2, l3] r h) ∧
  (∀ (l0 l1 l2 l3 : Option Value) (S : List Value) (h : zH), zD 116 5 [l0, l1, l2, l3] S h = zD 116 6 [l0, l1, l2, l3] (.int (1 : Int32) :: S) h) ∧
  (∀ (l0 l1 l2 l3 : Option Value) (x : Int32) (r : List Value) (h : zH), zD 116 6 [l0, l1, l2, l3] (.int x :: r) h = zD 116 7 [l0, zclr l1, some (.int x), l3] r h) ∧
  (∀ (l0 l1 l2 l3 : Option Value) (S : List Value) (h : zH), zD 116 7 [l0, l1, l2, l3] S h = zD 116 8 [l0, l1, l2, l3] (.int (1 : Int32) :: S) h) ∧
  (∀ (l0 l1 l2 l3 : Option Value) (x : Int32) (r : List Value) (h : zH), zD 116 8 [l0, l1, l2, l3] (.int x :: r) h = zD 116 9 [l0, l1, zclr l2, some (.int x)] r h) ∧
  (∀ (l1 l2 l3 : Option Value) (x : Nat) (S : List Value) (h : zH), zD 116 10 [some (.ref x), l1, l2, l3] S h = zD 116 11 [some (.ref x), l1, l2, l3] (.ref x :: S) h) ∧
  (∀ (l0 l1 l2 l3 : Option Value) (a : Nat) (r : List Value) (h : zH) (hx : zfok (h.2.2 a) 9 0 = true), zD 116 11 [l0, l1, l2, l3] (.ref a :: r) h = zD 116 14 [l0, l1, l2, l3] (zfv (h.2.2 a) 0 :: r) h) ∧
  (∀ (l0 l1 l2 l3 : Option Value) (x y : Int32) (r : List Value) (h : zH), zD 116 14 [l0, l1, l2, l3] (.int y :: .int x :: r) h = if y < x then zD 116 52 [l0, l1, l2, l3] r h else zD 116 17 [l0, l1, l2, l3] r h) ∧
  (∀ (l0 l1 l3 : Option Value) (x : Int32) (S : List Value) (h : zH), zD 116 17 [l0, l1, some (.int x), l3] S h = zD 116 18 [l0, l1, some (.int x), l3] (.int x :: S) h) ∧
  (∀ (l0 l1 l2 l3 : Option Value) (x : Int32) (r : List Value) (h : zH), zD 116 18 [l0, l1, l2, l3] (.int x :: r) h = if x = 0 then zD 116 44 [l0, l1, l2, l3] r h else zD 116 21 [l0, l1, l2, l3] r h) ∧
  (∀ (l1 l2 l3 : Option Value) (x : Nat) (S : List Value) (h : zH), zD 116 21 [some (.ref x), l1, l2, l3] S h = zD 116 22 [some (.ref x), l1, l2, l3] (.ref x :: S) h) ∧
  (∀ (l0 l1 l2 l3 : Option Value) (a : Nat) (r : List Value) (h : zH) (hx : zfok (h.2.2 a) 9 4 = true), zD 116 22 [l0, l1, l2, l3] (.ref a :: r) h = zD 116 25 [l0, l1, l2, l3] (zfv (h.2.2 a) 4 :: r) h) ∧
  (∀ (l0 l1 l2 l3 : Option Value) (S : List Value) (h : zH), zD 116 25 [l0, l1, l2, l3] S h = zD 116 27 [l0, l1, l2, l3] (.int (8 : Int32) :: S) h) ∧
  (∀ (l0 l1 l2 : Option Value) (x : Int32) (S : List Value) (h : zH), zD 116 27 [l0, l1, l2, some (.int x)] S h = zD 116 28 [l0, l1, l2, some (.int x)] (.int x :: S) h) ∧
  (∀ (l0 l1 l2 l3 : Option Value) (x y : Int32) (r : List Value) (h : zH), zD 116 28 [l0, l1, l2, l3] (.int y :: .int x :: r) h = zD 116 29 [l0, l1, l2, l3] (.int (x * y) :: r) h) ∧
  (∀ (l1 l2 l3 : Option Value) (x : Nat) (S : List Value) (h : zH), zD 116 29 [some (.ref x), l1, l2, l3] S h = zD 116 30 [some (.ref x), l1, l2, l3] (.ref x :: S) h) ∧
  (∀ (l0 l1 l2 l3 : Option Value) (a : Nat) (r : List Value) (h : zH) (hx : zfok (h.2.2 a) 9 2 = true), zD 116 30 [l0, l1, l2, l3] (.ref a :: r) h = zD 116 33 [l0, l1, l2, l3] (zfv (h.2.2 a) 2 :: r) h) ∧
  (∀ (l0 l1 l2 : Option Value) (x : Int32) (S : List Value) (h : zH), zD 116 33 [l0, l1, l2, some (.int x)] S h = zD 116 34 [l0, l1, l2, some (.int x)] (.int x :: S) h) ∧
  (∀ (l0 l1 l2 l3 : Option Value) (i : Int32) (a : Nat) (r : List Value) (h : zH) (hx : ziok a (h.2.2 a) i = true), zD 116 34 [l0, l1, l2, l3] (.int i :: .ref a :: r) h = zD 116 35 [l0, l1, l2, l3] (.int (ziv (h.2.2 a) i) :: r) h) ∧
  (∀ (l0 l1 l2 l3 : Option Value) (x y : Int32) (r : List Value) (h : zH), zD 116 35 [l0, l1, l2, l3] (.int y :: .int x :: r) h = zD 116 36 [l0, l1, l2, l3] (.int (x + y) :: r) h) ∧
  (∀ (l0 l1 l2 l3 : Option Value) (i : Int32) (a : Nat) (r : List Value) (h : zH) (hx : zbok (h.2.2 a) i = true), zD 116 36 [l0, l1, l2, l3] (.int i :: .ref a :: r) h = zD 116 37 [l0, l1, l2, l3] (.int (ziv (h.2.2 a) i) :: r) h) ∧
  (∀ (l0 l1 l2 l3 : Option Value) (x : Int32) (r : List Value) (h : zH), zD 116 37 [l0, l1, l2, l3] (.int x :: r) h = if ¬ x = 0 then zD 116 44 [l0, l1, l2, l3] r h else zD 116 40 [l0, l1, l2, l3] r h) ∧
  (∀ (l0 l1 l2 l3 : Option Value) (S : List Value) (h : zH), zD 116 40 [l0, l1, l2, l3] S h = zD 116 41 [l0, l1, l2, l3] (.int (1 : Int32) :: S) h) ∧
  (∀ (l0 l1 l2 l3 : Option Value) (S : List Value) (h : zH), zD 116 41 [l0, l1, l2, l3] S h = zD 116 45 [l0, l1, l2, l3] S h) ∧
  (∀ (l0 l1 l2 l3 : Option Value) (S : List Value) (h : zH), zD 116 44 [l0, l1, l2, l3] S h = zD 116 45 [l0, l1, l2, l3] (.int (0 : Int32) :: S) h) ∧
  (∀ (l0 l1 l2 l3 : Option Value) (x : Int32) (r : List Value) (h : zH), zD 116 45 [l0, l1, l2, l3] (.int x :: r) h = zD 116 46 [l0, zclr l1, some (.int x), l3] r h) ∧
  (∀ (l0 l1 l2 : Option Value) (x : Int32) (S : List Value) (h : zH), zD 116 46 [l0, l1, l2, some (.int x)] S h = zD 116 49 [l0, l1, zclr l2, some (.int (x + (1 : Int32)))] S h) ∧
  (∀ (l0 l1 l2 l3 : Option Value) (S : List Value) (h : zH), zD 116 49 [l0, l1, l2, l3] S h = zD 116 9 [l0, l1, l2, l3] S h) ∧
  (∀ (l0 l2 l3 : Option Value) (x : Int32) (S : List Value) (h : zH), zD 116 52 [l0, some (.int x), l2, l3] S h = zD 116 53 [l0, some (.int x), l2, l3] (.int x :: S) h) ∧
  (∀ (l0 l1 l2 l3 : Option Value) (x : Int32) (r : List Value) (h : zH), zD 116 53 [l0, l1, l2, l3] (.int x :: r) h = if x = 0 then zD 116 75 [l0, l1, l2, l3] r h else zD 116 56 [l0, l1, l2, l3] r h) ∧
  (∀ (l1 l2 l3 : Option Value) (x : Nat) (S : List Value) (h : zH), zD 116 56 [some (.ref x), l1, l2, l3] S h = zD 116 57 [some (.ref x), l1, l2, l3] (.ref x :: S) h) ∧
  (∀ (l1 l2 l3 : Option Value) (x : Nat) (S : List Value) (h : zH), zD 116 57 [some (.ref x), l1, l2, l3] S h = zD 116 58 [some (.ref x), l1, l2, l3] (.ref x :: S) h) ∧
  (∀ (l0 l1 l2 l3 : Option Value) (a : Nat) (r : List Value) (h : zH) (hx : zfok (h.2.2 a) 9 0 = true), zD 116 58 [l0, l1, l2, l3] (.ref a :: r) h = zD 116 61 [l0, l1, l2, l3] (zfv (h.2.2 a) 0 :: r) h) ∧
  (∀ (l0 l1 l2 l3 : Option Value) (p0 : Int32) (a : Nat) (r : List Value) (h : zH) (hcat : zcat r ≤ 8) (hr : zis (h.2.2 a) 9 = true) (hC : (zC 79 (.ref a :: [.int p0]) h).isSome = true), zD 116 61 [l0, l1, l2, l3] (.int p0 :: .ref a :: r) h = zD 116 64 [l0, l1, l2, l3] (zgv (zC 79 (.ref a :: [.int p0]) h) ++ r) (zgh h (zC 79 (.ref a :: [.int p0]) h))) ∧
  (∀ (l0 l1 l2 l3 : Option Value) (x : Int32) (r : List Value) (h : zH), zD 116 64 [l0, l1, l2, l3] (.int x :: r) h = if x = 0 then zD 116 71 [l0, l1, l2, l3] r h else zD 116 67 [l0, l1, l2, l3] r h) ∧
  (∀ (l0 l1 l2 l3 : Option Value) (S : List Value) (h : zH), zD 116 67 [l0, l1, l2, l3] S h = zD 116 68 [l0, l1, l2, l3] (.int (2 : Int32) :: S) h) ∧
  (∀ (l0 l1 l2 l3 : Option Value) (S : List Value) (h : zH), zD 116 68 [l0, l1, l2, l3] S h = zD 116 76 [l0, l1, l2, l3] S h) ∧
  (∀ (l0 l1 l2 l3 : Option Value) (S : List Value) (h : zH), zD 116 71 [l0, l1, l2, l3] S h = zD 116 72 [l0, l1, l2, l3] (.int (1 : Int32) :: S) h) ∧
  (∀ (l0 l1 l2 l3 : Option Value) (S : List Value) (h : zH), zD 116 72 [l0, l1, l2, l3] S h = zD 116 76 [l0, l1, l2, l3] S h) ∧
  (∀ (l0 l1 l2 l3 : Option Value) (S : List Value) (h : zH), zD 116 75 [l0, l1, l2, l3] S h = zD 116 76 [l0, l1, l2, l3] (.int (0 : Int32) :: S) h) ∧
  (∀ (l0 l1 l3 : Option Value) (x : Int32) (S : List Value) (h : zH), zD 116 76 [l0, l1, some (.int x), l3] S h = zD 116 77 [l0, l1, some (.int x), l3] (.int x :: S) h) ∧
  (∀ (l0 l1 l2 l3 : Option Value) (x : Int32) (r : List Value) (h : zH), zD 116 77 [l0, l1, l2, l3] (.int x :: r) h = if x = 0 then zD 116 84 [l0, l1, l2, l3] r h else zD 116 80 [l0, l1, l2, l3] r h) ∧
  (∀ (l0 l1 l2 l3 : Option Value) (S : List Value) (h : zH), zD 116 80 [l0, l1, l2, l3] S h = zD 116 81 [l0, l1, l2, l3] (.int (4 : Int32) :: S) h) ∧
  (∀ (l0 l1 l2 l3 : Option Value) (S : List Value) (h : zH), zD 116 81 [l0, l1, l2, l3] S h = zD 116 85 [l0, l1, l2, l3] S h) ∧
  (∀ (l0 l1 l2 l3 : Option Value) (S : List Value) (h : zH), zD 116 84 [l0, l1, l2, l3] S h = zD 116 85 [l0, l1, l2, l3] (.int (0 : Int32) :: S) h) ∧
  (∀ (l0 l1 l2 l3 : Option Value) (x y : Int32) (r : List Value) (h : zH), zD 116 85 [l0, l1, l2, l3] (.int y :: .int x :: r) h = zD 116 86 [l0, l1, l2, l3] (.int (x + y) :: r) h) ∧
  (∀ (l0 l1 l2 l3 : Option Value) (v : Int32) (h : zH), zD 116 86 [l0, l1, l2, l3] [.int v] h = some (some (.int v), h)) :=
  ⟨fun l1 l2 l3 x S h => zD_op (ins := .aload_n 0) (len := 1) (c := (1, [some (.ref x), l1, l2, l3], (.ref x :: S), h)) (by decide +kernel) rfl rfl rfl rfl,
  fun l0 l1 l2 l3 a r h hcat hr hC => zD_callv (i := 105) (y := 80) (n := 0) (as := []) (ci := 9) (by decide +kernel) (by decide +kernel) rfl (by decide +kernel) (Nat.le_of_ble_eq_true rfl) (by decide +kernel) hcat hr hC,
  fun l0 l1 l2 l3 x r h => zD_st1 (k := 1) (ins := .istore_n 1) (len := 1) (by decide +kernel) rfl rfl rfl (by decide +kernel) rfl rfl,
  fun l0 l1 l2 l3 S h => zD_icst (n := 1) (by decide +kernel) (by decide +kernel),
  fun l0 l1 l2 l3 x r h => zD_st1 (k := 2) (ins := .istore_n 2) (len := 1) (by decide +kernel) rfl rfl rfl (by decide +kernel) rfl rfl,
  fun l0 l1 l2 l3 S h => zD_icst (n := 1) (by decide +kernel) (by decide +kernel),
  fun l0 l1 l2 l3 x r h => zD_st1 (k := 3) (ins := .istore_n 3) (len := 1) (by decide +kernel) rfl rfl rfl (by decide +kernel) rfl rfl,
  fun l1 l2 l3 x S h => zD_op (ins := .aload_n 0) (len := 1) (c := (11, [some (.ref x), l1, l2, l3], (.ref x :: S), h)) (by decide +kernel) rfl rfl rfl rfl,
  fun l0 l1 l2 l3 a r h hx => zD_getf (i := 7) (ci := 9) (k := 0) (q := (711, 0)) (by decide +kernel) (by decide +kernel) hx,
  fun l0 l1 l2 l3 x y r h => zD_if (cnd := .gt) (off := 38) (by decide +kernel) (by decide) rfl,
  fun l0 l1 l3 x S h => zD_op (ins := .iload_n 2) (len := 1) (c := (18, [l0, l1, some (.int x), l3], (.int x :: S), h)) (by decide +kernel) rfl rfl rfl rfl,
  fun l0 l1 l2 l3 x r h => zD_if0 (cnd := .eq) (off := 26) (by decide +kernel) (by decide) rfl,
  fun l1 l2 l3 x S h => zD_op (ins := .aload_n 0) (len := 1) (c := (22, [some (.ref x), l1, l2, l3], (.ref x :: S), h)) (by decide +kernel) rfl rfl rfl rfl,
  fun l0 l1 l2 l3 a r h hx => zD_getf (i := 23) (ci := 9) (k := 4) (q := (715, 0)) (by decide +kernel) (by decide +kernel) hx,
  fun l0 l1 l2 l3 S h => zD_bip (n := 8) (by decide +kernel) (by decide +kernel),
  fun l0 l1 l2 x S h => zD_op (ins := .iload_n 3) (len := 1) (c := (28, [l0, l1, l2, some (.int x)], (.int x :: S), h)) (by decide +kernel) rfl rfl rfl rfl,
  fun l0 l1 l2 l3 x y r h => zD_op (ins := .imul) (len := 1) (c := (29, [l0, l1, l2, l3], (.int (x * y) :: r), h)) (by decide +kernel) rfl rfl rfl rfl,
  fun l1 l2 l3 x S h => zD_op (ins := .aload_n 0) (len := 1) (c := (30, [some (.ref x), l1, l2, l3], (.ref x :: S), h)) (by decide +kernel) rfl rfl rfl rfl,
  fun l0 l1 l2 l3 a r h hx => zD_getf (i := 17) (ci := 9) (k := 2) (q := (713, 0)) (by decide +kernel) (by decide +kernel) hx,
  fun l0 l1 l2 x S h => zD_op (ins := .iload_n 3) (len := 1) (c := (34, [l0, l1, l2, some (.int x)], (.int x :: S), h)) (by decide +kernel) rfl rfl rfl rfl,
  fun l0 l1 l2 l3 i a r h hx => zD_iald (by decide +kernel) hx,
  fun l0 l1 l2 l3 x y r h => zD_op (ins := .iadd) (len := 1) (c := (36, [l0, l1, l2, l3], (.int (x + y) :: r), h)) (by decide +kernel) rfl rfl rfl rfl,
  fun l0 l1 l2 l3 i a r h hx => zD_bald (by decide +kernel) hx,
  fun l0 l1 l2 l3 x r h => zD_if0 (cnd := .ne) (off := 7) (by decide +kernel) (by decide) rfl,
  fun l0 l1 l2 l3 S h => zD_icst (n := 1) (by decide +kernel) (by decide +kernel),
  fun l0 l1 l2 l3 S h => zD_goto (off := 4) (by decide +kernel) (by decide),
  fun l0 l1 l2 l3 S h => zD_icst (n := 0) (by decide +kernel) (by decide +kernel),
  fun l0 l1 l2 l3 x r h => zD_st1 (k := 2) (ins := .istore_n 2) (len := 1) (by decide +kernel) rfl rfl rfl (by decide +kernel) rfl rfl,
  fun l0 l1 l2 x S h => zD_iinc (k := 3) (x := x) (c := (1 : Int32)) (n := 1) (by decide +kernel) (by decide +kernel) rfl (by decide +kernel) rfl,
  fun l0 l1 l2 l3 S h => zD_goto (off := (-40)) (by decide +kernel) (by decide),
  fun l0 l2 l3 x S h => zD_op (ins := .iload_n 1) (len := 1) (c := (53, [l0, some (.int x), l2, l3], (.int x :: S), h)) (by decide +kernel) rfl rfl rfl rfl,
  fun l0 l1 l2 l3 x r h => zD_if0 (cnd := .eq) (off := 22) (by decide +kernel) (by decide) rfl,
  fun l1 l2 l3 x S h => zD_op (ins := .aload_n 0) (len := 1) (c := (57, [some (.ref x), l1, l2, l3], (.ref x :: S), h)) (by decide +kernel) rfl rfl rfl rfl,
  fun l1 l2 l3 x S h => zD_op (ins := .aload_n 0) (len := 1) (c := (58, [some (.ref x), l1, l2, l3], (.ref x :: S), h)) (by decide +kernel) rfl rfl rfl rfl,
  fun l0 l1 l2 l3 a r h hx => zD_getf (i := 7) (ci := 9) (k := 0) (q := (711, 0)) (by decide +kernel) (by decide +kernel) hx,
  fun l0 l1 l2 l3 p0 a r h hcat hr hC => zD_callv (i := 109) (y := 79) (n := 1) (as := [.int p0]) (ci := 9) (by decide +kernel) (by decide +kernel) rfl (by decide +kernel) (Nat.le_of_ble_eq_true rfl) (by decide +kernel) hcat hr hC,
  fun l0 l1 l2 l3 x r h => zD_if0 (cnd := .eq) (off := 7) (by decide +kernel) (by decide) rfl,
  fun l0 l1 l2 l3 S h => zD_icst (n := 2) (by decide +kernel) (by decide +kernel),
  fun l0 l1 l2 l3 S h => zD_goto (off := 8) (by decide +kernel) (by decide),
  fun l0 l1 l2 l3 S h => zD_icst (n := 1) (by decide +kernel) (by decide +kernel),
  fun l0 l1 l2 l3 S h => zD_goto (off := 4) (by decide +kernel) (by decide),
  fun l0 l1 l2 l3 S h => zD_icst (n := 0) (by decide +kernel) (by decide +kernel),
  fun l0 l1 l3 x S h => zD_op (ins := .iload_n 2) (len := 1) (c := (77, [l0, l1, some (.int x), l3], (.int x :: S), h)) (by decide +kernel) rfl rfl rfl rfl,
  fun l0 l1 l2 l3 x r h => zD_if0 (cnd := .eq) (off := 7) (by decide +kernel) (by decide) rfl,
  fun l0 l1 l2 l3 S h => zD_icst (n := 4) (by decide +kernel) (by decide +kernel),
  fun l0 l1 l2 l3 S h => zD_goto (off := 4) (by decide +kernel) (by decide),
  fun l0 l1 l2 l3 S h => zD_icst (n := 0) (by decide +kernel) (by decide +kernel),
  fun l0 l1 l2 l3 x y r h => zD_op (ins := .iadd) (len := 1) (c := (86, [l0, l1, l2, l3], (.int (x + y) :: r), h)) (by decide +kernel) rfl rfl rfl rfl,
  fun l0 l1 l2 l3 v h => zD_ireti (by decide +kernel) rfl⟩
set_option maxRecDepth 100000 in
theorem E_X10_is_h9 : (∀ (l0 l1 l2 : Option Value) (x : Int32) (S : List Value) (h : zH), zD 116 9 [l0, l1, l2, some (.int x)] S h = zD 116 10 [l0, l1, l2, some (.int x)] (.int x :: S) h) :=
  fun l0 l1 l2 x S h => zD_op (ins := .iload_n 3) (len := 1) (c := (10, [l0, l1, l2, some (.int x)], (.int x :: S), h)) (by decide +kernel) rfl rfl rfl rfl
set_option maxRecDepth 100000 in
theorem I_X10_is : (∀ (a : Nat) (h : zH), zC 116 [.ref a] h = zD 116 0 [some (.ref a), none, none, none] [] h) :=
  fun a h => zC_def rfl
set_option maxRecDepth 100000 in
theorem E_X10_over : (∀ (l0 l2 : Option Value) (x : Int32) (S : List Value) (h : zH), zD 117 0 [l0, some (.int x), l2] S h = zD 117 1 [l0, some (.int x), l2] (.int x :: S) h) ∧
  (∀ (l0 l1 l2 : Option Value) (S : List Value) (h : zH), zD 117 1 [l0, l1, l2] S h = zD 117 2 [l0, l1, l2] (.int (0 : Int32) :: S) h) ∧
  (∀ (l1 l2 : Option Value) (x : Nat) (S : List Value) (h : zH), zD 117 2 [some (.ref x), l1, l2] S h = zD 117 3 [some (.ref x), l1, l2] (.ref x :: S) h) ∧
  (∀ (l0 l1 l2 : Option Value) (a : Nat) (r : List Value) (h : zH) (hx : zfok (h.2.2 a) 9 0 = true), zD 117 3 [l0, l1, l2] (.ref a :: r) h = zD 117 6 [l0, l1, l2] (zfv (h.2.2 a) 0 :: r) h) ∧
  (∀ (l0 l1 l2 : Option Value) (p0 : Int32) (p1 : Int32) (p2 : Int32) (r : List Value) (h : zH) (hcat : zcat r ≤ 8) (hC : (zC 26 [.int p0, .int p1, .int p2] h).isSome = true), zD 117 6 [l0, l1, l2] (.int p2 :: .int p1 :: .int p0 :: r) h = zD 117 9 [l0, l1, l2] (zgv (zC 26 [.int p0, .int p1, .int p2] h) ++ r) (zgh h (zC 26 [.int p0, .int p1, .int p2] h))) ∧
  (∀ (l0 l1 l2 : Option Value) (x : Int32) (r : List Value) (h : zH), zD 117 9 [l0, l1, l2] (.int x :: r) h = if x = 0 then zD 117 20 [l0, l1, l2] r h else zD 117 12 [l0, l1, l2] r h) ∧
  (∀ (l1 l2 : Option Value) (x : Nat) (S : List Value) (h : zH), zD 117 12 [some (.ref x), l1, l2] S h = zD 117 13 [some (.ref x), l1, l2] (.ref x :: S) h) ∧
  (∀ (l0 l1 : Option Value) (x : Int32) (S : List Value) (h : zH), zD 117 13 [l0, l1, some (.int x)] S h = zD 117 14 [l0, l1, some (.int x)] (.int x :: S) h) ∧
  (∀ (l0 l1 l2 : Option Value) (p0 : Int32) (a : Nat) (r : List Value) (h : zH) (hcat : zcat r ≤ 8) (hr : zis (h.2.2 a) 9 = true) (hC : (zC 78 (.ref a :: [.int p0]) h).isSome = true), zD 117 14 [l0, l1, l2] (.int p0 :: .ref a :: r) h = zD 117 17 [l0, l1, l2] (zgv (zC 78 (.ref a :: [.int p0]) h) ++ r) (zgh h (zC 78 (.ref a :: [.int p0]) h))) ∧
  (∀ (l0 l1 l2 : Option Value) (x : Int32) (r : List Value) (h : zH), zD 117 17 [l0, l1, l2] (.int x :: r) h = if ¬ x = 0 then zD 117 23 [l0, l1, l2] r h else zD 117 20 [l0, l1, l2] r h) ∧
  (∀ (l0 l1 l2 : Option Value) (S : List Value) (h : zH), zD 117 20 [l0, l1, l2] S h = zD 117 22 [l0, l1, l2] (.int (-101 : Int32) :: S) h) ∧
  (∀ (l0 l1 l2 : Option Value) (v : Int32) (h : zH), zD 117 22 [l0, l1, l2] [.int v] h = some (some (.int v), h)) ∧
  (∀ (l1 l2 : Option Value) (x : Nat) (S : List Value) (h : zH), zD 117 23 [some (.ref x), l1, l2] S h = zD 117 24 [some (.ref x), l1, l2] (.ref x :: S) h) ∧
  (∀ (l0 l1 l2 : Option Value) (a : Nat) (r : List Value) (h : zH) (hcat : zcat r ≤ 8) (hr : zis (h.2.2 a) 9 = true) (hC : (zC 80 [.ref a] h).isSome = true), zD 117 24 [l0, l1, l2] (.ref a :: r) h = zD 117 27 [l0, l1, l2] (zgv (zC 80 [.ref a] h) ++ r) (zgh h (zC 80 [.ref a] h))) ∧
  (∀ (l0 l1 l2 : Option Value) (x : Int32) (r : List Value) (h : zH), zD 117 27 [l0, l1, l2] (.int x :: r) h = if ¬ x = 0 then zD 117 33 [l0, l1, l2] r h else zD 117 30 [l0, l1, l2] r h) ∧
  (∀ (l0 l1 l2 : Option Value) (S : List Value) (h : zH), zD 117 30 [l0, l1, l2] S h = zD 117 32 [l0, l1, l2] (.int (-103 : Int32) :: S) h) ∧
  (∀ (l0 l1 l2 : Option Value) (v : Int32) (h : zH), zD 117 32 [l0, l1, l2] [.int v] h = some (some (.int v), h)) ∧
  (∀ (l1 l2 : Option Value) (x : Nat) (S : List Value) (h : zH), zD 117 33 [some (.ref x), l1, l2] S h = zD 117 34 [some (.ref x), l1, l2] (.ref x :: S) h) ∧
  (∀ (l0 l2 : Option Value) (x : Int32) (S : List Value) (h : zH), zD 117 34 [l0, some (.int x), l2] S h = zD 117 35 [l0, some (.int x), l2] (.int x :: S) h) ∧
  (∀ (l0 l1 : Option Value) (x : Int32) (S : List Value) (h : zH), zD 117 35 [l0, l1, some (.int x)] S h = zD 117 36 [l0, l1, some (.int x)] (.int x :: S) h) ∧
  (∀ (l0 l1 l2 : Option Value) (p0 : Int32) (p1 : Int32) (a : Nat) (r : List Value) (h : zH) (hcat : zcat r ≤ 8) (hr : zis (h.2.2 a) 9 = true) (hC : (zC 30 (.ref a :: [.int p0, .int p1]) h).isSome = true), zD 117 36 [l0, l1, l2] (.int p1 :: .int p0 :: .ref a :: r) h = zD 117 39 [l0, l1, l2] (zgv (zC 30 (.ref a :: [.int p0, .int p1]) h) ++ r) (zgh h (zC 30 (.ref a :: [.int p0, .int p1]) h))) ∧
  (∀ (l0 l1 l2 : Option Value) (x : Int32) (r : List Value) (h : zH), zD 117 39 [l0, l1, l2] (.int x :: r) h = if x = 0 then zD 117 46 [l0, l1, l2] r h else zD 117 42 [l0, l1, l2] r h) ∧
  (∀ (l0 l1 l2 : Option Value) (S : List Value) (h : zH), zD 117 42 [l0, l1, l2] S h = zD 117 43 [l0, l1, l2] (.int (1 : Int32) :: S) h) ∧
  (∀ (l0 l1 l2 : Option Value) (S : List Value) (h : zH), zD 117 43 [l0, l1, l2] S h = zD 117 47 [l0, l1, l2] S h) ∧
  (∀ (l0 l1 l2 : Option Value) (S : List Value) (h : zH), zD 117 46 [l0, l1, l2] S h = zD 117 47 [l0, l1, l2] (.int (0 : Int32) :: S) h) ∧
  (∀ (l0 l1 l2 : Option Value) (v : Int32) (h : zH), zD 117 47 [l0, l1, l2] [.int v] h = some (some (.int v), h)) :=
  ⟨fun l0 l2 x S h => zD_op (ins := .iload_n 1) (len := 1) (c := (1, [l0, some (.int x), l2], (.int x :: S), h)) (by decide +kernel) rfl rfl rfl rfl,
  fun l0 l1 l2 S h => zD_icst (n := 0) (by decide +kernel) (by decide +kernel),
  fun l1 l2 x S h => zD_op (ins := .aload_n 0) (len := 1) (c := (3, [some (.ref x), l1, l2], (.ref x :: S), h)) (by decide +kernel) rfl rfl rfl rfl,
  fun l0 l1 l2 a r h hx => zD_getf (i := 7) (ci := 9) (k := 0) (q := (711, 0)) (by decide +kernel) (by decide +kernel) hx,
  fun l0 l1 l2 p0 p1 p2 r h hcat hC => zD_calls (i := 77) (y := 26) (n := 3) (as := [.int p0, .int p1, .int p2]) (by decide +kernel) (by decide +kernel) rfl (by decide +kernel) (Nat.le_of_ble_eq_true rfl) hcat hC,
  fun l0 l1 l2 x r h => zD_if0 (cnd := .eq) (off := 11) (by decide +kernel) (by decide) rfl,
  fun l1 l2 x S h => zD_op (ins := .aload_n 0) (len := 1) (c := (13, [some (.ref x), l1, l2], (.ref x :: S), h)) (by decide +kernel) rfl rfl rfl rfl,
  fun l0 l1 x S h => zD_op (ins := .iload_n 2) (len := 1) (c := (14, [l0, l1, some (.int x)], (.int x :: S), h)) (by decide +kernel) rfl rfl rfl rfl,
  fun l0 l1 l2 p0 a r h hcat hr hC => zD_callv (i := 85) (y := 78) (n := 1) (as := [.int p0]) (ci := 9) (by decide +kernel) (by decide +kernel) rfl (by decide +kernel) (Nat.le_of_ble_eq_true rfl) (by decide +kernel) hcat hr hC,
  fun l0 l1 l2 x r h => zD_if0 (cnd := .ne) (off := 6) (by decide +kernel) (by decide) rfl,
  fun l0 l1 l2 S h => zD_bip (n := (-101)) (by decide +kernel) (by decide +kernel),
  fun l0 l1 l2 v h => zD_ireti (by decide +kernel) rfl,
  fun l1 l2 x S h => zD_op (ins := .aload_n 0) (len := 1) (c := (24, [some (.ref x), l1, l2], (.ref x :: S), h)) (by decide +kernel) rfl rfl rfl rfl,
  fun l0 l1 l2 a r h hcat hr hC => zD_callv (i := 105) (y := 80) (n := 0) (as := []) (ci := 9) (by decide +kernel) (by decide +kernel) rfl (by decide +kernel) (Nat.le_of_ble_eq_true rfl) (by decide +kernel) hcat hr hC,
  fun l0 l1 l2 x r h => zD_if0 (cnd := .ne) (off := 6) (by decide +kernel) (by decide) rfl,
  fun l0 l1 l2 S h => zD_bip (n := (-103)) (by decide +kernel) (by decide +kernel),
  fun l0 l1 l2 v h => zD_ireti (by decide +kernel) rfl,
  fun l1 l2 x S h => zD_op (ins := .aload_n 0) (len := 1) (c := (34, [some (.ref x), l1, l2], (.ref x :: S), h)) (by decide +kernel) rfl rfl rfl rfl,
  fun l0 l2 x S h => zD_op (ins := .iload_n 1) (len := 1) (c := (35, [l0, some (.int x), l2], (.int x :: S), h)) (by decide +kernel) rfl rfl rfl rfl,
  fun l0 l1 x S h => zD_op (ins := .iload_n 2) (len := 1) (c := (36, [l0, l1, some (.int x)], (.int x :: S), h)) (by decide +kernel) rfl rfl rfl rfl,
  fun l0 l1 l2 p0 p1 a r h hcat hr hC => zD_callv (i := 96) (y := 30) (n := 2) (as := [.int p0, .int p1]) (ci := 9) (by decide +kernel) (by decide +kernel) rfl (by decide +kernel) (Nat.le_of_ble_eq_true rfl) (by decide +kernel) hcat hr hC,
  fun l0 l1 l2 x r h => zD_if0 (cnd := .eq) (off := 7) (by decide +kernel) (by decide) rfl,
  fun l0 l1 l2 S h => zD_icst (n := 1) (by decide +kernel) (by decide +kernel),
  fun l0 l1 l2 S h => zD_goto (off := 4) (by decide +kernel) (by decide),
  fun l0 l1 l2 S h => zD_icst (n := 0) (by decide +kernel) (by decide +kernel),
  fun l0 l1 l2 v h => zD_ireti (by decide +kernel) rfl⟩
set_option maxRecDepth 100000 in
theorem I_X10_over : (∀ (a : Nat) (p0 : Int32) (p1 : Int32) (h : zH), zC 117 [.ref a, .int p0, .int p1] h = zD 117 0 [some (.ref a), some (.int p0), some (.int p1)] [] h) :=
  fun a p0 p1 h => zC_def rfl
set_option maxRecDepth 100000 in
theorem E_X10_about : (∀ (l1 l2 l3 l4 l5 l6 l7 : Option Value) (x : Nat) (S : List Value) (h : zH), zD 118 0 [some (.ref x), l1, l2, l3, l4, l5, l6, l7] S h = zD 118 1 [some (.ref x), l1, l2, l3, l4, l5, l6, l7] (.ref x :: S) h) ∧
  (∀ (l0 l2 l3 l4 l5 l6 l7 : Option Value) (x : Int32) (S : List Value) (h : zH), zD 118 1 [l0, some (.int x), l2, l3, l4, l5, l6, l7] S h = zD 118 2 [l0, some (.int x), l2, l3, l4, l5, l6, l7] (.int x :: S) h) ∧
  (∀ (l0 l1 l2 l3 l4 l5 l6 l7 : Option Value) (p0 : Int32) (a : Nat) (r : List Value) (h : zH) (hcat : zcat r ≤ 8) (hr : zis (h.2.2 a) 9 = true) (hC : (zC 78 (.ref a :: [.int p0]) h).isSome = true), zD 118 2 [l0, l1, l2, l3, l4, l5, l6, l7] (.int p0 :: .ref a :: r) h = zD 118 5 [l0, l1, l2, l3, l4, l5, l6, l7] (zgv (zC 78 (.ref a :: [.int p0]) h) ++ r) (zgh h (zC 78 (.ref a :: [.int p0]) h))) ∧
  (∀ (l0 l1 l2 l3 l4 l5 l6 l7 : Option Value) (x : Int32) (r : List Value) (h : zH), zD 118 5 [l0, l1, l2, l3, l4, l5, l6, l7] (.int x :: r) h = if ¬ x = 0 then zD 118 11 [l0, l1, l2, l3, l4, l5, l6, l7] r h else zD 118 8 [l0, l1, l2, l3, l4, l5, l6, l7] r h) ∧
  (∀ (l0 l1 l2 l3 l4 l5 l6 l7 : Option Value) (S : List Value) (h : zH), zD 118 8 [l0, l1, l2, l3, l4, l5, l6, l7] S h = zD 118 10 [l0, l1, l2, l3, l4, l5, l6, l7] (.int (-101 : Int32) :: S) h) ∧
  (∀ (l0 l1 l2 l3 l4 l5 l6 l7 : Option Value) (v : Int32) (h : zH), zD 118 10 [l0, l1, l2, l3, l4, l5, l6, l7] [.int v] h = some (some (.int v), h)) ∧
  (∀ (l0 l1 l3 l4 l5 l6 l7 : Option Value) (x : Int32) (S : List Value) (h : zH), zD 118 11 [l0, l1, some (.int x), l3, l4, l5, l6, l7] S h = zD 118 12 [l0, l1, some (.int x), l3, l4, l5, l6, l7] (.int x :: S) h) ∧
  (∀ (l0 l1 l2 l3 l4 l5 l6 l7 : Option Value) (S : List Value) (h : zH), zD 118 12 [l0, l1, l2, l3, l4, l5, l6, l7] S h = zD 118 13 [l0, l1, l2, l3, l4, l5, l6, l7] (.int (0 : Int32) :: S) h) ∧
  (∀ (l0 l1 l2 l3 l4 l5 l6 l7 : Option Value) (S : List Value) (h : zH), zD 118 13 [l0, l1, l2, l3, l4, l5, l6, l7] S h = zD 118 14 [l0, l1, l2, l3, l4, l5, l6, l7] (.int (3 : Int32) :: S) h) ∧
  (∀ (l0 l1 l2 l3 l4 l5 l6 l7 : Option Value) (p0 : Int32) (p1 : Int32) (p2 : Int32) (r : List Value) (h : zH) (hcat : zcat r ≤ 8) (hC : (zC 26 [.int p0, .int p1, .int p2] h).isSome = true), zD 118 14 [l0, l1, l2, l3, l4, l5, l6, l7] (.int p2 :: .int p1 :: .int p0 :: r) h = zD 118 17 [l0, l1, l2, l3, l4, l5, l6, l7] (zgv (zC 26 [.int p0, .int p1, .int p2] h) ++ r) (zgh h (zC 26 [.int p0, .int p1, .int p2] h))) ∧
  (∀ (l0 l1 l2 l3 l4 l5 l6 l7 : Option Value) (x : Int32) (r : List Value) (h : zH), zD 118 17 [l0, l1, l2, l3, l4, l5, l6, l7] (.int x :: r) h = if ¬ x = 0 then zD 118 23 [l0, l1, l2, l3, l4, l5, l6, l7] r h else zD 118 20 [l0, l1, l2, l3, l4, l5, l6, l7] r h) ∧
  (∀ (l0 l1 l2 l3 l4 l5 l6 l7 : Option Value) (S : List Value) (h : zH), zD 118 20 [l0, l1, l2, l3, l4, l5, l6, l7] S h = zD 118 22 [l0, l1, l2, l3, l4, l5, l6, l7] (.int (-102 : Int32) :: S) h) ∧
  (∀ (l0 l1 l2 l3 l4 l5 l6 l7 : Option Value) (v : Int32) (h : zH), zD 118 22 [l0, l1, l2, l3, l4, l5, l6, l7] [.int v] h = some (some (.int v), h)) ∧
  (∀ (l1 l2 l3 l4 l5 l6 l7 : Option Value) (x : Nat) (S : List Value) (h : zH), zD 118 23 [some (.ref x), l1, l2, l3, l4, l5, l6, l7] S h = zD 118 24 [some (.ref x), l1, l2, l3, l4, l5, l6, l7] (.ref x :: S) h) ∧
  (∀ (l0 l1 l2 l3 l4 l5 l6 l7 : Option Value) (a : Nat) (r : List Value) (h : zH) (hcat : zcat r ≤ 8) (hr : zis (h.2.2 a) 9 = true) (hC : (zC 80 [.ref a] h).isSome = true), zD 118 24 [l0, l1, l2, l3, l4, l5, l6, l7] (.ref a :: r) h = zD 118 27 [l0, l1, l2, l3, l4, l5, l6, l7] (zgv (zC 80 [.ref a] h) ++ r) (zgh h (zC 80 [.ref a] h))) ∧
  (∀ (l0 l1 l2 l3 l4 l5 l6 l7 : Option Value) (x : Int32) (r : List Value) (h : zH), zD 118 27 [l0, l1, l2, l3, l4, l5, l6, l7] (.int x :: r) h = if ¬ x = 0 then zD 118 33 [l0, l1, l2, l3, l4, l5, l6, l7] r h else zD 118 30 [l0, l1, l2, l3, l4, l5, l6, l7] r h) ∧
  (∀ (l0 l1 l2 l3 l4 l5 l6 l7 : Option Value) (S : List Value) (h : zH), zD 118 30 [l0, l1, l2, l3, l4, l5, l6, l7] S h = zD 118 32 [l0, l1, l2, l3, l4, l5, l6, l7] (.int (-103 : Int32) :: S) h) ∧
  (∀ (l0 l1 l2 l3 l4 l5 l6 l7 : Option Value) (v : Int32) (h : zH), zD 118 32 [l0, l1, l2, l3, l4, l5, l6, l7] [.int v] h = some (some (.int v), h)) ∧
  (∀ (l0 l1 l2 l3 l4 l5 l6 l7 : Option Value) (S : List Value) (h : zH), zD 118 33 [l0, l1, l2, l3, l4, l5, l6, l7] S h = zD 118 34 [l0, l1, l2, l3, l4, l5, l6, l7] (.int (0 : Int32) :: S) h) ∧
  (∀ (l0 l1 l2 l3 l4 l5 l6 l7 : Option Value) (x : Int32) (r : List Value) (h : zH), zD 118 34 [l0, l1, l2, l3, l4, l5, l6, l7] (.int x :: r) h = zD 118 35 [l0, l1, zclr l2, some (.int x), l4, l5, l6, l7] r h) ∧
  (∀ (l1 l2 l3 l4 l5 l6 l7 : Option Value) (x : Nat) (S : List Value) (h : zH), zD 118 35 [some (.ref x), l1, l2, l3, l4, l5, l6, l7] S h = zD 118 36 [some (.ref x), l1, l2, l3, l4, l5, l6, l7] (.ref x :: S) h) ∧
  (∀ (l0 l1 l2 l3 l4 l5 l6 l7 : Option Value) (a : Nat) (r : List Value) (h : zH) (hx : zfok (h.2.2 a) 9 19 = true), zD 118 36 [l0, l1, l2, l3, l4, l5, l6, l7] (.ref a :: r) h = zD 118 39 [l0, l1, l2, l3, l4, l5, l6, l7] (zfv (h.2.2 a) 19 :: r) h) ∧
  (∀ (l0 l2 l3 l4 l5 l6 l7 : Option Value) (x : Int32) (S : List Value) (h : zH), zD 118 39 [l0, some (.int x), l2, l3, l4, l5, l6, l7] S h = zD 118 40 [l0, some (.int x), l2, l3, l4, l5, l6, l7] (.int x :: S) h) ∧
  (∀ (l0 l1 l2 l3 l4 l5 l6 l7 : Option Value) (i : Int32) (a : Nat) (r : List Value) (h : zH) (hx : ziok a (h.2.2 a) i = true), zD 118 40 [l0, l1, l2, l3, l4, l5, l6, l7] (.int i :: .ref a :: r) h = zD 118 41 [l0, l1, l2, l3, l4, l5, l6, l7] (.int (ziv (h.2.2 a) i) :: r) h) ∧
  (∀ (l0 l1 l2 l3 l4 l5 l6 l7 : Option Value) (x : Int32) (r : List Value) (h : zH), zD 118 41 [l0, l1, l2, l3, l4, l5, l6, l7] (.int x :: r) h = zD 118 43 [l0, l1, l2, zclr l3, some (.int x), l5, l6, l7] r h) ∧
  (∀ (l0 l1 l2 l3 l4 l5 l6 l7 : Option Value) (x : Int32) (r : List Value) (h : zH), zD 118 45 [l0, l1, l2, l3, l4, l5, l6, l7] (.int x :: r) h = if x ≤ 0 then zD 118 63 [l0, l1, l2, l3, l4, l5, l6, l7] r h else zD 118 48 [l0, l1, l2, l3, l4, l5, l6, l7] r h) ∧
  (∀ (l0 l1 l2 l4 l5 l6 l7 : Option Value) (x : Int32) (S : List Value) (h : zH), zD 118 48 [l0, l1, l2, some (.int x), l4, l5, l6, l7] S h = zD 118 51 [l0, l1, zclr l2, some (.int (x + (1 : Int32))), l4, l5, l6, l7] S h) ∧
  (∀ (l1 l2 l3 l4 l5 l6 l7 : Option Value) (x : Nat) (S : List Value) (h : zH), zD 118 51 [some (.ref x), l1, l2, l3, l4, l5, l6, l7] S h = zD 118 52 [some (.ref x), l1, l2, l3, l4, l5, l6, l7] (.ref x :: S) h) ∧
  (∀ (l0 l1 l2 l3 l4 l5 l6 l7 : Option Value) (a : Nat) (r : List Value) (h : zH) (hx : zfok (h.2.2 a) 9 19 = true), zD 118 52 [l0, l1, l2, l3, l4, l5, l6, l7] (.ref a :: r) h = zD 118 55 [l0, l1, l2, l3, l4, l5, l6, l7] (zfv (h.2.2 a) 19 :: r) h) ∧
  (∀ (l0 l1 l2 l3 l5 l6 l7 : Option Value) (x : Int32) (S : List Value) (h : zH), zD 118 55 [l0, l1, l2, l3, some (.int x), l5, l6, l7] S h = zD 118 57 [l0, l1, l2, l3, some (.int x), l5, l6, l7] (.int x :: S) h) ∧
  (∀ (l0 l1 l2 l3 l4 l5 l6 l7 : Option Value) (i : Int32) (a : Nat) (r : List Value) (h : zH) (hx : ziok a (h.2.2 a) i = true), zD 118 57 [l0, l1, l2, l3, l4, l5, l6, l7] (.int i :: .ref a :: r) h = zD 118 58 [l0, l1, l2, l3, l4, l5, l6, l7] (.int (ziv (h.2.2 a) i) :: r) h) ∧
  (∀ (l0 l1 l2 l3 l4 l5 l6 l7 : Option Value) (x : Int32) (r : List Value) (h : zH), zD 118 58 [l0, l1, l2, l3, l4, l5, l6, l7] (.int x :: r) h = zD 118 60 [l0, l1, l2, zclr l3, some (.int x), l5, l6, l7] r h) ∧
  (∀ (l0 l1 l2 l3 l4 l5 l6 l7 : Option Value) (S : List Value) (h : zH), zD 118 60 [l0, l1, l2, l3, l4, l5, l6, l7] S h = zD 118 43 [l0, l1, l2, l3, l4, l5, l6, l7] S h) ∧
  (∀ (l0 l1 l2 l3 l4 l5 l6 l7 : Option Value) (S : List Value) (h : zH), zD 118 63 [l0, l1, l2, l3, l4, l5, l6, l7] S h = zD 118 64 [l0, l1, l2, l3, l4, l5, l6, l7] (.int (0 : Int32) :: S) h) ∧
  (∀ (l0 l1 l2 l3 l4 l5 l6 l7 : Option Value) (x : Int32) (r : List Value) (h : zH), zD 118 64 [l0, l1, l2, l3, l4, l5, l6, l7] (.int x :: r) h = zD 118 66 [l0, l1, l2, zclr l3, some (.int x), l5, l6, l7] r h) ∧
  (∀ (l0 l2 l3 l4 l5 l6 l7 : Option Value) (x : Int32) (S : List Value) (h : zH), zD 118 66 [l0, some (.int x), l2, l3, l4, l5, l6, l7] S h = zD 118 67 [l0, some (.int x), l2, l3, l4, l5, l6, l7] (.int x :: S) h) ∧
  (∀ (l0 l1 l2 l3 l4 l5 l6 l7 : Option Value) (x : Int32) (r : List Value) (h : zH), zD 118 67 [l0, l1, l2, l3, l4, l5, l6, l7] (.int x :: r) h = zD 118 69 [l0, l1, l2, l3, zclr l4, some (.int x), l6, l7] r h) ∧
  (∀ (l0 l2 l3 l4 l5 l6 l7 : Option Value) (x : Int32) (S : List Value) (h : zH), zD 118 69 [l0, some (.int x), l2, l3, l4, l5, l6, l7] S h = zD 118 70 [l0, some (.int x), l2, l3, l4, l5, l6, l7] (.int x :: S) h) ∧
  (∀ (l0 l1 l2 l3 l4 l5 l6 l7 : Option Value) (x : Int32) (r : List Value) (h : zH), zD 118 70 [l0, l1, l2, l3, l4, l5, l6, l7] (.int x :: r) h = zD 118 72 [l0, l1, l2, l3, l4, zclr l5, some (.int x), l7] r h) ∧
  (∀ (l0 l1 l2 l3 l4 l5 l6 l7 : Option Value) (S : List Value) (h : zH), zD 118 72 [l0, l1, l2, l3, l4, l5, l6, l7] S h = zD 118 73 [l0, l1, l2, l3, l4, l5, l6, l7] (.int (1 : Int32) :: S) h) ∧
  (∀ (l0 l1 l2 l3 l4 l5 l6 l7 : Option Value) (x : Int32) (r : List Value) (h : zH), zD 118 73 [l0, l1, l2, l3, l4, l5, l6, l7] (.int x :: r) h = zD 118 75 [l0, l1, l2, l3, l4, l5, zclr l6, some (.int x)] r h) ∧
  (∀ (l1 l2 l3 l4 l5 l6 l7 : Option Value) (x : Nat) (S : List Value) (h : zH), zD 118 77 [some (.ref x), l1, l2, l3, l4, l5, l6, l7] S h = zD 118 78 [some (.ref x), l1, l2, l3, l4, l5, l6, l7] (.ref x :: S) h) ∧
  (∀ (l0 l1 l2 l3 l4 l5 l6 l7 : Option Value) (a : Nat) (r : List Value) (h : zH) (hx : zfok (h.2.2 a) 9 0 = true), zD 118 78 [l0, l1, l2, l3, l4, l5, l6, l7] (.ref a :: r) h = zD 118 81 [l0, l1, l2, l3, l4, l5, l6, l7] (zfv (h.2.2 a) 0 :: r) h) ∧
  (∀ (l0 l1 l2 l3 l4 l5 l6 l7 : Option Value) (x y : Int32) (r : List Value) (h : zH), zD 118 81 [l0, l1, l2, l3, l4, l5, l6, l7] (.int y :: .int x :: r) h = if y < x then zD 118 141 [l0, l1, l2, l3, l4, l5, l6, l7] r h else zD 118 84 [l0, l1, l2, l3, l4, l5, l6, l7] r h) ∧
  (∀ (l0 l1 l2 l3 l4 l5 l6 : Option Value) (x : Int32) (S : List Value) (h : zH), zD 118 84 [l0, l1, l2, l3, l4, l5, l6, some (.int x)] S h = zD 118 86 [l0, l1, l2, l3, l4, l5, l6, some (.int x)] (.int x :: S) h) ∧
  (∀ (l0 l2 l3 l4 l5 l6 l7 : Option Value) (x : Int32) (S : List Value) (h : zH), zD 118 86 [l0, some (.int x), l2, l3, l4, l5, l6, l7] S h = zD 118 87 [l0, some (.int x), l2, l3, l4, l5, l6, l7] (.int x :: S) h) ∧
  (∀ (l0 l1 l2 l3 l4 l5 l6 l7 : Option Value) (x y : Int32) (r : List Value) (h : zH), zD 118 87 [l0, l1, l2, l3, l4, l5, l6, l7] (.int y :: .int x :: r) h = if x = y then zD 118 135 [l0, l1, l2, l3, l4, l5, l6, l7] r h else zD 118 90 [l0, l1, l2, l3, l4, l5, l6, l7] r h) ∧
  (∀ (l1 l2 l3 l4 l5 l6 l7 : Option Value) (x : Nat) (S : List Value) (h : zH), zD 118 90 [some (.ref x), l1, l2, l3, l4, l5, l6, l7] S h = zD 118 91 [some (.ref x), l1, l2, l3, l4, l5, l6, l7] (.ref x :: S) h) ∧
  (∀ (l0 l2 l3 l4 l5 l6 l7 : Option Value) (x : Int32) (S : List Value) (h : zH), zD 118 91 [l0, some (.int x), l2, l3, l4, l5, l6, l7] S h = zD 118 92 [l0, some (.int x), l2, l3, l4, l5, l6, l7] (.int x :: S) h) ∧
  (∀ (l0 l1 l2 l3 l4 l5 l6 : Option Value) (x : Int32) (S : List Value) (h : zH), zD 118 92 [l0, l1, l2, l3, l4, l5, l6, some (.int x)] S h = zD 118 94 [l0, l1, l2, l3, l4, l5, l6, some (.int x)] (.int x :: S) h) ∧
  (∀ (l0 l1 l2 l3 l4 l5 l6 l7 : Option Value) (p0 : Int32) (p1 : Int32) (a : Nat) (r : List Value) (h : zH) (hcat : zcat r ≤ 8) (hr : zis (h.2.2 a) 9 = true) (hC : (zC 30 (.ref a :: [.int p0, .int p1]) h).isSome = true), zD 118 94 [l0, l1, l2, l3, l4, l5, l6, l7] (.int p1 :: .int p0 :: .ref a :: r) h = zD 118 97 [l0, l1, l2, l3, l4, l5, l6, l7] (zgv (zC 30 (.ref a :: [.int p0, .int p1]) h) ++ r) (zgh h (zC 30 (.ref a :: [.int p0, .int p1]) h))) ∧
  (∀ (l0 l1 l2 l3 l4 l5 l6 l7 : Option Value) (x : Int32) (r : List Value) (h : zH), zD 118 97 [l0, l1, l2, l3, l4, l5, l6, l7] (.int x :: r) h = if x = 0 then zD 118 135 [l0, l1, l2, l3, l4, l5, l6, l7] r h else zD 118 100 [l0, l1, l2, l3, l4, l5, l6, l7] r h) ∧
  (∀ (l0 l1 l2 l3 l5 l6 l7 : Option Value) (x : Int32) (S : List Value) (h : zH), zD 118 100 [l0, l1, l2, l3, some (.int x), l5, l6, l7] S h = zD 118 103 [l0, l1, l2, zclr l3, some (.int (x + (1 : Int32))), l5, l6, l7] S h) ∧
  (∀ (l0 l1 l2 l3 l4 l5 l6 : Option Value) (x : Int32) (S : List Value) (h : zH), zD 118 103 [l0, l1, l2, l3, l4, l5, l6, some (.int x)] S h = zD 118 105 [l0, l1, l2, l3, l4, l5, l6, some (.int x)] (.int x :: S) h) ∧
  (∀ (l0 l1 l2 l3 l4 l6 l7 : Option Value) (x : Int32) (S : List Value) (h : zH), zD 118 105 [l0, l1, l2, l3, l4, some (.int x), l6, l7] S h = zD 118 107 [l0, l1, l2, l3, l4, some (.int x), l6, l7] (.int x :: S) h) ∧
  (∀ (l0 l1 l2 l3 l4 l5 l6 l7 : Option Value) (x y : Int32) (r : List Value) (h : zH), zD 118 107 [l0, l1, l2, l3, l4, l5, l6, l7] (.int y :: .int x :: r) h = if y ≤ x then zD 118 115 [l0, l1, l2, l3, l4, l5, l6, l7] r h else zD 118 110 [l0, l1, l2, l3, l4, l5, l6, l7] r h) ∧
  (∀ (l0 l1 l2 l3 l4 l5 l6 : Option Value) (x : Int32) (S : List Value) (h : zH), zD 118 110 [l0, l1, l2, l3, l4, l5, l6, some (.int x)] S h = zD 118 112 [l0, l1, l2, l3, l4, l5, l6, some (.int x)] (.int x :: S) h) ∧
  (∀ (l0 l1 l2 l3 l4 l5 l6 l7 : Option Value) (S : List Value) (h : zH), zD 118 112 [l0, l1, l2, l3, l4, l5, l6, l7] S h = zD 118 117 [l0, l1, l2, l3, l4, l5, l6, l7] S h) ∧
  (∀ (l0 l1 l2 l3 l4 l6 l7 : Option Value) (x : Int32) (S : List Value) (h : zH), zD 118 115 [l0, l1, l2, l3, l4, some (.int x), l6, l7] S h = zD 118 117 [l0, l1, l2, l3, l4, some (.int x), l6, l7] (.int x :: S) h) ∧
  (∀ (l0 l1 l2 l3 l4 l5 l6 l7 : Option Value) (x : Int32) (r : List Value) (h : zH), zD 118 117 [l0, l1, l2, l3, l4, l5, l6, l7] (.int x :: r) h = zD 118 119 [l0, l1, l2, l3, zclr l4, some (.int x), l6, l7] r h) ∧
  (∀ (l0 l1 l2 l3 l4 l5 l6 : Option Value) (x : Int32) (S : List Value) (h : zH), zD 118 119 [l0, l1, l2, l3, l4, l5, l6, some (.int x)] S h = zD 118 121 [l0, l1, l2, l3, l4, l5, l6, some (.int x)] (.int x :: S) h) ∧
  (∀ (l0 l1 l2 l3 l4 l5 l7 : Option Value) (x : Int32) (S : List Value) (h : zH), zD 118 121 [l0, l1, l2, l3, l4, l5, some (.int x), l7] S h = zD 118 123 [l0, l1, l2, l3, l4, l5, some (.int x), l7] (.int x :: S) h) ∧
  (∀ (l0 l1 l2 l3 l4 l5 l6 l7 : Option Value) (x y : Int32) (r : List Value) (h : zH), zD 118 123 [l0, l1, l2, l3, l4, l5, l6, l7] (.int y :: .int x :: r) h = if x ≤ y then zD 118 131 [l0, l1, l2, l3, l4, l5, l6, l7] r h else zD 118 126 [l0, l1, l2, l3, l4, l5, l6, l7] r h) ∧
  (∀ (l0 l1 l2 l3 l4 l5 l6 : Option Value) (x : Int32) (S : List Value) (h : zH), zD 118 126 [l0, l1, l2, l3, l4, l5, l6, some (.int x)] S h = zD 118 128 [l0, l1, l2, l3, l4, l5, l6, some (.int x)] (.int x :: S) h) ∧
  (∀ (l0 l1 l2 l3 l4 l5 l6 l7 : Option Value) (S : List Value) (h : zH), zD 118 128 [l0, l1, l2, l3, l4, l5, l6, l7] S h = zD 118 133 [l0, l1, l2, l3, l4, l5, l6, l7] S h) ∧
  (∀ (l0 l1 l2 l3 l4 l5 l7 : Option Value) (x : Int32) (S : List Value) (h : zH), zD 118 131 [l0, l1, l2, l3, l4, l5, some (.int x), l7] S h = zD 118 133 [l0, l1, l2, l3, l4, l5, some (.int x), l7] (.int x :: S) h) ∧
  (∀ (l0 l1 l2 l3 l4 l5 l6 l7 : Option Value) (x : Int32) (r : List Value) (h : zH), zD 118 133 [l0, l1, l2, l3, l4, l5, l6, l7] (.int x :: r) h = zD 118 135 [l0, l1, l2, l3, l4, zclr l5, some (.int x), l7] r h) ∧
  (∀ (l0 l1 l2 l3 l4 l5 l6 : Option Value) (x : Int32) (S : List Value) (h : zH), zD 118 135 [l0, l1, l2, l3, l4, l5, l6, some (.int x)] S h = zD 118 138 [l0, l1, l2, l3, l4, l5, zclr l6, some (.int (x + (1 : Int32)))] S h) ∧
  (∀ (l0 l1 l2 l3 l4 l5 l6 l7 : Option Value) (S : List Value) (h : zH), zD 118 138 [l0, l1, l2, l3, l4, l5, l6, l7] S h = zD 118 75 [l0, l1, l2, l3, l4, l5, l6, l7] S h) ∧
  (∀ (l0 l1 l3 l4 l5 l6 l7 : Option Value) (x : Int32) (S : List Value) (h : zH), zD 118 141 [l0, l1, some (.int x), l3, l4, l5, l6, l7] S h = zD 118 142 [l0, l1, some (.int x), l3, l4, l5, l6, l7] (.int x :: S) h) ∧
  (∀ (l0 l1 l2 l3 l4 l5 l6 l7 : Option Value) (x : Int32) (r : List Value) (h : zH), zD 118 142 [l0, l1, l2, l3, l4, l5, l6, l7] (.int x :: r) h = if ¬ x = 0 then zD 118 149 [l0, l1, l2, l3, l4, l5, l6, l7] r h else zD 118 145 [l0, l1, l2, l3, l4, l5, l6, l7] r h) ∧
  (∀ (l0 l1 l2 l4 l5 l6 l7 : Option Value) (x : Int32) (S : List Value) (h : zH), zD 118 145 [l0, l1, l2, some (.int x), l4, l5, l6, l7] S h = zD 118 146 [l0, l1, l2, some (.int x), l4, l5, l6, l7] (.int x :: S) h) ∧
  (∀ (l0 l1 l2 l3 l4 l5 l6 l7 : Option Value) (S : List Value) (h : zH), zD 118 146 [l0, l1, l2, l3, l4, l5, l6, l7] S h = zD 118 171 [l0, l1, l2, l3, l4, l5, l6, l7] S h) ∧
  (∀ (l0 l1 l3 l4 l5 l6 l7 : Option Value) (x : Int32) (S : List Value) (h : zH), zD 118 149 [l0, l1, some (.int x), l3, l4, l5, l6, l7] S h = zD 118 150 [l0, l1, some (.int x), l3, l4, l5, l6, l7] (.int x :: S) h) ∧
  (∀ (l0 l1 l2 l3 l4 l5 l6 l7 : Option Value) (S : List Value) (h : zH), zD 118 150 [l0, l1, l2, l3, l4, l5, l6, l7] S h = zD 118 151 [l0, l1, l2, l3, l4, l5, l6, l7] (.int (1 : Int32) :: S) h) ∧
  (∀ (l0 l1 l2 l3 l4 l5 l6 l7 : Option Value) (x y : Int32) (r : List Value) (h : zH), zD 118 151 [l0, l1, l2, l3, l4, l5, l6, l7] (.int y :: .int x :: r) h = if ¬ x = y then zD 118 159 [l0, l1, l2, l3, l4, l5, l6, l7] r h else zD 118 154 [l0, l1, l2, l3, l4, l5, l6, l7] r h) ∧
  (∀ (l0 l1 l2 l3 l5 l6 l7 : Option Value) (x : Int32) (S : List Value) (h : zH), zD 118 154 [l0, l1, l2, l3, some (.int x), l5, l6, l7] S h = zD 118 156 [l0, l1, l2, l3, some (.int x), l5, l6, l7] (.int x :: S) h) ∧
  (∀ (l0 l1 l2 l3 l4 l5 l6 l7 : Option Value) (S : List Value) (h : zH), zD 118 156 [l0, l1, l2, l3, l4, l5, l6, l7] S h = zD 118 171 [l0, l1, l2, l3, l4, l5, l6, l7] S h) ∧
  (∀ (l0 l1 l3 l4 l5 l6 l7 : Option Value) (x : Int32) (S : List Value) (h : zH), zD 118 159 [l0, l1, some (.int x), l3, l4, l5, l6, l7] S h = zD 118 160 [l0, l1, some (.int x), l3, l4, l5, l6, l7] (.int x :: S) h) ∧
  (∀ (l0 l1 l2 l3 l4 l5 l6 l7 : Option Value) (S : List Value) (h : zH), zD 118 160 [l0, l1, l2, l3, l4, l5, l6, l7] S h = zD 118 161 [l0, l1, l2, l3, l4, l5, l6, l7] (.int (2 : Int32) :: S) h) ∧
  (∀ (l0 l1 l2 l3 l4 l5 l6 l7 : Option Value) (x y : Int32) (r : List Value) (h : zH), zD 118 161 [l0, l1, l2, l3, l4, l5, l6, l7] (.int y :: .int x :: r) h = if ¬ x = y then zD 118 169 [l0, l1, l2, l3, l4, l5, l6, l7] r h else zD 118 164 [l0, l1, l2, l3, l4, l5, l6, l7] r h) ∧
  (∀ (l0 l1 l2 l3 l4 l6 l7 : Option Value) (x : Int32) (S : List Value) (h : zH), zD 118 164 [l0, l1, l2, l3, l4, some (.int x), l6, l7] S h = zD 118 166 [l0, l1, l2, l3, l4, some (.int x), l6, l7] (.int x :: S) h) ∧
  (∀ (l0 l1 l2 l3 l4 l5 l6 l7 : Option Value) (S : List Value) (h : zH), zD 118 166 [l0, l1, l2, l3, l4, l5, l6, l7] S h = zD 118 171 [l0, l1, l2, l3, l4, l5, l6, l7] S h) ∧
  (∀ (l0 l1 l2 l3 l4 l5 l7 : Option Value) (x : Int32) (S : List Value) (h : zH), zD 118 169 [l0, l1, l2, l3, l4, l5, some (.int x), l7] S h = zD 118 171 [l0, l1, l2, l3, l4, l5, some (.int x), l7] (.int x :: S) h) ∧
  (∀ (l0 l1 l2 l3 l4 l5 l6 l7 : Option Value) (v : Int32) (h : zH), zD 118 171 [l0, l1, l2, l3, l4, l5, l6, l7] [.int v] h = some (some (.int v), h)) :=
  ⟨fun l1 l2 l3 l4 l5 l6 l7 x S h => zD_op (ins := .aload_n 0) (len := 1) (c := (1, [some (.ref x), l1, l2, l3, l4, l5, l6, l7], (.ref x :: S), h)) (by decide +kernel) rfl rfl rfl rfl,
  fun l0 l2 l3 l4 l5 l6 l7 x S h => zD_op (ins := .iload_n 1) (len := 1) (c := (2, [l0, some (.int x), l2, l3, l4, l5, l6, l7], (.int x :: S), h)) (by decide +kernel) rfl rfl rfl rfl,
  fun l0 l1 l2 l3 l4 l5 l6 l7 p0 a r h hcat hr hC => zD_callv (i := 85) (y := 78) (n := 1) (as := [.int p0]) (ci := 9) (by decide +kernel) (by decide +kernel) rfl (by decide +kernel) (Nat.le_of_ble_eq_true rfl) (by decide +kernel) hcat hr hC,
  fun l0 l1 l2 l3 l4 l5 l6 l7 x r h => zD_if0 (cnd := .ne) (off := 6) (by decide +kernel) (by decide) rfl,
  fun l0 l1 l2 l3 l4 l5 l6 l7 S h => zD_bip (n := (-101)) (by decide +kernel) (by decide +kernel),
  fun l0 l1 l2 l3 l4 l5 l6 l7 v h => zD_ireti (by decide +kernel) rfl,
  fun l0 l1 l3 l4 l5 l6 l7 x S h => zD_op (ins := .iload_n 2) (len := 1) (c := (12, [l0, l1, some (.int x), l3, l4, l5, l6, l7], (.int x :: S), h)) (by decide +kernel) rfl rfl rfl rfl,
  fun l0 l1 l2 l3 l4 l5 l6 l7 S h => zD_icst (n := 0) (by decide +kernel) (by decide +kernel),
  fun l0 l1 l2 l3 l4 l5 l6 l7 S h => zD_icst (n := 3) (by decide +kernel) (by decide +kernel),
  fun l0 l1 l2 l3 l4 l5 l6 l7 p0 p1 p2 r h hcat hC => zD_calls (i := 77) (y := 26) (n := 3) (as := [.int p0, .int p1, .int p2]) (by decide +kernel) (by decide +kernel) rfl (by decide +kernel) (Nat.le_of_ble_eq_true rfl) hcat hC,
  fun l0 l1 l2 l3 l4 l5 l6 l7 x r h => zD_if0 (cnd := .ne) (off := 6) (by decide +kernel) (by decide) rfl,
  fun l0 l1 l2 l3 l4 l5 l6 l7 S h => zD_bip (n := (-102)) (by decide +kernel) (by decide +kernel),
  fun l0 l1 l2 l3 l4 l5 l6 l7 v h => zD_ireti (by decide +kernel) rfl,
  fun l1 l2 l3 l4 l5 l6 l7 x S h => zD_op (ins := .aload_n 0) (len := 1) (c := (24, [some (.ref x), l1, l2, l3, l4, l5, l6, l7], (.ref x :: S), h)) (by decide +kernel) rfl rfl rfl rfl,
  fun l0 l1 l2 l3 l4 l5 l6 l7 a r h hcat hr hC => zD_callv (i := 105) (y := 80) (n := 0) (as := []) (ci := 9) (by decide +kernel) (by decide +kernel) rfl (by decide +kernel) (Nat.le_of_ble_eq_true rfl) (by decide +kernel) hcat hr hC,
  fun l0 l1 l2 l3 l4 l5 l6 l7 x r h => zD_if0 (cnd := .ne) (off := 6) (by decide +kernel) (by decide) rfl,
  fun l0 l1 l2 l3 l4 l5 l6 l7 S h => zD_bip (n := (-103)) (by decide +kernel) (by decide +kernel),
  fun l0 l1 l2 l3 l4 l5 l6 l7 v h => zD_ireti (by decide +kernel) rfl,
  fun l0 l1 l2 l3 l4 l5 l6 l7 S h => zD_icst (n := 0) (by decide +kernel) (by decide +kernel),
  fun l0 l1 l2 l3 l4 l5 l6 l7 x r h => zD_st1 (k := 3) (ins := .istore_n 3) (len := 1) (by decide +kernel) rfl rfl rfl (by decide +kernel) rfl rfl,
  fun l1 l2 l3 l4 l5 l6 l7 x S h => zD_op (ins := .aload_n 0) (len := 1) (c := (36, [some (.ref x), l1, l2, l3, l4, l5, l6, l7], (.ref x :: S), h)) (by decide +kernel) rfl rfl rfl rfl,
  fun l0 l1 l2 l3 l4 l5 l6 l7 a r h hx => zD_getf (i := 61) (ci := 9) (k := 19) (q := (730, 0)) (by decide +kernel) (by decide +kernel) hx,
  fun l0 l2 l3 l4 l5 l6 l7 x S h => zD_op (ins := .iload_n 1) (len := 1) (c := (40, [l0, some (.int x), l2, l3, l4, l5, l6, l7], (.int x :: S), h)) (by decide +kernel) rfl rfl rfl rfl,
  fun l0 l1 l2 l3 l4 l5 l6 l7 i a r h hx => zD_iald (by decide +kernel) hx,
  fun l0 l1 l2 l3 l4 l5 l6 l7 x r h => zD_st1 (k := 4) (ins := .istore 4) (len := 2) (by decide +kernel) rfl rfl rfl (by decide +kernel) rfl rfl,
  fun l0 l1 l2 l3 l4 l5 l6 l7 x r h => zD_if0 (cnd := .le) (off := 18) (by decide +kernel) (by decide) rfl,
  fun l0 l1 l2 l4 l5 l6 l7 x S h => zD_iinc (k := 3) (x := x) (c := (1 : Int32)) (n := 1) (by decide +kernel) (by decide +kernel) rfl (by decide +kernel) rfl,
  fun l1 l2 l3 l4 l5 l6 l7 x S h => zD_op (ins := .aload_n 0) (len := 1) (c := (52, [some (.ref x), l1, l2, l3, l4, l5, l6, l7], (.ref x :: S), h)) (by decide +kernel) rfl rfl rfl rfl,
  fun l0 l1 l2 l3 l4 l5 l6 l7 a r h hx => zD_getf (i := 61) (ci := 9) (k := 19) (q := (730, 0)) (by decide +kernel) (by decide +kernel) hx,
  fun l0 l1 l2 l3 l5 l6 l7 x S h => zD_op (ins := .iload 4) (len := 2) (c := (57, [l0, l1, l2, l3, some (.int x), l5, l6, l7], (.int x :: S), h)) (by decide +kernel) rfl rfl rfl rfl,
  fun l0 l1 l2 l3 l4 l5 l6 l7 i a r h hx => zD_iald (by decide +kernel) hx,
  fun l0 l1 l2 l3 l4 l5 l6 l7 x r h => zD_st1 (k := 4) (ins := .istore 4) (len := 2) (by decide +kernel) rfl rfl rfl (by decide +kernel) rfl rfl,
  fun l0 l1 l2 l3 l4 l5 l6 l7 S h => zD_goto (off := (-17)) (by decide +kernel) (by decide),
  fun l0 l1 l2 l3 l4 l5 l6 l7 S h => zD_icst (n := 0) (by decide +kernel) (by decide +kernel),
  fun l0 l1 l2 l3 l4 l5 l6 l7 x r h => zD_st1 (k := 4) (ins := .istore 4) (len := 2) (by decide +kernel) rfl rfl rfl (by decide +kernel) rfl rfl,
  fun l0 l2 l3 l4 l5 l6 l7 x S h => zD_op (ins := .iload_n 1) (len := 1) (c := (67, [l0, some (.int x), l2, l3, l4, l5, l6, l7], (.int x :: S), h)) (by decide +kernel) rfl rfl rfl rfl,
  fun l0 l1 l2 l3 l4 l5 l6 l7 x r h => zD_st1 (k := 5) (ins := .istore 5) (len := 2) (by decide +kernel) rfl rfl rfl (by decide +kernel) rfl rfl,
  fun l0 l2 l3 l4 l5 l6 l7 x S h => zD_op (ins := .iload_n 1) (len := 1) (c := (70, [l0, some (.int x), l2, l3, l4, l5, l6, l7], (.int x :: S), h)) (by decide +kernel) rfl rfl rfl rfl,
  fun l0 l1 l2 l3 l4 l5 l6 l7 x r h => zD_st1 (k := 6) (ins := .istore 6) (len := 2) (by decide +kernel) rfl rfl rfl (by decide +kernel) rfl rfl,
  fun l0 l1 l2 l3 l4 l5 l6 l7 S h => zD_icst (n := 1) (by decide +kernel) (by decide +kernel),
  fun l0 l1 l2 l3 l4 l5 l6 l7 x r h => zD_st1 (k := 7) (ins := .istore 7) (len := 2) (by decide +kernel) rfl rfl rfl (by decide +kernel) rfl rfl,
  fun l1 l2 l3 l4 l5 l6 l7 x S h => zD_op (ins := .aload_n 0) (len := 1) (c := (78, [some (.ref x), l1, l2, l3, l4, l5, l6, l7], (.ref x :: S), h)) (by decide +kernel) rfl rfl rfl rfl,
  fun l0 l1 l2 l3 l4 l5 l6 l7 a r h hx => zD_getf (i := 7) (ci := 9) (k := 0) (q := (711, 0)) (by decide +kernel) (by decide +kernel) hx,
  fun l0 l1 l2 l3 l4 l5 l6 l7 x y r h => zD_if (cnd := .gt) (off := 60) (by decide +kernel) (by decide) rfl,
  fun l0 l1 l2 l3 l4 l5 l6 x S h => zD_op (ins := .iload 7) (len := 2) (c := (86, [l0, l1, l2, l3, l4, l5, l6, some (.int x)], (.int x :: S), h)) (by decide +kernel) rfl rfl rfl rfl,
  fun l0 l2 l3 l4 l5 l6 l7 x S h => zD_op (ins := .iload_n 1) (len := 1) (c := (87, [l0, some (.int x), l2, l3, l4, l5, l6, l7], (.int x :: S), h)) (by decide +kernel) rfl rfl rfl rfl,
  fun l0 l1 l2 l3 l4 l5 l6 l7 x y r h => zD_if (cnd := .eq) (off := 48) (by decide +kernel) (by decide) rfl,
  fun l1 l2 l3 l4 l5 l6 l7 x S h => zD_op (ins := .aload_n 0) (len := 1) (c := (91, [some (.ref x), l1, l2, l3, l4, l5, l6, l7], (.ref x :: S), h)) (by decide +kernel) rfl rfl rfl rfl,
  fun l0 l2 l3 l4 l5 l6 l7 x S h => zD_op (ins := .iload_n 1) (len := 1) (c := (92, [l0, some (.int x), l2, l3, l4, l5, l6, l7], (.int x :: S), h)) (by decide +kernel) rfl rfl rfl rfl,
  fun l0 l1 l2 l3 l4 l5 l6 x S h => zD_op (ins := .iload 7) (len := 2) (c := (94, [l0, l1, l2, l3, l4, l5, l6, some (.int x)], (.int x :: S), h)) (by decide +kernel) rfl rfl rfl rfl,
  fun l0 l1 l2 l3 l4 l5 l6 l7 p0 p1 a r h hcat hr hC => zD_callv (i := 96) (y := 30) (n := 2) (as := [.int p0, .int p1]) (ci := 9) (by decide +kernel) (by decide +kernel) rfl (by decide +kernel) (Nat.le_of_ble_eq_true rfl) (by decide +kernel) hcat hr hC,
  fun l0 l1 l2 l3 l4 l5 l6 l7 x r h => zD_if0 (cnd := .eq) (off := 38) (by decide +kernel) (by decide) rfl,
  fun l0 l1 l2 l3 l5 l6 l7 x S h => zD_iinc (k := 4) (x := x) (c := (1 : Int32)) (n := 1) (by decide +kernel) (by decide +kernel) rfl (by decide +kernel) rfl,
  fun l0 l1 l2 l3 l4 l5 l6 x S h => zD_op (ins := .iload 7) (len := 2) (c := (105, [l0, l1, l2, l3, l4, l5, l6, some (.int x)], (.int x :: S), h)) (by decide +kernel) rfl rfl rfl rfl,
  fun l0 l1 l2 l3 l4 l6 l7 x S h => zD_op (ins := .iload 5) (len := 2) (c := (107, [l0, l1, l2, l3, l4, some (.int x), l6, l7], (.int x :: S), h)) (by decide +kernel) rfl rfl rfl rfl,
  fun l0 l1 l2 l3 l4 l5 l6 l7 x y r h => zD_if (cnd := .ge) (off := 8) (by decide +kernel) (by decide) rfl,
  fun l0 l1 l2 l3 l4 l5 l6 x S h => zD_op (ins := .iload 7) (len := 2) (c := (112, [l0, l1, l2, l3, l4, l5, l6, some (.int x)], (.int x :: S), h)) (by decide +kernel) rfl rfl rfl rfl,
  fun l0 l1 l2 l3 l4 l5 l6 l7 S h => zD_goto (off := 5) (by decide +kernel) (by decide),
  fun l0 l1 l2 l3 l4 l6 l7 x S h => zD_op (ins := .iload 5) (len := 2) (c := (117, [l0, l1, l2, l3, l4, some (.int x), l6, l7], (.int x :: S), h)) (by decide +kernel) rfl rfl rfl rfl,
  fun l0 l1 l2 l3 l4 l5 l6 l7 x r h => zD_st1 (k := 5) (ins := .istore 5) (len := 2) (by decide +kernel) rfl rfl rfl (by decide +kernel) rfl rfl,
  fun l0 l1 l2 l3 l4 l5 l6 x S h => zD_op (ins := .iload 7) (len := 2) (c := (121, [l0, l1, l2, l3, l4, l5, l6, some (.int x)], (.int x :: S), h)) (by decide +kernel) rfl rfl rfl rfl,
  fun l0 l1 l2 l3 l4 l5 l7 x S h => zD_op (ins := .iload 6) (len := 2) (c := (123, [l0, l1, l2, l3, l4, l5, some (.int x), l7], (.int x :: S), h)) (by decide +kernel) rfl rfl rfl rfl,
  fun l0 l1 l2 l3 l4 l5 l6 l7 x y r h => zD_if (cnd := .le) (off := 8) (by decide +kernel) (by decide) rfl,
  fun l0 l1 l2 l3 l4 l5 l6 x S h => zD_op (ins := .iload 7) (len := 2) (c := (128, [l0, l1, l2, l3, l4, l5, l6, some (.int x)], (.int x :: S), h)) (by decide +kernel) rfl rfl rfl rfl,
  fun l0 l1 l2 l3 l4 l5 l6 l7 S h => zD_goto (off := 5) (by decide +kernel) (by decide),
  fun l0 l1 l2 l3 l4 l5 l7 x S h => zD_op (ins := .iload 6) (len := 2) (c := (133, [l0, l1, l2, l3, l4, l5, some (.int x), l7], (.int x :: S), h)) (by decide +kernel) rfl rfl rfl rfl,
  fun l0 l1 l2 l3 l4 l5 l6 l7 x r h => zD_st1 (k := 6) (ins := .istore 6) (len := 2) (by decide +kernel) rfl rfl rfl (by decide +kernel) rfl rfl,
  fun l0 l1 l2 l3 l4 l5 l6 x S h => zD_iinc (k := 7) (x := x) (c := (1 : Int32)) (n := 1) (by decide +kernel) (by decide +kernel) rfl (by decide +kernel) rfl,
  fun l0 l1 l2 l3 l4 l5 l6 l7 S h => zD_goto (off := (-63)) (by decide +kernel) (by decide),
  fun l0 l1 l3 l4 l5 l6 l7 x S h => zD_op (ins := .iload_n 2) (len := 1) (c := (142, [l0, l1, some (.int x), l3, l4, l5, l6, l7], (.int x :: S), h)) (by decide +kernel) rfl rfl rfl rfl,
  fun l0 l1 l2 l3 l4 l5 l6 l7 x r h => zD_if0 (cnd := .ne) (off := 7) (by decide +kernel) (by decide) rfl,
  fun l0 l1 l2 l4 l5 l6 l7 x S h => zD_op (ins := .iload_n 3) (len := 1) (c := (146, [l0, l1, l2, some (.int x), l4, l5, l6, l7], (.int x :: S), h)) (by decide +kernel) rfl rfl rfl rfl,
  fun l0 l1 l2 l3 l4 l5 l6 l7 S h => zD_goto (off := 25) (by decide +kernel) (by decide),
  fun l0 l1 l3 l4 l5 l6 l7 x S h => zD_op (ins := .iload_n 2) (len := 1) (c := (150, [l0, l1, some (.int x), l3, l4, l5, l6, l7], (.int x :: S), h)) (by decide +kernel) rfl rfl rfl rfl,
  fun l0 l1 l2 l3 l4 l5 l6 l7 S h => zD_icst (n := 1) (by decide +kernel) (by decide +kernel),
  fun l0 l1 l2 l3 l4 l5 l6 l7 x y r h => zD_if (cnd := .ne) (off := 8) (by decide +kernel) (by decide) rfl,
  fun l0 l1 l2 l3 l5 l6 l7 x S h => zD_op (ins := .iload 4) (len := 2) (c := (156, [l0, l1, l2, l3, some (.int x), l5, l6, l7], (.int x :: S), h)) (by decide +kernel) rfl rfl rfl rfl,
  fun l0 l1 l2 l3 l4 l5 l6 l7 S h => zD_goto (off := 15) (by decide +kernel) (by decide),
  fun l0 l1 l3 l4 l5 l6 l7 x S h => zD_op (ins := .iload_n 2) (len := 1) (c := (160, [l0, l1, some (.int x), l3, l4, l5, l6, l7], (.int x :: S), h)) (by decide +kernel) rfl rfl rfl rfl,
  fun l0 l1 l2 l3 l4 l5 l6 l7 S h => zD_icst (n := 2) (by decide +kernel) (by decide +kernel),
  fun l0 l1 l2 l3 l4 l5 l6 l7 x y r h => zD_if (cnd := .ne) (off := 8) (by decide +kernel) (by decide) rfl,
  fun l0 l1 l2 l3 l4 l6 l7 x S h => zD_op (ins := .iload 5) (len := 2) (c := (166, [l0, l1, l2, l3, l4, some (.int x), l6, l7], (.int x :: S), h)) (by decide +kernel) rfl rfl rfl rfl,
  fun l0 l1 l2 l3 l4 l5 l6 l7 S h => zD_goto (off := 5) (by decide +kernel) (by decide),
  fun l0 l1 l2 l3 l4 l5 l7 x S h => zD_op (ins := .iload 6) (len := 2) (c := (171, [l0, l1, l2, l3, l4, l5, some (.int x), l7], (.int x :: S), h)) (by decide +kernel) rfl rfl rfl rfl,
  fun l0 l1 l2 l3 l4 l5 l6 l7 v h => zD_ireti (by decide +kernel) rfl⟩
set_option maxRecDepth 100000 in
theorem E_X10_about_h43 : (∀ (l0 l1 l2 l3 l5 l6 l7 : Option Value) (x : Int32) (S : List Value) (h : zH), zD 118 43 [l0, l1, l2, l3, some (.int x), l5, l6, l7] S h = zD 118 45 [l0, l1, l2, l3, some (.int x), l5, l6, l7] (.int x :: S) h) :=
  fun l0 l1 l2 l3 l5 l6 l7 x S h => zD_op (ins := .iload 4) (len := 2) (c := (45, [l0, l1, l2, l3, some (.int x), l5, l6, l7], (.int x :: S), h)) (by decide +kernel) rfl rfl rfl rfl
set_option maxRecDepth 100000 in
theorem E_X10_about_h75 : (∀ (l0 l1 l2 l3 l4 l5 l6 : Option Value) (x : Int32) (S : List Value) (h : zH), zD 118 75 [l0, l1, l2, l3, l4, l5, l6, some (.int x)] S h = zD 118 77 [l0, l1, l2, l3, l4, l5, l6, some (.int x)] (.int x :: S) h) :=
  fun l0 l1 l2 l3 l4 l5 l6 x S h => zD_op (ins := .iload 7) (len := 2) (c := (77, [l0, l1, l2, l3, l4, l5, l6, some (.int x)], (.int x :: S), h)) (by decide +kernel) rfl rfl rfl rfl
set_option maxRecDepth 100000 in
theorem I_X10_about : (∀ (a : Nat) (p0 : Int32) (p1 : Int32) (h : zH), zC 118 [.ref a, .int p0, .int p1] h = zD 118 0 [some (.ref a), some (.int p0), some (.int p1), none, none, none, none, none] [] h) :=
  fun a p0 p1 h => zC_def rfl
set_option maxRecDepth 100000 in
theorem E_X10_look : (∀ (l1 l2 l3 : Option Value) (x : Nat) (S : List Value) (h : zH), zD 119 0 [some (.ref x), l1, l2, l3] S h = zD 119 1 [some (.ref x), l1, l2, l3] (.ref x :: S) h) ∧
  (∀ (l0 l1 l2 l3 : Option Value) (a : Nat) (r : List Value) (h : zH) (hx : zfok (h.2.2 a) 9 5 = true), zD 119 1 [l0, l1, l2, l3] (.ref a :: r) h = zD 119 4 [l0, l1, l2, l3] (zfv (h.2.2 a) 5 :: r) h) ∧
  (∀ (l0 l1 l2 l3 : Option Value) (x : Int32) (r : List Value) (h : zH), zD 119 4 [l0, l1, l2, l3] (.int x :: r) h = if x = 0 then zD 119 8 [l0, l1, l2, l3] r h else zD 119 7 [l0, l1, l2, l3] r h) ∧
  (∀ (l0 l1 l2 l3 : Option Value) (h : zH), zD 119 7 [l0, l1, l2, l3] [] h = some (none, h)) ∧
  (∀ (l1 l2 l3 : Option Value) (x : Nat) (S : List Value) (h : zH), zD 119 8 [some (.ref x), l1, l2, l3] S h = zD 119 9 [some (.ref x), l1, l2, l3] (.ref x :: S) h) ∧
  (∀ (l0 l1 l2 l3 : Option Value) (S : List Value) (h : zH), zD 119 9 [l0, l1, l2, l3] S h = zD 119 10 [l0, l1, l2, l3] (.int (1 : Int32) :: S) h) ∧
  (∀ (l0 l1 l2 l3 : Option Value) (v : Int32) (a : Nat) (r : List Value) (h : zH) (hx : zfok (h.2.2 a) 9 5 = true) (hf : fits .boolean (.int v) = true) (hn : zbv v), zD 119 10 [l0, l1, l2, l3] (.int v :: .ref a :: r) h = zD 119 13 [l0, l1, l2, l3] r (zw h a (zfs' (h.2.2 a) 5 (.int v)))) ∧
  (∀ (l0 l1 l2 l3 : Option Value) (S : List Value) (h : zH), zD 119 13 [l0, l1, l2, l3] S h = zD 119 14 [l0, l1, l2, l3] (.int (0 : Int32) :: S) h) ∧
  (∀ (l0 l1 l2 l3 : Option Value) (x : Int32) (r : List Value) (h : zH), zD 119 14 [l0, l1, l2, l3] (.int x :: r) h = zD 119 15 [zclr l0, some (.int x), l2, l3] r h) ∧
  (∀ (l0 l1 l2 l3 : Option Value) (S : List Value) (h : zH), zD 119 16 [l0, l1, l2, l3] S h = zD 119 17 [l0, l1, l2, l3] (.int (2 : Int32) :: S) h) ∧
  (∀ (l0 l1 l2 l3 : Option Value) (x y : Int32) (r : List Value) (h : zH), zD 119 17 [l0, l1, l2, l3] (.int y :: .int x :: r) h = if y ≤ x then zD 119 40 [l0, l1, l2, l3] r h else zD 119 20 [l0, l1, l2, l3] r h) ∧
  (∀ (l1 l2 l3 : Option Value) (x : Nat) (S : List Value) (h : zH), zD 119 20 [some (.ref x), l1, l2, l3] S h = zD 119 21 [some (.ref x), l1, l2, l3] (.ref x :: S) h) ∧
  (∀ (l0 l1 l2 l3 : Option Value) (a : Nat) (r : List Value) (h : zH) (hx : zfok (h.2.2 a) 9 6 = true), zD 119 21 [l0, l1, l2, l3] (.ref a :: r) h = zD 119 24 [l0, l1, l2, l3] (zfv (h.2.2 a) 6 :: r) h) ∧
  (∀ (l0 l2 l3 : Option Value) (x : Int32) (S : List Value) (h : zH), zD 119 24 [l0, some (.int x), l2, l3] S h = zD 119 25 [l0, some (.int x), l2, l3] (.int x :: S) h) ∧
  (∀ (l0 l1 l2 l3 : Option Value) (S : List Value) (h : zH), zD 119 25 [l0, l1, l2, l3] S h = zD 119 26 [l0, l1, l2, l3] (.long (0 : Int64) :: S) h) ∧
  (∀ (l0 l1 l2 l3 : Option Value) (w : Int64) (i : Int32) (a : Nat) (r : List Value) (h : zH) (hx : zlok (h.2.2 a) i = true), zD 119 26 [l0, l1, l2, l3] (.long w :: .int i :: .ref a :: r) h = zD 119 27 [l0, l1, l2, l3] r (zw h a (zls' (h.2.2 a) i w))) ∧
  (∀ (l1 l2 l3 : Option Value) (x : Nat) (S : List Value) (h : zH), zD 119 27 [some (.ref x), l1, l2, l3] S h = zD 119 28 [some (.ref x), l1, l2, l3] (.ref x :: S) h) ∧
  (∀ (l0 l1 l2 l3 : Option Value) (a : Nat) (r : List Value) (h : zH) (hx : zfok (h.2.2 a) 9 7 = true), zD 119 28 [l0, l1, l2, l3] (.ref a :: r) h = zD 119 31 [l0, l1, l2, l3] (zfv (h.2.2 a) 7 :: r) h) ∧
  (∀ (l0 l2 l3 : Option Value) (x : Int32) (S : List Value) (h : zH), zD 119 31 [l0, some (.int x), l2, l3] S h = zD 119 32 [l0, some (.int x), l2, l3] (.int x :: S) h) ∧
  (∀ (l0 l1 l2 l3 : Option Value) (S : List Value) (h : zH), zD 119 32 [l0, l1, l2, l3] S h = zD 119 33 [l0, l1, l2, l3] (.int (0 : Int32) :: S) h) ∧
  (∀ (l0 l1 l2 l3 : Option Value) (w i : Int32) (a : Nat) (r : List Value) (h : zH) (hx : zpok (h.2.2 a) i = true), zD 119 33 [l0, l1, l2, l3] (.int w :: .int i :: .ref a :: r) h = zD 119 34 [l0, l1, l2, l3] r (zw h a (zis' (h.2.2 a) i w))) ∧
  (∀ (l0 l2 l3 : Option Value) (x : Int32) (S : List Value) (h : zH), zD 119 34 [l0, some (.int x), l2, l3] S h = zD 119 37 [zclr l0, some (.int (x + (1 : Int32))), l2, l3] S h) ∧
  (∀ (l0 l1 l2 l3 : Option Value) (S : List Value) (h : zH), zD 119 37 [l0, l1, l2, l3] S h = zD 119 15 [l0, l1, l2, l3] S h) ∧
  (∀ (l0 l1 l2 l3 : Option Value) (S : List Value) (h : zH), zD 119 40 [l0, l1, l2, l3] S h = zD 119 41 [l0, l1, l2, l3] (.int (1 : Int32) :: S) h) ∧
  (∀ (l0 l1 l2 l3 : Option Value) (x : Int32) (r : List Value) (h : zH), zD 119 41 [l0, l1, l2, l3] (.int x :: r) h = zD 119 42 [zclr l0, some (.int x), l2, l3] r h) ∧
  (∀ (l1 l2 l3 : Option Value) (x : Nat) (S : List Value) (h : zH), zD 119 42 [some (.ref x), l1, l2, l3] S h = zD 119 43 [some (.ref x), l1, l2, l3] (.ref x :: S) h) ∧
  (∀ (l0 l1 l2 l3 : Option Value) (a : Nat) (r : List Value) (h : zH) (hx : zfok (h.2.2 a) 9 19 = true), zD 119 43 [l0, l1, l2, l3] (.ref a :: r) h = zD 119 46 [l0, l1, l2, l3] (zfv (h.2.2 a) 19 :: r) h) ∧
  (∀ (l0 l1 l2 l3 : Option Value) (S : List Value) (h : zH), zD 119 46 [l0, l1, l2, l3] S h = zD 119 47 [l0, l1, l2, l3] (.int (1 : Int32) :: S) h) ∧
  (∀ (l0 l1 l2 l3 : Option Value) (S : List Value) (h : zH), zD 119 47 [l0, l1, l2, l3] S h = zD 119 48 [l0, l1, l2, l3] (.int (-1 : Int32) :: S) h) ∧
  (∀ (l0 l1 l2 l3 : Option Value) (w i : Int32) (a : Nat) (r : List Value) (h : zH) (hx : zpok (h.2.2 a) i = true), zD 119 48 [l0, l1, l2, l3] (.int w :: .int i :: .ref a :: r) h = zD 119 49 [l0, l1, l2, l3] r (zw h a (zis' (h.2.2 a) i w))) ∧
  (∀ (l0 l1 l2 l3 : Option Value) (x : Int32) (r : List Value) (h : zH), zD 119 50 [l0, l1, l2, l3] (.int x :: r) h = if x ≤ 0 then zD 119 203 [l0, l1, l2, l3] r h else zD 119 53 [l0, l1, l2, l3] r h) ∧
  (∀ (l1 l2 l3 : Option Value) (x : Nat) (S : List Value) (h : zH), zD 119 53 [some (.ref x), l1, l2, l3] S h = zD 119 54 [some (.ref x), l1, l2, l3] (.ref x :: S) h) ∧
  (∀ (l0 l1 l2 l3 : Option Value) (a : Nat) (r : List Value) (h : zH) (hx : zfok (h.2.2 a) 9 19 = true), zD 119 54 [l0, l1, l2, l3] (.ref a :: r) h = zD 119 57 [l0, l1, l2, l3] (zfv (h.2.2 a) 19 :: r) h) ∧
  (∀ (l0 l2 l3 : Option Value) (x : Int32) (S : List Value) (h : zH), zD 119 57 [l0, some (.int x), l2, l3] S h = zD 119 58 [l0, some (.int x), l2, l3] (.int x :: S) h) ∧
  (∀ (l0 l1 l2 l3 : Option Value) (x : Int32) (y : Nat) (r : List Value) (h : zH), zD 119 58 [l0, l1, l2, l3] (.int x :: .ref y :: r) h = zD 119 59 [l0, l1, l2, l3] (.int x :: .ref y :: .int x :: .ref y :: r) h) ∧
  (∀ (l0 l1 l2 l3 : Option Value) (i : Int32) (a : Nat) (r : List Value) (h : zH) (hx : ziok a (h.2.2 a) i = true), zD 119 59 [l0, l1, l2, l3] (.int i :: .ref a :: r) h = zD 119 60 [l0, l1, l2, l3] (.int (ziv (h.2.2 a) i) :: r) h) ∧
  (∀ (l0 l1 l2 l3 : Option Value) (S : List Value) (h : zH), zD 119 60 [l0, l1, l2, l3] S h = zD 119 61 [l0, l1, l2, l3] (.int (1 : Int32) :: S) h) ∧
  (∀ (l0 l1 l2 l3 : Option Value) (x y : Int32) (r : List Value) (h : zH), zD 119 61 [l0, l1, l2, l3] (.int y :: .int x :: r) h = zD 119 62 [l0, l1, l2, l3] (.int (x + y) :: r) h) ∧
  (∀ (l0 l1 l2 l3 : Option Value) (w i : Int32) (a : Nat) (r : List Value) (h : zH) (hx : zpok (h.2.2 a) i = true), zD 119 62 [l0, l1, l2, l3] (.int w :: .int i :: .ref a :: r) h = zD 119 63 [l0, l1, l2, l3] r (zw h a (zis' (h.2.2 a) i w))) ∧
  (∀ (l1 l2 l3 : Option Value) (x : Nat) (S : List Value) (h : zH), zD 119 63 [some (.ref x), l1, l2, l3] S h = zD 119 64 [some (.ref x), l1, l2, l3] (.ref x :: S) h) ∧
  (∀ (l0 l1 l2 l3 : Option Value) (a : Nat) (r : List Value) (h : zH) (hx : zfok (h.2.2 a) 9 19 = true), zD 119 64 [l0, l1, l2, l3] (.ref a :: r) h = zD 119 67 [l0, l1, l2, l3] (zfv (h.2.2 a) 19 :: r) h) ∧
  (∀ (l0 l2 l3 : Option Value) (x : Int32) (S : List Value) (h : zH), zD 119 67 [l0, some (.int x), l2, l3] S h = zD 119 68 [l0, some (.int x), l2, l3] (.int x :: S) h) ∧
  (∀ (l0 l1 l2 l3 : Option Value) (i : Int32) (a : Nat) (r : List Value) (h : zH) (hx : ziok a (h.2.2 a) i = true), zD 119 68 [l0, l1, l2, l3] (.int i :: .ref a :: r) h = zD 119 69 [l0, l1, l2, l3] (.int (ziv (h.2.2 a) i) :: r) h) ∧
  (∀ (l1 l2 l3 : Option Value) (x : Nat) (S : List Value) (h : zH), zD 119 69 [some (.ref x), l1, l2, l3] S h = zD 119 70 [some (.ref x), l1, l2, l3] (.ref x :: S) h) ∧
  (∀ (l0 l1 l2 l3 : Option Value) (a : Nat) (r : List Value) (h : zH) (hx : zfok (h.2.2 a) 9 0 = true), zD 119 70 [l0, l1, l2, l3] (.ref a :: r) h = zD 119 73 [l0, l1, l2, l3] (zfv (h.2.2 a) 0 :: r) h) ∧
  (∀ (l0 l1 l2 l3 : Option Value) (x y : Int32) (r : List Value) (h : zH), zD 119 73 [l0, l1, l2, l3] (.int y :: .int x :: r) h = if x ≤ y then zD 119 82 [l0, l1, l2, l3] r h else zD 119 76 [l0, l1, l2, l3] r h) ∧
  (∀ (l0 l2 l3 : Option Value) (x : Int32) (S : List Value) (h : zH), zD 119 76 [l0, some (.int x), l2, l3] S h = zD 119 79 [zclr l0, some (.int (x + (-1 : Int32))), l2, l3] S h) ∧
  (∀ (l0 l1 l2 l3 : Option Value) (S : List Value) (h : zH), zD 119 79 [l0, l1, l2, l3] S h = zD 119 49 [l0, l1, l2, l3] S h) ∧
  (∀ (l1 l2 l3 : Option Value) (x : Nat) (S : List Value) (h : zH), zD 119 82 [some (.ref x), l1, l2, l3] S h = zD 119 83 [some (.ref x), l1, l2, l3] (.ref x :: S) h) ∧
  (∀ (l0 l1 l2 l3 : Option Value) (a : Nat) (r : List Value) (h : zH) (hx : zfok (h.2.2 a) 9 19 = true), zD 119 83 [l0, l1, l2, l3] (.ref a :: r) h = zD 119 86 [l0, l1, l2, l3] (zfv (h.2.2 a) 19 :: r) h) ∧
  (∀ (l0 l2 l3 : Option Value) (x : Int32) (S : List Value) (h : zH), zD 119 86 [l0, some (.int x), l2, l3] S h = zD 119 87 [l0, some (.int x), l2, l3] (.int x :: S) h) ∧
  (∀ (l0 l1 l2 l3 : Option Value) (i : Int32) (a : Nat) (r : List Value) (h : zH) (hx : ziok a (h.2.2 a) i = true), zD 119 87 [l0, l1, l2, l3] (.int i :: .ref a :: r) h = zD 119 88 [l0, l1, l2, l3] (.int (ziv (h.2.2 a) i) :: r) h) ∧
  (∀ (l0 l2 l3 : Option Value) (x : Int32) (S : List Value) (h : zH), zD 119 88 [l0, some (.int x), l2, l3] S h = zD 119 89 [l0, some (.int x), l2, l3] (.int x :: S) h) ∧
  (∀ (l0 l1 l2 l3 : Option Value) (x y : Int32) (r : List Value) (h : zH), zD 119 89 [l0, l1, l2, l3] (.int y :: .int x :: r) h = if x = y then zD 119 49 [l0, l1, l2, l3] r h else zD 119 92 [l0, l1, l2, l3] r h) ∧
  (∀ (l1 l2 l3 : Option Value) (x : Nat) (S : List Value) (h : zH), zD 119 92 [some (.ref x), l1, l2, l3] S h = zD 119 93 [some (.ref x), l1, l2, l3] (.ref x :: S) h) ∧
  (∀ (l0 l1 l2 l3 : Option Value) (a : Nat) (r : List Value) (h : zH) (hx : zfok (h.2.2 a) 9 4 = true), zD 119 93 [l0, l1, l2, l3] (.ref a :: r) h = zD 119 96 [l0, l1, l2, l3] (zfv (h.2.2 a) 4 :: r) h) ∧
  (∀ (l0 l1 l2 l3 : Option Value) (S : List Value) (h : zH), zD 119 96 [l0, l1, l2, l3] S h = zD 119 98 [l0, l1, l2, l3] (.int (8 : Int32) :: S) h) ∧
  (∀ (l0 l2 l3 : Option Value) (x : Int32) (S : List Value) (h : zH), zD 119 98 [l0, some (.int x), l2, l3] S h = zD 119 99 [l0, some (.int x), l2, l3] (.int x :: S) h) ∧
  (∀ (l0 l1 l2 l3 : Option Value) (x y : Int32) (r : List Value) (h : zH), zD 119 99 [l0, l1, l2, l3] (.int y :: .int x :: r) h = zD 119 100 [l0, l1, l2, l3] (.int (x * y) :: r) h) ∧
  (∀ (l1 l2 l3 : Option Value) (x : Nat) (S : List Value) (h : zH), zD 119 100 [some (.ref x), l1, l2, l3] S h = zD 119 101 [some (.ref x), l1, l2, l3] (.ref x :: S) h) ∧
  (∀ (l0 l1 l2 l3 : Option Value) (a : Nat) (r : List Value) (h : zH) (hx : zfok (h.2.2 a) 9 19 = true), zD 119 101 [l0, l1, l2, l3] (.ref a :: r) h = zD 119 104 [l0, l1, l2, l3] (zfv (h.2.2 a) 19 :: r) h) ∧
  (∀ (l0 l2 l3 : Option Value) (x : Int32) (S : List Value) (h : zH), zD 119 104 [l0, some (.int x), l2, l3] S h = zD 119 105 [l0, some (.int x), l2, l3] (.int x :: S) h) ∧
  (∀ (l0 l1 l2 l3 : Option Value) (i : Int32) (a : Nat) (r : List Value) (h : zH) (hx : ziok a (h.2.2 a) i = true), zD 119 105 [l0, l1, l2, l3] (.int i :: .ref a :: r) h = zD 119 106 [l0, l1, l2, l3] (.int (ziv (h.2.2 a) i) :: r) h) ∧
  (∀ (l0 l1 l2 l3 : Option Value) (x y : Int32) (r : List Value) (h : zH), zD 119 106 [l0, l1, l2, l3] (.int y :: .int x :: r) h = zD 119 107 [l0, l1, l2, l3] (.int (x + y) :: r) h) ∧
  (∀ (l0 l1 l2 l3 : Option Value) (i : Int32) (a : Nat) (r : List Value) (h : zH) (hx : zbok (h.2.2 a) i = true), zD 119 107 [l0, l1, l2, l3] (.int i :: .ref a :: r) h = zD 119 108 [l0, l1, l2, l3] (.int (ziv (h.2.2 a) i) :: r) h) ∧
  (∀ (l0 l1 l2 l3 : Option Value) (x : Int32) (r : List Value) (h : zH), zD 119 108 [l0, l1, l2, l3] (.int x :: r) h = if ¬ x = 0 then zD 119 49 [l0, l1, l2, l3] r h else zD 119 111 [l0, l1, l2, l3] r h) ∧
  (∀ (l1 l2 l3 : Option Value) (x : Nat) (S : List Value) (h : zH), zD 119 111 [some (.ref x), l1, l2, l3] S h = zD 119 112 [some (.ref x), l1, l2, l3] (.ref x :: S) h) ∧
  (∀ (l0 l2 l3 : Option Value) (x : Int32) (S : List Value) (h : zH), zD 119 112 [l0, some (.int x), l2, l3] S h = zD 119 113 [l0, some (.int x), l2, l3] (.int x :: S) h) ∧
  (∀ (l0 l1 l2 l3 : Option Value) (p0 : Int32) (a : Nat) (r : List Value) (h : zH) (hcat : zcat r ≤ 8) (hr : zis (h.2.2 a) 9 = true) (hC : (zC 32 (.ref a :: [.int p0]) h).isSome = true), zD 119 113 [l0, l1, l2, l3] (.int p0 :: .ref a :: r) h = zD 119 116 [l0, l1, l2, l3] (zgv (zC 32 (.ref a :: [.int p0]) h) ++ r) (zgh h (zC 32 (.ref a :: [.int p0]) h))) ∧
  (∀ (l0 l1 l2 l3 : Option Value) (x : Int32) (r : List Value) (h : zH), zD 119 116 [l0, l1, l2, l3] (.int x :: r) h = if ¬ x = 0 then zD 119 49 [l0, l1, l2, l3] r h else zD 119 119 [l0, l1, l2, l3] r h) ∧
  (∀ (l0 l2 l3 : Option Value) (x : Int32) (S : List Value) (h : zH), zD 119 119 [l0, some (.int x), l2, l3] S h = zD 119 120 [l0, some (.int x), l2, l3] (.int x :: S) h) ∧
  (∀ (l1 l2 l3 : Option Value) (x : Nat) (S : List Value) (h : zH), zD 119 120 [some (.ref x), l1, l2, l3] S h = zD 119 121 [some (.ref x), l1, l2, l3] (.ref x :: S) h) ∧
  (∀ (l0 l1 l2 l3 : Option Value) (a : Nat) (r : List Value) (h : zH) (hx : zfok (h.2.2 a) 9 0 = true), zD 119 121 [l0, l1, l2, l3] (.ref a :: r) h = zD 119 124 [l0, l1, l2, l3] (zfv (h.2.2 a) 0 :: r) h) ∧
  (∀ (l0 l1 l2 l3 : Option Value) (x y : Int32) (r : List Value) (h : zH), zD 119 124 [l0, l1, l2, l3] (.int y :: .int x :: r) h = if y ≤ x then zD 119 140 [l0, l1, l2, l3] r h else zD 119 127 [l0, l1, l2, l3] r h) ∧
  (∀ (l0 l2 l3 : Option Value) (x : Int32) (S : List Value) (h : zH), zD 119 127 [l0, some (.int x), l2, l3] S h = zD 119 130 [zclr l0, some (.int (x + (1 : Int32))), l2, l3] S h) ∧
  (∀ (l1 l2 l3 : Option Value) (x : Nat) (S : List Value) (h : zH), zD 119 130 [some (.ref x), l1, l2, l3] S h = zD 119 131 [some (.ref x), l1, l2, l3] (.ref x :: S) h) ∧
  (∀ (l0 l1 l2 l3 : Option Value) (a : Nat) (r : List Value) (h : zH) (hx : zfok (h.2.2 a) 9 19 = true), zD 119 131 [l0, l1, l2, l3] (.ref a :: r) h = zD 119 134 [l0, l1, l2, l3] (zfv (h.2.2 a) 19 :: r) h) ∧
  (∀ (l0 l2 l3 : Option Value) (x : Int32) (S : List Value) (h : zH), zD 119 134 [l0, some (.int x), l2, l3] S h = zD 119 135 [l0, some (.int x), l2, l3] (.int x :: S) h) ∧
  (∀ (l0 l1 l2 l3 : Option Value) (S : List Value) (h : zH), zD 119 135 [l0, l1, l2, l3] S h = zD 119 136 [l0, l1, l2, l3] (.int (-1 : Int32) :: S) h) ∧
  (∀ (l0 l1 l2 l3 : Option Value) (w i : Int32) (a : Nat) (r : List Value) (h : zH) (hx : zpok (h.2.2 a) i = true), zD 119 136 [l0, l1, l2, l3] (.int w :: .int i :: .ref a :: r) h = zD 119 137 [l0, l1, l2, l3] r (zw h a (zis' (h.2.2 a) i w))) ∧
  (∀ (l0 l1 l2 l3 : Option Value) (S : List Value) (h : zH), zD 119 137 [l0, l1, l2, l3] S h = zD 119 49 [l0, l1, l2, l3] S h) ∧
  (∀ (l0 l1 l2 l3 : Option Value) (S : List Value) (h : zH), zD 119 140 [l0, l1, l2, l3] S h = zD 119 141 [l0, l1, l2, l3] (.int (0 : Int32) :: S) h) ∧
  (∀ (l0 l1 l2 l3 : Option Value) (x : Int32) (r : List Value) (h : zH), zD 119 141 [l0, l1, l2, l3] (.int x :: r) h = zD 119 142 [l0, zclr l1, some (.int x), l3] r h) ∧
  (∀ (l0 l1 l2 l3 : Option Value) (S : List Value) (h : zH), zD 119 142 [l0, l1, l2, l3] S h = zD 119 143 [l0, l1, l2, l3] (.int (1 : Int32) :: S) h) ∧
  (∀ (l0 l1 l2 l3 : Option Value) (x : Int32) (r : List Value) (h : zH), zD 119 143 [l0, l1, l2, l3] (.int x :: r) h = zD 119 144 [l0, l1, zclr l2, some (.int x)] r h) ∧
  (∀ (l1 l2 l3 : Option Value) (x : Nat) (S : List Value) (h : zH), zD 119 145 [some (.ref x), l1, l2, l3] S h = zD 119 146 [some (.ref x), l1, l2, l3] (.ref x :: S) h) ∧
  (∀ (l0 l1 l2 l3 : Option Value) (a : Nat) (r : List Value) (h : zH) (hx : zfok (h.2.2 a) 9 0 = true), zD 119 146 [l0, l1, l2, l3] (.ref a :: r) h = zD 119 149 [l0, l1, l2, l3] (zfv (h.2.2 a) 0 :: r) h) ∧
  (∀ (l0 l1 l2 l3 : Option Value) (x y : Int32) (r : List Value) (h : zH), zD 119 149 [l0, l1, l2, l3] (.int y :: .int x :: r) h = if y < x then zD 119 177 [l0, l1, l2, l3] r h else zD 119 152 [l0, l1, l2, l3] r h) ∧
  (∀ (l0 l1 l3 : Option Value) (x : Int32) (S : List Value) (h : zH), zD 119 152 [l0, l1, some (.int x), l3] S h = zD 119 153 [l0, l1, some (.int x), l3] (.int x :: S) h) ∧
  (∀ (l1 l2 l3 : Option Value) (x : Nat) (S : List Value) (h : zH), zD 119 153 [some (.ref x), l1, l2, l3] S h = zD 119 154 [some (.ref x), l1, l2, l3] (.ref x :: S) h) ∧
  (∀ (l0 l1 l2 l3 : Option Value) (a : Nat) (r : List Value) (h : zH) (hx : zfok (h.2.2 a) 9 3 = true), zD 119 154 [l0, l1, l2, l3] (.ref a :: r) h = zD 119 157 [l0, l1, l2, l3] (zfv (h.2.2 a) 3 :: r) h) ∧
  (∀ (l0 l1 l2 l3 : Option Value) (S : List Value) (h : zH), zD 119 157 [l0, l1, l2, l3] S h = zD 119 159 [l0, l1, l2, l3] (.int (8 : Int32) :: S) h) ∧
  (∀ (l0 l1 l2 : Option Value) (x : Int32) (S : List Value) (h : zH), zD 119 159 [l0, l1, l2, some (.int x)] S h = zD 119 160 [l0, l1, l2, some (.int x)] (.int x :: S) h) ∧
  (∀ (l0 l1 l2 l3 : Option Value) (x y : Int32) (r : List Value) (h : zH), zD 119 160 [l0, l1, l2, l3] (.int y :: .int x :: r) h = zD 119 161 [l0, l1, l2, l3] (.int (x * y) :: r) h) ∧
  (∀ (l1 l2 l3 : Option Value) (x : Nat) (S : List Value) (h : zH), zD 119 161 [some (.ref x), l1, l2, l3] S h = zD 119 162 [some (.ref x), l1, l2, l3] (.ref x :: S) h) ∧
  (∀ (l0 l1 l2 l3 : Option Value) (a : Nat) (r : List Value) (h : zH) (hx : zfok (h.2.2 a) 9 19 = true), zD 119 162 [l0, l1, l2, l3] (.ref a :: r) h = zD 119 165 [l0, l1, l2, l3] (zfv (h.2.2 a) 19 :: r) h) ∧
  (∀ (l0 l1 l2 : Option Value) (x : Int32) (S : List Value) (h : zH), zD 119 165 [l0, l1, l2, some (.int x)] S h = zD 119 166 [l0, l1, l2, some (.int x)] (.int x :: S) h) ∧
  (∀ (l0 l1 l2 l3 : Option Value) (i : Int32) (a : Nat) (r : List Value) (h : zH) (hx : ziok a (h.2.2 a) i = true), zD 119 166 [l0, l1, l2, l3] (.int i :: .ref a :: r) h = zD 119 167 [l0, l1, l2, l3] (.int (ziv (h.2.2 a) i) :: r) h) ∧
  (∀ (l0 l1 l2 l3 : Option Value) (x y : Int32) (r : List Value) (h : zH), zD 119 167 [l0, l1, l2, l3] (.int y :: .int x :: r) h = zD 119 168 [l0, l1, l2, l3] (.int (x + y) :: r) h) ∧
  (∀ (l0 l1 l2 l3 : Option Value) (i : Int32) (a : Nat) (r : List Value) (h : zH) (hx : ziok a (h.2.2 a) i = true), zD 119 168 [l0, l1, l2, l3] (.int i :: .ref a :: r) h = zD 119 169 [l0, l1, l2, l3] (.int (ziv (h.2.2 a) i) :: r) h) ∧
  (∀ (l0 l1 l2 l3 : Option Value) (x y : Int32) (r : List Value) (h : zH), zD 119 169 [l0, l1, l2, l3] (.int y :: .int x :: r) h = zD 119 170 [l0, l1, l2, l3] (.int (x + y) :: r) h) ∧
  (∀ (l0 l1 l2 l3 : Option Value) (x : Int32) (r : List Value) (h : zH), zD 119 170 [l0, l1, l2, l3] (.int x :: r) h = zD 119 171 [l0, zclr l1, some (.int x), l3] r h) ∧
  (∀ (l0 l1 l2 : Option Value) (x : Int32) (S : List Value) (h : zH), zD 119 171 [l0, l1, l2, some (.int x)] S h = zD 119 174 [l0, l1, zclr l2, some (.int (x + (1 : Int32)))] S h) ∧
  (∀ (l0 l1 l2 l3 : Option Value) (S : List Value) (h : zH), zD 119 174 [l0, l1, l2, l3] S h = zD 119 144 [l0, l1, l2, l3] S h) ∧
  (∀ (l1 l2 l3 : Option Value) (x : Nat) (S : List Value) (h : zH), zD 119 177 [some (.ref x), l1, l2, l3] S h = zD 119 178 [some (.ref x), l1, l2, l3] (.ref x :: S) h) ∧
  (∀ (l0 l1 l2 l3 : Option Value) (S : List Value) (h : zH), zD 119 178 [l0, l1, l2, l3] S h = zD 119 179 [l0, l1, l2, l3] (.int (0 : Int32) :: S) h) ∧
  (∀ (l0 l1 l3 : Option Value) (x : Int32) (S : List Value) (h : zH), zD 119 179 [l0, l1, some (.int x), l3] S h = zD 119 180 [l0, l1, some (.int x), l3] (.int x :: S) h) ∧
  (∀ (l0 l1 l2 l3 : Option Value) (p0 : Int32) (p1 : Int32) (a : Nat) (r : List Value) (h : zH) (hcat : zcat r ≤ 8) (hr : zis (h.2.2 a) 9 = true) (hC : (zC 33 (.ref a :: [.int p0, .int p1]) h).isSome = true), zD 119 180 [l0, l1, l2, l3] (.int p1 :: .int p0 :: .ref a :: r) h = zD 119 183 [l0, l1, l2, l3] (zgv (zC 33 (.ref a :: [.int p0, .int p1]) h) ++ r) (zgh h (zC 33 (.ref a :: [.int p0, .int p1]) h))) ∧
  (∀ (l1 l2 l3 : Option Value) (x : Nat) (S : List Value) (h : zH), zD 119 183 [some (.ref x), l1, l2, l3] S h = zD 119 184 [some (.ref x), l1, l2, l3] (.ref x :: S) h) ∧
  (∀ (l1 l2 l3 : Option Value) (x : Nat) (S : List Value) (h : zH), zD 119 184 [some (.ref x), l1, l2, l3] S h = zD 119 185 [some (.ref x), l1, l2, l3] (.ref x :: S) h) ∧
  (∀ (l0 l1 l2 l3 : Option Value) (a : Nat) (r : List Value) (h : zH) (hx : zfok (h.2.2 a) 9 0 = true), zD 119 185 [l0, l1, l2, l3] (.ref a :: r) h = zD 119 188 [l0, l1, l2, l3] (zfv (h.2.2 a) 0 :: r) h) ∧
  (∀ (l0 l1 l2 l3 : Option Value) (p0 : Int32) (a : Nat) (r : List Value) (h : zH) (hcat : zcat r ≤ 8) (hr : zis (h.2.2 a) 9 = true) (hC : (zC 79 (.ref a :: [.int p0]) h).isSome = true), zD 119 188 [l0, l1, l2, l3] (.int p0 :: .ref a :: r) h = zD 119 191 [l0, l1, l2, l3] (zgv (zC 79 (.ref a :: [.int p0]) h) ++ r) (zgh h (zC 79 (.ref a :: [.int p0]) h))) ∧
  (∀ (l0 l1 l2 l3 : Option Value) (x : Int32) (r : List Value) (h : zH), zD 119 191 [l0, l1, l2, l3] (.int x :: r) h = if x = 0 then zD 119 200 [l0, l1, l2, l3] r h else zD 119 194 [l0, l1, l2, l3] r h) ∧
  (∀ (l1 l2 l3 : Option Value) (x : Nat) (S : List Value) (h : zH), zD 119 194 [some (.ref x), l1, l2, l3] S h = zD 119 195 [some (.ref x), l1, l2, l3] (.ref x :: S) h) ∧
  (∀ (l0 l1 l2 l3 : Option Value) (S : List Value) (h : zH), zD 119 195 [l0, l1, l2, l3] S h = zD 119 196 [l0, l1, l2, l3] (.int (1 : Int32) :: S) h) ∧
  (∀ (l0 l1 l3 : Option Value) (x : Int32) (S : List Value) (h : zH), zD 119 196 [l0, l1, some (.int x), l3] S h = zD 119 197 [l0, l1, some (.int x), l3] (.int x :: S) h) ∧
  (∀ (l0 l1 l2 l3 : Option Value) (p0 : Int32) (p1 : Int32) (a : Nat) (r : List Value) (h : zH) (hcat : zcat r ≤ 8) (hr : zis (h.2.2 a) 9 = true) (hC : (zC 33 (.ref a :: [.int p0, .int p1]) h).isSome = true), zD 119 197 [l0, l1, l2, l3] (.int p1 :: .int p0 :: .ref a :: r) h = zD 119 200 [l0, l1, l2, l3] (zgv (zC 33 (.ref a :: [.int p0, .int p1]) h) ++ r) (zgh h (zC 33 (.ref a :: [.int p0, .int p1]) h))) ∧
  (∀ (l0 l1 l2 l3 : Option Value) (S : List Value) (h : zH), zD 119 200 [l0, l1, l2, l3] S h = zD 119 49 [l0, l1, l2, l3] S h) ∧
  (∀ (l0 l1 l2 l3 : Option Value) (h : zH), zD 119 203 [l0, l1, l2, l3] [] h = some (none, h)) :=
  ⟨fun l1 l2 l3 x S h => zD_op (ins := .aload_n 0) (len := 1) (c := (1, [some (.ref x), l1, l2, l3], (.ref x :: S), h)) (by decide +kernel) rfl rfl rfl rfl,
  fun l0 l1 l2 l3 a r h hx => zD_getf (i := 73) (ci := 9) (k := 5) (q := (716, 0)) (by decide +kernel) (by decide +kernel) hx,
  fun l0 l1 l2 l3 x r h => zD_if0 (cnd := .eq) (off := 4) (by decide +kernel) (by decide) rfl,
  fun l0 l1 l2 l3 h => zD_vret (by decide +kernel) rfl,
  fun l1 l2 l3 x S h => zD_op (ins := .aload_n 0) (len := 1) (c := (9, [some (.ref x), l1, l2, l3], (.ref x :: S), h)) (by decide +kernel) rfl rfl rfl rfl,
  fun l0 l1 l2 l3 S h => zD_icst (n := 1) (by decide +kernel) (by decide +kernel),
  fun l0 l1 l2 l3 v a r h hx hf hn => zD_putf (i := 73) (ci := 9) (k := 5) (q := (716, 0)) (by decide +kernel) (by decide +kernel) (by decide +kernel) hx hf (congrArg Value.int hn),
  fun l0 l1 l2 l3 S h => zD_icst (n := 0) (by decide +kernel) (by decide +kernel),
  fun l0 l1 l2 l3 x r h => zD_st1 (k := 1) (ins := .istore_n 1) (len := 1) (by decide +kernel) rfl rfl rfl (by decide +kernel) rfl rfl,
  fun l0 l1 l2 l3 S h => zD_icst (n := 2) (by decide +kernel) (by decide +kernel),
  fun l0 l1 l2 l3 x y r h => zD_if (cnd := .ge) (off := 23) (by decide +kernel) (by decide) rfl,
  fun l1 l2 l3 x S h => zD_op (ins := .aload_n 0) (len := 1) (c := (21, [some (.ref x), l1, l2, l3], (.ref x :: S), h)) (by decide +kernel) rfl rfl rfl rfl,
  fun l0 l1 l2 l3 a r h hx => zD_getf (i := 27) (ci := 9) (k := 6) (q := (717, 0)) (by decide +kernel) (by decide +kernel) hx,
  fun l0 l2 l3 x S h => zD_op (ins := .iload_n 1) (len := 1) (c := (25, [l0, some (.int x), l2, l3], (.int x :: S), h)) (by decide +kernel) rfl rfl rfl rfl,
  fun l0 l1 l2 l3 S h => zD_op (ins := .lconst 0) (len := 1) (c := (26, [l0, l1, l2, l3], (.long (0 : Int64) :: S), h)) (by decide +kernel) rfl rfl rfl rfl,
  fun l0 l1 l2 l3 w i a r h hx => zD_last (by decide +kernel) hx,
  fun l1 l2 l3 x S h => zD_op (ins := .aload_n 0) (len := 1) (c := (28, [some (.ref x), l1, l2, l3], (.ref x :: S), h)) (by decide +kernel) rfl rfl rfl rfl,
  fun l0 l1 l2 l3 a r h hx => zD_getf (i := 31) (ci := 9) (k := 7) (q := (718, 0)) (by decide +kernel) (by decide +kernel) hx,
  fun l0 l2 l3 x S h => zD_op (ins := .iload_n 1) (len := 1) (c := (32, [l0, some (.int x), l2, l3], (.int x :: S), h)) (by decide +kernel) rfl rfl rfl rfl,
  fun l0 l1 l2 l3 S h => zD_icst (n := 0) (by decide +kernel) (by decide +kernel),
  fun l0 l1 l2 l3 w i a r h hx => zD_iast (by decide +kernel) hx,
  fun l0 l2 l3 x S h => zD_iinc (k := 1) (x := x) (c := (1 : Int32)) (n := 1) (by decide +kernel) (by decide +kernel) rfl (by decide +kernel) rfl,
  fun l0 l1 l2 l3 S h => zD_goto (off := (-22)) (by decide +kernel) (by decide),
  fun l0 l1 l2 l3 S h => zD_icst (n := 1) (by decide +kernel) (by decide +kernel),
  fun l0 l1 l2 l3 x r h => zD_st1 (k := 1) (ins := .istore_n 1) (len := 1) (by decide +kernel) rfl rfl rfl (by decide +kernel) rfl rfl,
  fun l1 l2 l3 x S h => zD_op (ins := .aload_n 0) (len := 1) (c := (43, [some (.ref x), l1, l2, l3], (.ref x :: S), h)) (by decide +kernel) rfl rfl rfl rfl,
  fun l0 l1 l2 l3 a r h hx => zD_getf (i := 61) (ci := 9) (k := 19) (q := (730, 0)) (by decide +kernel) (by decide +kernel) hx,
  fun l0 l1 l2 l3 S h => zD_icst (n := 1) (by decide +kernel) (by decide +kernel),
  fun l0 l1 l2 l3 S h => zD_icst (n := (-1)) (by decide +kernel) (by decide +kernel),
  fun l0 l1 l2 l3 w i a r h hx => zD_iast (by decide +kernel) hx,
  fun l0 l1 l2 l3 x r h => zD_if0 (cnd := .le) (off := 153) (by decide +kernel) (by decide) rfl,
  fun l1 l2 l3 x S h => zD_op (ins := .aload_n 0) (len := 1) (c := (54, [some (.ref x), l1, l2, l3], (.ref x :: S), h)) (by decide +kernel) rfl rfl rfl rfl,
  fun l0 l1 l2 l3 a r h hx => zD_getf (i := 61) (ci := 9) (k := 19) (q := (730, 0)) (by decide +kernel) (by decide +kernel) hx,
  fun l0 l2 l3 x S h => zD_op (ins := .iload_n 1) (len := 1) (c := (58, [l0, some (.int x), l2, l3], (.int x :: S), h)) (by decide +kernel) rfl rfl rfl rfl,
  fun l0 l1 l2 l3 x y r h => zD_op (ins := .dup2) (len := 1) (c := (59, [l0, l1, l2, l3], (.int x :: .ref y :: .int x :: .ref y :: r), h)) (by decide +kernel) rfl rfl rfl rfl,
  fun l0 l1 l2 l3 i a r h hx => zD_iald (by decide +kernel) hx,
  fun l0 l1 l2 l3 S h => zD_icst (n := 1) (by decide +kernel) (by decide +kernel),
  fun l0 l1 l2 l3 x y r h => zD_op (ins := .iadd) (len := 1) (c := (62, [l0, l1, l2, l3], (.int (x + y) :: r), h)) (by decide +kernel) rfl rfl rfl rfl,
  fun l0 l1 l2 l3 w i a r h hx => zD_iast (by decide +kernel) hx,
  fun l1 l2 l3 x S h => zD_op (ins := .aload_n 0) (len := 1) (c := (64, [some (.ref x), l1, l2, l3], (.ref x :: S), h)) (by decide +kernel) rfl rfl rfl rfl,
  fun l0 l1 l2 l3 a r h hx => zD_getf (i := 61) (ci := 9) (k := 19) (q := (730, 0)) (by decide +kernel) (by decide +kernel) hx,
  fun l0 l2 l3 x S h => zD_op (ins := .iload_n 1) (len := 1) (c := (68, [l0, some (.int x), l2, l3], (.int x :: S), h)) (by decide +kernel) rfl rfl rfl rfl,
  fun l0 l1 l2 l3 i a r h hx => zD_iald (by decide +kernel) hx,
  fun l1 l2 l3 x S h => zD_op (ins := .aload_n 0) (len := 1) (c := (70, [some (.ref x), l1, l2, l3], (.ref x :: S), h)) (by decide +kernel) rfl rfl rfl rfl,
  fun l0 l1 l2 l3 a r h hx => zD_getf (i := 7) (ci := 9) (k := 0) (q := (711, 0)) (by decide +kernel) (by decide +kernel) hx,
  fun l0 l1 l2 l3 x y r h => zD_if (cnd := .le) (off := 9) (by decide +kernel) (by decide) rfl,
  fun l0 l2 l3 x S h => zD_iinc (k := 1) (x := x) (c := (-1 : Int32)) (n := (-1)) (by decide +kernel) (by decide +kernel) rfl (by decide +kernel) rfl,
  fun l0 l1 l2 l3 S h => zD_goto (off := (-30)) (by decide +kernel) (by decide),
  fun l1 l2 l3 x S h => zD_op (ins := .aload_n 0) (len := 1) (c := (83, [some (.ref x), l1, l2, l3], (.ref x :: S), h)) (by decide +kernel) rfl rfl rfl rfl,
  fun l0 l1 l2 l3 a r h hx => zD_getf (i := 61) (ci := 9) (k := 19) (q := (730, 0)) (by decide +kernel) (by decide +kernel) hx,
  fun l0 l2 l3 x S h => zD_op (ins := .iload_n 1) (len := 1) (c := (87, [l0, some (.int x), l2, l3], (.int x :: S), h)) (by decide +kernel) rfl rfl rfl rfl,
  fun l0 l1 l2 l3 i a r h hx => zD_iald (by decide +kernel) hx,
  fun l0 l2 l3 x S h => zD_op (ins := .iload_n 1) (len := 1) (c := (89, [l0, some (.int x), l2, l3], (.int x :: S), h)) (by decide +kernel) rfl rfl rfl rfl,
  fun l0 l1 l2 l3 x y r h => zD_if (cnd := .eq) (off := (-40)) (by decide +kernel) (by decide) rfl,
  fun l1 l2 l3 x S h => zD_op (ins := .aload_n 0) (len := 1) (c := (93, [some (.ref x), l1, l2, l3], (.ref x :: S), h)) (by decide +kernel) rfl rfl rfl rfl,
  fun l0 l1 l2 l3 a r h hx => zD_getf (i := 23) (ci := 9) (k := 4) (q := (715, 0)) (by decide +kernel) (by decide +kernel) hx,
  fun l0 l1 l2 l3 S h => zD_bip (n := 8) (by decide +kernel) (by decide +kernel),
  fun l0 l2 l3 x S h => zD_op (ins := .iload_n 1) (len := 1) (c := (99, [l0, some (.int x), l2, l3], (.int x :: S), h)) (by decide +kernel) rfl rfl rfl rfl,
  fun l0 l1 l2 l3 x y r h => zD_op (ins := .imul) (len := 1) (c := (100, [l0, l1, l2, l3], (.int (x * y) :: r), h)) (by decide +kernel) rfl rfl rfl rfl,
  fun l1 l2 l3 x S h => zD_op (ins := .aload_n 0) (len := 1) (c := (101, [some (.ref x), l1, l2, l3], (.ref x :: S), h)) (by decide +kernel) rfl rfl rfl rfl,
  fun l0 l1 l2 l3 a r h hx => zD_getf (i := 61) (ci := 9) (k := 19) (q := (730, 0)) (by decide +kernel) (by decide +kernel) hx,
  fun l0 l2 l3 x S h => zD_op (ins := .iload_n 1) (len := 1) (c := (105, [l0, some (.int x), l2, l3], (.int x :: S), h)) (by decide +kernel) rfl rfl rfl rfl,
  fun l0 l1 l2 l3 i a r h hx => zD_iald (by decide +kernel) hx,
  fun l0 l1 l2 l3 x y r h => zD_op (ins := .iadd) (len := 1) (c := (107, [l0, l1, l2, l3], (.int (x + y) :: r), h)) (by decide +kernel) rfl rfl rfl rfl,
  fun l0 l1 l2 l3 i a r h hx => zD_bald (by decide +kernel) hx,
  fun l0 l1 l2 l3 x r h => zD_if0 (cnd := .ne) (off := (-59)) (by decide +kernel) (by decide) rfl,
  fun l1 l2 l3 x S h => zD_op (ins := .aload_n 0) (len := 1) (c := (112, [some (.ref x), l1, l2, l3], (.ref x :: S), h)) (by decide +kernel) rfl rfl rfl rfl,
  fun l0 l2 l3 x S h => zD_op (ins := .iload_n 1) (len := 1) (c := (113, [l0, some (.int x), l2, l3], (.int x :: S), h)) (by decide +kernel) rfl rfl rfl rfl,
  fun l0 l1 l2 l3 p0 a r h hcat hr hC => zD_callv (i := 112) (y := 32) (n := 1) (as := [.int p0]) (ci := 9) (by decide +kernel) (by decide +kernel) rfl (by decide +kernel) (Nat.le_of_ble_eq_true rfl) (by decide +kernel) hcat hr hC,
  fun l0 l1 l2 l3 x r h => zD_if0 (cnd := .ne) (off := (-67)) (by decide +kernel) (by decide) rfl,
  fun l0 l2 l3 x S h => zD_op (ins := .iload_n 1) (len := 1) (c := (120, [l0, some (.int x), l2, l3], (.int x :: S), h)) (by decide +kernel) rfl rfl rfl rfl,
  fun l1 l2 l3 x S h => zD_op (ins := .aload_n 0) (len := 1) (c := (121, [some (.ref x), l1, l2, l3], (.ref x :: S), h)) (by decide +kernel) rfl rfl rfl rfl,
  fun l0 l1 l2 l3 a r h hx => zD_getf (i := 7) (ci := 9) (k := 0) (q := (711, 0)) (by decide +kernel) (by decide +kernel) hx,
  fun l0 l1 l2 l3 x y r h => zD_if (cnd := .ge) (off := 16) (by decide +kernel) (by decide) rfl,
  fun l0 l2 l3 x S h => zD_iinc (k := 1) (x := x) (c := (1 : Int32)) (n := 1) (by decide +kernel) (by decide +kernel) rfl (by decide +kernel) rfl,
  fun l1 l2 l3 x S h => zD_op (ins := .aload_n 0) (len := 1) (c := (131, [some (.ref x), l1, l2, l3], (.ref x :: S), h)) (by decide +kernel) rfl rfl rfl rfl,
  fun l0 l1 l2 l3 a r h hx => zD_getf (i := 61) (ci := 9) (k := 19) (q := (730, 0)) (by decide +kernel) (by decide +kernel) hx,
  fun l0 l2 l3 x S h => zD_op (ins := .iload_n 1) (len := 1) (c := (135, [l0, some (.int x), l2, l3], (.int x :: S), h)) (by decide +kernel) rfl rfl rfl rfl,
  fun l0 l1 l2 l3 S h => zD_icst (n := (-1)) (by decide +kernel) (by decide +kernel),
  fun l0 l1 l2 l3 w i a r h hx => zD_iast (by decide +kernel) hx,
  fun l0 l1 l2 l3 S h => zD_goto (off := (-88)) (by decide +kernel) (by decide),
  fun l0 l1 l2 l3 S h => zD_icst (n := 0) (by decide +kernel) (by decide +kernel),
  fun l0 l1 l2 l3 x r h => zD_st1 (k := 2) (ins := .istore_n 2) (len := 1) (by decide +kernel) rfl rfl rfl (by decide +kernel) rfl rfl,
  fun l0 l1 l2 l3 S h => zD_icst (n := 1) (by decide +kernel) (by decide +kernel),
  fun l0 l1 l2 l3 x r h => zD_st1 (k := 3) (ins := .istore_n 3) (len := 1) (by decide +kernel) rfl rfl rfl (by decide +kernel) rfl rfl,
  fun l1 l2 l3 x S h => zD_op (ins := .aload_n 0) (len := 1) (c := (146, [some (.ref x), l1, l2, l3], (.ref x :: S), h)) (by decide +kernel) rfl rfl rfl rfl,
  fun l0 l1 l2 l3 a r h hx => zD_getf (i := 7) (ci := 9) (k := 0) (q := (711, 0)) (by decide +kernel) (by decide +kernel) hx,
  fun l0 l1 l2 l3 x y r h => zD_if (cnd := .gt) (off := 28) (by decide +kernel) (by decide) rfl,
  fun l0 l1 l3 x S h => zD_op (ins := .iload_n 2) (len := 1) (c := (153, [l0, l1, some (.int x), l3], (.int x :: S), h)) (by decide +kernel) rfl rfl rfl rfl,
  fun l1 l2 l3 x S h => zD_op (ins := .aload_n 0) (len := 1) (c := (154, [some (.ref x), l1, l2, l3], (.ref x :: S), h)) (by decide +kernel) rfl rfl rfl rfl,
  fun l0 l1 l2 l3 a r h hx => zD_getf (i := 20) (ci := 9) (k := 3) (q := (714, 0)) (by decide +kernel) (by decide +kernel) hx,
  fun l0 l1 l2 l3 S h => zD_bip (n := 8) (by decide +kernel) (by decide +kernel),
  fun l0 l1 l2 x S h => zD_op (ins := .iload_n 3) (len := 1) (c := (160, [l0, l1, l2, some (.int x)], (.int x :: S), h)) (by decide +kernel) rfl rfl rfl rfl,
  fun l0 l1 l2 l3 x y r h => zD_op (ins := .imul) (len := 1) (c := (161, [l0, l1, l2, l3], (.int (x * y) :: r), h)) (by decide +kernel) rfl rfl rfl rfl,
  fun l1 l2 l3 x S h => zD_op (ins := .aload_n 0) (len := 1) (c := (162, [some (.ref x), l1, l2, l3], (.ref x :: S), h)) (by decide +kernel) rfl rfl rfl rfl,
  fun l0 l1 l2 l3 a r h hx => zD_getf (i := 61) (ci := 9) (k := 19) (q := (730, 0)) (by decide +kernel) (by decide +kernel) hx,
  fun l0 l1 l2 x S h => zD_op (ins := .iload_n 3) (len := 1) (c := (166, [l0, l1, l2, some (.int x)], (.int x :: S), h)) (by decide +kernel) rfl rfl rfl rfl,
  fun l0 l1 l2 l3 i a r h hx => zD_iald (by decide +kernel) hx,
  fun l0 l1 l2 l3 x y r h => zD_op (ins := .iadd) (len := 1) (c := (168, [l0, l1, l2, l3], (.int (x + y) :: r), h)) (by decide +kernel) rfl rfl rfl rfl,
  fun l0 l1 l2 l3 i a r h hx => zD_iald (by decide +kernel) hx,
  fun l0 l1 l2 l3 x y r h => zD_op (ins := .iadd) (len := 1) (c := (170, [l0, l1, l2, l3], (.int (x + y) :: r), h)) (by decide +kernel) rfl rfl rfl rfl,
  fun l0 l1 l2 l3 x r h => zD_st1 (k := 2) (ins := .istore_n 2) (len := 1) (by decide +kernel) rfl rfl rfl (by decide +kernel) rfl rfl,
  fun l0 l1 l2 x S h => zD_iinc (k := 3) (x := x) (c := (1 : Int32)) (n := 1) (by decide +kernel) (by decide +kernel) rfl (by decide +kernel) rfl,
  fun l0 l1 l2 l3 S h => zD_goto (off := (-30)) (by decide +kernel) (by decide),
  fun l1 l2 l3 x S h => zD_op (ins := .aload_n 0) (len := 1) (c := (178, [some (.ref x), l1, l2, l3], (.ref x :: S), h)) (by decide +kernel) rfl rfl rfl rfl,
  fun l0 l1 l2 l3 S h => zD_icst (n := 0) (by decide +kernel) (by decide +kernel),
  fun l0 l1 l3 x S h => zD_op (ins := .iload_n 2) (len := 1) (c := (180, [l0, l1, some (.int x), l3], (.int x :: S), h)) (by decide +kernel) rfl rfl rfl rfl,
  fun l0 l1 l2 l3 p0 p1 a r h hcat hr hC => zD_callv (i := 115) (y := 33) (n := 2) (as := [.int p0, .int p1]) (ci := 9) (by decide +kernel) (by decide +kernel) rfl (by decide +kernel) (Nat.le_of_ble_eq_true rfl) (by decide +kernel) hcat hr hC,
  fun l1 l2 l3 x S h => zD_op (ins := .aload_n 0) (len := 1) (c := (184, [some (.ref x), l1, l2, l3], (.ref x :: S), h)) (by decide +kernel) rfl rfl rfl rfl,
  fun l1 l2 l3 x S h => zD_op (ins := .aload_n 0) (len := 1) (c := (185, [some (.ref x), l1, l2, l3], (.ref x :: S), h)) (by decide +kernel) rfl rfl rfl rfl,
  fun l0 l1 l2 l3 a r h hx => zD_getf (i := 7) (ci := 9) (k := 0) (q := (711, 0)) (by decide +kernel) (by decide +kernel) hx,
  fun l0 l1 l2 l3 p0 a r h hcat hr hC => zD_callv (i := 109) (y := 79) (n := 1) (as := [.int p0]) (ci := 9) (by decide +kernel) (by decide +kernel) rfl (by decide +kernel) (Nat.le_of_ble_eq_true rfl) (by decide +kernel) hcat hr hC,
  fun l0 l1 l2 l3 x r h => zD_if0 (cnd := .eq) (off := 9) (by decide +kernel) (by decide) rfl,
  fun l1 l2 l3 x S h => zD_op (ins := .aload_n 0) (len := 1) (c := (195, [some (.ref x), l1, l2, l3], (.ref x :: S), h)) (by decide +kernel) rfl rfl rfl rfl,
  fun l0 l1 l2 l3 S h => zD_icst (n := 1) (by decide +kernel) (by decide +kernel),
  fun l0 l1 l3 x S h => zD_op (ins := .iload_n 2) (len := 1) (c := (197, [l0, l1, some (.int x), l3], (.int x :: S), h)) (by decide +kernel) rfl rfl rfl rfl,
  fun l0 l1 l2 l3 p0 p1 a r h hcat hr hC => zD_callv (i := 115) (y := 33) (n := 2) (as := [.int p0, .int p1]) (ci := 9) (by decide +kernel) (by decide +kernel) rfl (by decide +kernel) (Nat.le_of_ble_eq_true rfl) (by decide +kernel) hcat hr hC,
  fun l0 l1 l2 l3 S h => zD_goto (off := (-151)) (by decide +kernel) (by decide),
  fun l0 l1 l2 l3 h => zD_vret (by decide +kernel) rfl⟩
set_option maxRecDepth 100000 in
theorem E_X10_look_h15 : (∀ (l0 l2 l3 : Option Value) (x : Int32) (S : List Value) (h : zH), zD 119 15 [l0, some (.int x), l2, l3] S h = zD 119 16 [l0, some (.int x), l2, l3] (.int x :: S) h) :=
  fun l0 l2 l3 x S h => zD_op (ins := .iload_n 1) (len := 1) (c := (16, [l0, some (.int x), l2, l3], (.int x :: S), h)) (by decide +kernel) rfl rfl rfl rfl
set_option maxRecDepth 100000 in
theorem E_X10_look_h49 : (∀ (l0 l2 l3 : Option Value) (x : Int32) (S : List Value) (h : zH), zD 119 49 [l0, some (.int x), l2, l3] S h = zD 119 50 [l0, some (.int x), l2, l3] (.int x :: S) h) :=
  fun l0 l2 l3 x S h => zD_op (ins := .iload_n 1) (len := 1) (c := (50, [l0, some (.int x), l2, l3], (.int x :: S), h)) (by decide +kernel) rfl rfl rfl rfl
set_option maxRecDepth 100000 in
theorem E_X10_look_h144 : (∀ (l0 l1 l2 : Option Value) (x : Int32) (S : List Value) (h : zH), zD 119 144 [l0, l1, l2, some (.int x)] S h = zD 119 145 [l0, l1, l2, some (.int x)] (.int x :: S) h) :=
  fun l0 l1 l2 x S h => zD_op (ins := .iload_n 3) (len := 1) (c := (145, [l0, l1, l2, some (.int x)], (.int x :: S), h)) (by decide +kernel) rfl rfl rfl rfl
set_option maxRecDepth 100000 in
theorem I_X10_look : (∀ (a : Nat) (h : zH), zC 119 [.ref a] h = zD 119 0 [some (.ref a), none, none, none] [] h) :=
  fun a h => zC_def rfl
set_option maxRecDepth 100000 in
theorem E_X10_keep : (∀ (l1 : Option Value) (x : Nat) (S : List Value) (h : zH), zD 120 0 [some (.ref x), l1] S h = zD 120 1 [some (.ref x), l1] (.ref x :: S) h) ∧
  (∀ (l0 l1 : Option Value) (a : Nat) (r : List Value) (h : zH) (hcat : zcat r ≤ 8) (hr : zis (h.2.2 a) 9 = true) (hC : (zC 80 [.ref a] h).isSome = true), zD 120 1 [l0, l1] (.ref a :: r) h = zD 120 4 [l0, l1] (zgv (zC 80 [.ref a] h) ++ r) (zgh h (zC 80 [.ref a] h))) ∧
  (∀ (l0 l1 : Option Value) (x : Int32) (r : List Value) (h : zH), zD 120 4 [l0, l1] (.int x :: r) h = if ¬ x = 0 then zD 120 10 [l0, l1] r h else zD 120 7 [l0, l1] r h) ∧
  (∀ (l0 l1 : Option Value) (S : List Value) (h : zH), zD 120 7 [l0, l1] S h = zD 120 9 [l0, l1] (.int (-103 : Int32) :: S) h) ∧
  (∀ (l0 l1 : Option Value) (v : Int32) (h : zH), zD 120 9 [l0, l1] [.int v] h = some (some (.int v), h)) ∧
  (∀ (l1 : Option Value) (x : Nat) (S : List Value) (h : zH), zD 120 10 [some (.ref x), l1] S h = zD 120 11 [some (.ref x), l1] (.ref x :: S) h) ∧
  (∀ (l0 l1 : Option Value) (a : Nat) (r : List Value) (h : zH) (hx : zfok (h.2.2 a) 9 10 = true), zD 120 11 [l0, l1] (.ref a :: r) h = zD 120 14 [l0, l1] (zfv (h.2.2 a) 10 :: r) h) ∧
  (∀ (l0 l1 : Option Value) (S : List Value) (h : zH), zD 120 14 [l0, l1] S h = zD 120 16 [l0, l1] (.int (20 : Int32) :: S) h) ∧
  (∀ (l0 l1 : Option Value) (x y : Int32) (r : List Value) (h : zH), zD 120 16 [l0, l1] (.int y :: .int x :: r) h = if ¬ x = y then zD 120 22 [l0, l1] r h else zD 120 19 [l0, l1] r h) ∧
  (∀ (l0 l1 : Option Value) (S : List Value) (h : zH), zD 120 19 [l0, l1] S h = zD 120 21 [l0, l1] (.int (-104 : Int32) :: S) h) ∧
  (∀ (l0 l1 : Option Value) (v : Int32) (h : zH), zD 120 21 [l0, l1] [.int v] h = some (some (.int v), h)) ∧
  (∀ (l1 : Option Value) (x : Nat) (S : List Value) (h : zH), zD 120 22 [some (.ref x), l1] S h = zD 120 23 [some (.ref x), l1] (.ref x :: S) h) ∧
  (∀ (l0 l1 : Option Value) (a : Nat) (r : List Value) (h : zH) (hx : zfok (h.2.2 a) 9 12 = true), zD 120 23 [l0, l1] (.ref a :: r) h = zD 120 26 [l0, l1] (zfv (h.2.2 a) 12 :: r) h) ∧
  (∀ (l1 : Option Value) (x : Nat) (S : List Value) (h : zH), zD 120 26 [some (.ref x), l1] S h = zD 120 27 [some (.ref x), l1] (.ref x :: S) h) ∧
  (∀ (l0 l1 : Option Value) (a : Nat) (r : List Value) (h : zH) (hx : zfok (h.2.2 a) 9 10 = true), zD 120 27 [l0, l1] (.ref a :: r) h = zD 120 30 [l0, l1] (zfv (h.2.2 a) 10 :: r) h) ∧
  (∀ (l1 : Option Value) (x : Nat) (S : List Value) (h : zH), zD 120 30 [some (.ref x), l1] S h = zD 120 31 [some (.ref x), l1] (.ref x :: S) h) ∧
  (∀ (l0 l1 : Option Value) (a : Nat) (r : List Value) (h : zH) (hx : zfok (h.2.2 a) 9 0 = true), zD 120 31 [l0, l1] (.ref a :: r) h = zD 120 34 [l0, l1] (zfv (h.2.2 a) 0 :: r) h) ∧
  (∀ (l0 l1 : Option Value) (w i : Int32) (a : Nat) (r : List Value) (h : zH) (hx : zpok (h.2.2 a) i = true), zD 120 34 [l0, l1] (.int w :: .int i :: .ref a :: r) h = zD 120 35 [l0, l1] r (zw h a (zis' (h.2.2 a) i w))) ∧
  (∀ (l0 l1 : Option Value) (S : List Value) (h : zH), zD 120 35 [l0, l1] S h = zD 120 36 [l0, l1] (.int (1 : Int32) :: S) h) ∧
  (∀ (l0 l1 : Option Value) (x : Int32) (r : List Value) (h : zH), zD 120 36 [l0, l1] (.int x :: r) h = zD 120 37 [zclr l0, some (.int x)] r h) ∧
  (∀ (l1 : Option Value) (x : Nat) (S : List Value) (h : zH), zD 120 38 [some (.ref x), l1] S h = zD 120 39 [some (.ref x), l1] (.ref x :: S) h) ∧
  (∀ (l0 l1 : Option Value) (a : Nat) (r : List Value) (h : zH) (hx : zfok (h.2.2 a) 9 0 = true), zD 120 39 [l0, l1] (.ref a :: r) h = zD 120 42 [l0, l1] (zfv (h.2.2 a) 0 :: r) h) ∧
  (∀ (l0 l1 : Option Value) (x y : Int32) (r : List Value) (h : zH), zD 120 42 [l0, l1] (.int y :: .int x :: r) h = if y < x then zD 120 91 [l0, l1] r h else zD 120 45 [l0, l1] r h) ∧
  (∀ (l1 : Option Value) (x : Nat) (S : List Value) (h : zH), zD 120 45 [some (.ref x), l1] S h = zD 120 46 [some (.ref x), l1] (.ref x :: S) h) ∧
  (∀ (l0 l1 : Option Value) (a : Nat) (r : List Value) (h : zH) (hx : zfok (h.2.2 a) 9 13 = true), zD 120 46 [l0, l1] (.ref a :: r) h = zD 120 49 [l0, l1] (zfv (h.2.2 a) 13 :: r) h) ∧
  (∀ (l0 l1 : Option Value) (S : List Value) (h : zH), zD 120 49 [l0, l1] S h = zD 120 51 [l0, l1] (.int (8 : Int32) :: S) h) ∧
  (∀ (l1 : Option Value) (x : Nat) (S : List Value) (h : zH), zD 120 51 [some (.ref x), l1] S h = zD 120 52 [some (.ref x), l1] (.ref x :: S) h) ∧
  (∀ (l0 l1 : Option Value) (a : Nat) (r : List Value) (h : zH) (hx : zfok (h.2.2 a) 9 10 = true), zD 120 52 [l0, l1] (.ref a :: r) h = zD 120 55 [l0, l1] (zfv (h.2.2 a) 10 :: r) h) ∧
  (∀ (l0 l1 : Option Value) (x y : Int32) (r : List Value) (h : zH), zD 120 55 [l0, l1] (.int y :: .int x :: r) h = zD 120 56 [l0, l1] (.int (x * y) :: r) h) ∧
  (∀ (l0 : Option Value) (x : Int32) (S : List Value) (h : zH), zD 120 56 [l0, some (.int x)] S h = zD 120 57 [l0, some (.int x)] (.int x :: S) h) ∧
  (∀ (l0 l1 : Option Value) (x y : Int32) (r : List Value) (h : zH), zD 120 57 [l0, l1] (.int y :: .int x :: r) h = zD 120 58 [l0, l1] (.int (x + y) :: r) h) ∧
  (∀ (l1 : Option Value) (x : Nat) (S : List Value) (h : zH), zD 120 58 [some (.ref x), l1] S h = zD 120 59 [some (.ref x), l1] (.ref x :: S) h) ∧
  (∀ (l0 l1 : Option Value) (a : Nat) (r : List Value) (h : zH) (hx : zfok (h.2.2 a) 9 1 = true), zD 120 59 [l0, l1] (.ref a :: r) h = zD 120 62 [l0, l1] (zfv (h.2.2 a) 1 :: r) h) ∧
  (∀ (l0 : Option Value) (x : Int32) (S : List Value) (h : zH), zD 120 62 [l0, some (.int x)] S h = zD 120 63 [l0, some (.int x)] (.int x :: S) h) ∧
  (∀ (l0 l1 : Option Value) (i : Int32) (a : Nat) (r : List Value) (h : zH) (hx : ziok a (h.2.2 a) i = true), zD 120 63 [l0, l1] (.int i :: .ref a :: r) h = zD 120 64 [l0, l1] (.int (ziv (h.2.2 a) i) :: r) h) ∧
  (∀ (l0 l1 : Option Value) (w i : Int32) (a : Nat) (r : List Value) (h : zH) (hx : zpok (h.2.2 a) i = true), zD 120 64 [l0, l1] (.int w :: .int i :: .ref a :: r) h = zD 120 65 [l0, l1] r (zw h a (zis' (h.2.2 a) i w))) ∧
  (∀ (l1 : Option Value) (x : Nat) (S : List Value) (h : zH), zD 120 65 [some (.ref x), l1] S h = zD 120 66 [some (.ref x), l1] (.ref x :: S) h) ∧
  (∀ (l0 l1 : Option Value) (a : Nat) (r : List Value) (h : zH) (hx : zfok (h.2.2 a) 9 14 = true), zD 120 66 [l0, l1] (.ref a :: r) h = zD 120 69 [l0, l1] (zfv (h.2.2 a) 14 :: r) h) ∧
  (∀ (l0 l1 : Option Value) (S : List Value) (h : zH), zD 120 69 [l0, l1] S h = zD 120 71 [l0, l1] (.int (8 : Int32) :: S) h) ∧
  (∀ (l1 : Option Value) (x : Nat) (S : List Value) (h : zH), zD 120 71 [some (.ref x), l1] S h = zD 120 72 [some (.ref x), l1] (.ref x :: S) h) ∧
  (∀ (l0 l1 : Option Value) (a : Nat) (r : List Value) (h : zH) (hx : zfok (h.2.2 a) 9 10 = true), zD 120 72 [l0, l1] (.ref a :: r) h = zD 120 75 [l0, l1] (zfv (h.2.2 a) 10 :: r) h) ∧
  (∀ (l0 l1 : Option Value) (x y : Int32) (r : List Value) (h : zH), zD 120 75 [l0, l1] (.int y :: .int x :: r) h = zD 120 76 [l0, l1] (.int (x * y) :: r) h) ∧
  (∀ (l0 : Option Value) (x : Int32) (S : List Value) (h : zH), zD 120 76 [l0, some (.int x)] S h = zD 120 77 [l0, some (.int x)] (.int x :: S) h) ∧
  (∀ (l0 l1 : Option Value) (x y : Int32) (r : List Value) (h : zH), zD 120 77 [l0, l1] (.int y :: .int x :: r) h = zD 120 78 [l0, l1] (.int (x + y) :: r) h) ∧
  (∀ (l1 : Option Value) (x : Nat) (S : List Value) (h : zH), zD 120 78 [some (.ref x), l1] S h = zD 120 79 [some (.ref x), l1] (.ref x :: S) h) ∧
  (∀ (l0 l1 : Option Value) (a : Nat) (r : List Value) (h : zH) (hx : zfok (h.2.2 a) 9 2 = true), zD 120 79 [l0, l1] (.ref a :: r) h = zD 120 82 [l0, l1] (zfv (h.2.2 a) 2 :: r) h) ∧
  (∀ (l0 : Option Value) (x : Int32) (S : List Value) (h : zH), zD 120 82 [l0, some (.int x)] S h = zD 120 83 [l0, some (.int x)] (.int x :: S) h) ∧
  (∀ (l0 l1 : Option Value) (i : Int32) (a : Nat) (r : List Value) (h : zH) (hx : ziok a (h.2.2 a) i = true), zD 120 83 [l0, l1] (.int i :: .ref a :: r) h = zD 120 84 [l0, l1] (.int (ziv (h.2.2 a) i) :: r) h) ∧
  (∀ (l0 l1 : Option Value) (w i : Int32) (a : Nat) (r : List Value) (h : zH) (hx : zpok (h.2.2 a) i = true), zD 120 84 [l0, l1] (.int w :: .int i :: .ref a :: r) h = zD 120 85 [l0, l1] r (zw h a (zis' (h.2.2 a) i w))) ∧
  (∀ (l0 : Option Value) (x : Int32) (S : List Value) (h : zH), zD 120 85 [l0, some (.int x)] S h = zD 120 88 [zclr l0, some (.int (x + (1 : Int32)))] S h) ∧
  (∀ (l0 l1 : Option Value) (S : List Value) (h : zH), zD 120 88 [l0, l1] S h = zD 120 37 [l0, l1] S h) ∧
  (∀ (l1 : Option Value) (x : Nat) (S : List Value) (h : zH), zD 120 91 [some (.ref x), l1] S h = zD 120 92 [some (.ref x), l1] (.ref x :: S) h) ∧
  (∀ (l0 l1 : Option Value) (x : Int32) (r : List Value) (h : zH), zD 120 92 [l0, l1] (.int x :: r) h = zD 120 93 [l0, l1] (.int x :: .int x :: r) h) ∧
  (∀ (l0 l1 : Option Value) (x : Nat) (r : List Value) (h : zH), zD 120 92 [l0, l1] (.ref x :: r) h = zD 120 93 [l0, l1] (.ref x :: .ref x :: r) h) ∧
  (∀ (l0 l1 : Option Value) (a : Nat) (r : List Value) (h : zH) (hx : zfok (h.2.2 a) 9 10 = true), zD 120 93 [l0, l1] (.ref a :: r) h = zD 120 96 [l0, l1] (zfv (h.2.2 a) 10 :: r) h) ∧
  (∀ (l0 l1 : Option Value) (S : List Value) (h : zH), zD 120 96 [l0, l1] S h = zD 120 97 [l0, l1] (.int (1 : Int32) :: S) h) ∧
  (∀ (l0 l1 : Option Value) (x y : Int32) (r : List Value) (h : zH), zD 120 97 [l0, l1] (.int y :: .int x :: r) h = zD 120 98 [l0, l1] (.int (x + y) :: r) h) ∧
  (∀ (l0 l1 : Option Value) (v : Int32) (a : Nat) (r : List Value) (h : zH) (hx : zfok (h.2.2 a) 9 10 = true), zD 120 98 [l0, l1] (.int v :: .ref a :: r) h = zD 120 101 [l0, l1] r (zw h a (zfs' (h.2.2 a) 10 (.int v)))) ∧
  (∀ (l1 : Option Value) (x : Nat) (S : List Value) (h : zH), zD 120 101 [some (.ref x), l1] S h = zD 120 102 [some (.ref x), l1] (.ref x :: S) h) ∧
  (∀ (l0 l1 : Option Value) (a : Nat) (r : List Value) (h : zH) (hx : zfok (h.2.2 a) 9 10 = true), zD 120 102 [l0, l1] (.ref a :: r) h = zD 120 105 [l0, l1] (zfv (h.2.2 a) 10 :: r) h) ∧
  (∀ (l0 l1 : Option Value) (S : List Value) (h : zH), zD 120 105 [l0, l1] S h = zD 120 106 [l0, l1] (.int (1 : Int32) :: S) h) ∧
  (∀ (l0 l1 : Option Value) (x y : Int32) (r : List Value) (h : zH), zD 120 106 [l0, l1] (.int y :: .int x :: r) h = zD 120 107 [l0, l1] (.int (x - y) :: r) h) ∧
  (∀ (l0 l1 : Option Value) (v : Int32) (h : zH), zD 120 107 [l0, l1] [.int v] h = some (some (.int v), h)) :=
  ⟨fun l1 x S h => zD_op (ins := .aload_n 0) (len := 1) (c := (1, [some (.ref x), l1], (.ref x :: S), h)) (by decide +kernel) rfl rfl rfl rfl,
  fun l0 l1 a r h hcat hr hC => zD_callv (i := 105) (y := 80) (n := 0) (as := []) (ci := 9) (by decide +kernel) (by decide +kernel) rfl (by decide +kernel) (Nat.le_of_ble_eq_true rfl) (by decide +kernel) hcat hr hC,
  fun l0 l1 x r h => zD_if0 (cnd := .ne) (off := 6) (by decide +kernel) (by decide) rfl,
  fun l0 l1 S h => zD_bip (n := (-103)) (by decide +kernel) (by decide +kernel),
  fun l0 l1 v h => zD_ireti (by decide +kernel) rfl,
  fun l1 x S h => zD_op (ins := .aload_n 0) (len := 1) (c := (11, [some (.ref x), l1], (.ref x :: S), h)) (by decide +kernel) rfl rfl rfl rfl,
  fun l0 l1 a r h hx => zD_getf (i := 126) (ci := 9) (k := 10) (q := (721, 0)) (by decide +kernel) (by decide +kernel) hx,
  fun l0 l1 S h => zD_bip (n := 20) (by decide +kernel) (by decide +kernel),
  fun l0 l1 x y r h => zD_if (cnd := .ne) (off := 6) (by decide +kernel) (by decide) rfl,
  fun l0 l1 S h => zD_bip (n := (-104)) (by decide +kernel) (by decide +kernel),
  fun l0 l1 v h => zD_ireti (by decide +kernel) rfl,
  fun l1 x S h => zD_op (ins := .aload_n 0) (len := 1) (c := (23, [some (.ref x), l1], (.ref x :: S), h)) (by decide +kernel) rfl rfl rfl rfl,
  fun l0 l1 a r h hx => zD_getf (i := 43) (ci := 9) (k := 12) (q := (723, 0)) (by decide +kernel) (by decide +kernel) hx,
  fun l1 x S h => zD_op (ins := .aload_n 0) (len := 1) (c := (27, [some (.ref x), l1], (.ref x :: S), h)) (by decide +kernel) rfl rfl rfl rfl,
  fun l0 l1 a r h hx => zD_getf (i := 126) (ci := 9) (k := 10) (q := (721, 0)) (by decide +kernel) (by decide +kernel) hx,
  fun l1 x S h => zD_op (ins := .aload_n 0) (len := 1) (c := (31, [some (.ref x), l1], (.ref x :: S), h)) (by decide +kernel) rfl rfl rfl rfl,
  fun l0 l1 a r h hx => zD_getf (i := 7) (ci := 9) (k := 0) (q := (711, 0)) (by decide +kernel) (by decide +kernel) hx,
  fun l0 l1 w i a r h hx => zD_iast (by decide +kernel) hx,
  fun l0 l1 S h => zD_icst (n := 1) (by decide +kernel) (by decide +kernel),
  fun l0 l1 x r h => zD_st1 (k := 1) (ins := .istore_n 1) (len := 1) (by decide +kernel) rfl rfl rfl (by decide +kernel) rfl rfl,
  fun l1 x S h => zD_op (ins := .aload_n 0) (len := 1) (c := (39, [some (.ref x), l1], (.ref x :: S), h)) (by decide +kernel) rfl rfl rfl rfl,
  fun l0 l1 a r h hx => zD_getf (i := 7) (ci := 9) (k := 0) (q := (711, 0)) (by decide +kernel) (by decide +kernel) hx,
  fun l0 l1 x y r h => zD_if (cnd := .gt) (off := 49) (by decide +kernel) (by decide) rfl,
  fun l1 x S h => zD_op (ins := .aload_n 0) (len := 1) (c := (46, [some (.ref x), l1], (.ref x :: S), h)) (by decide +kernel) rfl rfl rfl rfl,
  fun l0 l1 a r h hx => zD_getf (i := 46) (ci := 9) (k := 13) (q := (724, 0)) (by decide +kernel) (by decide +kernel) hx,
  fun l0 l1 S h => zD_bip (n := 8) (by decide +kernel) (by decide +kernel),
  fun l1 x S h => zD_op (ins := .aload_n 0) (len := 1) (c := (52, [some (.ref x), l1], (.ref x :: S), h)) (by decide +kernel) rfl rfl rfl rfl,
  fun l0 l1 a r h hx => zD_getf (i := 126) (ci := 9) (k := 10) (q := (721, 0)) (by decide +kernel) (by decide +kernel) hx,
  fun l0 l1 x y r h => zD_op (ins := .imul) (len := 1) (c := (56, [l0, l1], (.int (x * y) :: r), h)) (by decide +kernel) rfl rfl rfl rfl,
  fun l0 x S h => zD_op (ins := .iload_n 1) (len := 1) (c := (57, [l0, some (.int x)], (.int x :: S), h)) (by decide +kernel) rfl rfl rfl rfl,
  fun l0 l1 x y r h => zD_op (ins := .iadd) (len := 1) (c := (58, [l0, l1], (.int (x + y) :: r), h)) (by decide +kernel) rfl rfl rfl rfl,
  fun l1 x S h => zD_op (ins := .aload_n 0) (len := 1) (c := (59, [some (.ref x), l1], (.ref x :: S), h)) (by decide +kernel) rfl rfl rfl rfl,
  fun l0 l1 a r h hx => zD_getf (i := 13) (ci := 9) (k := 1) (q := (712, 0)) (by decide +kernel) (by decide +kernel) hx,
  fun l0 x S h => zD_op (ins := .iload_n 1) (len := 1) (c := (63, [l0, some (.int x)], (.int x :: S), h)) (by decide +kernel) rfl rfl rfl rfl,
  fun l0 l1 i a r h hx => zD_iald (by decide +kernel) hx,
  fun l0 l1 w i a r h hx => zD_iast (by decide +kernel) hx,
  fun l1 x S h => zD_op (ins := .aload_n 0) (len := 1) (c := (66, [some (.ref x), l1], (.ref x :: S), h)) (by decide +kernel) rfl rfl rfl rfl,
  fun l0 l1 a r h hx => zD_getf (i := 49) (ci := 9) (k := 14) (q := (725, 0)) (by decide +kernel) (by decide +kernel) hx,
  fun l0 l1 S h => zD_bip (n := 8) (by decide +kernel) (by decide +kernel),
  fun l1 x S h => zD_op (ins := .aload_n 0) (len := 1) (c := (72, [some (.ref x), l1], (.ref x :: S), h)) (by decide +kernel) rfl rfl rfl rfl,
  fun l0 l1 a r h hx => zD_getf (i := 126) (ci := 9) (k := 10) (q := (721, 0)) (by decide +kernel) (by decide +kernel) hx,
  fun l0 l1 x y r h => zD_op (ins := .imul) (len := 1) (c := (76, [l0, l1], (.int (x * y) :: r), h)) (by decide +kernel) rfl rfl rfl rfl,
  fun l0 x S h => zD_op (ins := .iload_n 1) (len := 1) (c := (77, [l0, some (.int x)], (.int x :: S), h)) (by decide +kernel) rfl rfl rfl rfl,
  fun l0 l1 x y r h => zD_op (ins := .iadd) (len := 1) (c := (78, [l0, l1], (.int (x + y) :: r), h)) (by decide +kernel) rfl rfl rfl rfl,
  fun l1 x S h => zD_op (ins := .aload_n 0) (len := 1) (c := (79, [some (.ref x), l1], (.ref x :: S), h)) (by decide +kernel) rfl rfl rfl rfl,
  fun l0 l1 a r h hx => zD_getf (i := 17) (ci := 9) (k := 2) (q := (713, 0)) (by decide +kernel) (by decide +kernel) hx,
  fun l0 x S h => zD_op (ins := .iload_n 1) (len := 1) (c := (83, [l0, some (.int x)], (.int x :: S), h)) (by decide +kernel) rfl rfl rfl rfl,
  fun l0 l1 i a r h hx => zD_iald (by decide +kernel) hx,
  fun l0 l1 w i a r h hx => zD_iast (by decide +kernel) hx,
  fun l0 x S h => zD_iinc (k := 1) (x := x) (c := (1 : Int32)) (n := 1) (by decide +kernel) (by decide +kernel) rfl (by decide +kernel) rfl,
  fun l0 l1 S h => zD_goto (off := (-51)) (by decide +kernel) (by decide),
  fun l1 x S h => zD_op (ins := .aload_n 0) (len := 1) (c := (92, [some (.ref x), l1], (.ref x :: S), h)) (by decide +kernel) rfl rfl rfl rfl,
  fun l0 l1 x r h => zD_op (ins := .dup) (len := 1) (c := (93, [l0, l1], (.int x :: .int x :: r), h)) (by decide +kernel) rfl rfl rfl rfl,
  fun l0 l1 x r h => zD_op (ins := .dup) (len := 1) (c := (93, [l0, l1], (.ref x :: .ref x :: r), h)) (by decide +kernel) rfl rfl rfl rfl,
  fun l0 l1 a r h hx => zD_getf (i := 126) (ci := 9) (k := 10) (q := (721, 0)) (by decide +kernel) (by decide +kernel) hx,
  fun l0 l1 S h => zD_icst (n := 1) (by decide +kernel) (by decide +kernel),
  fun l0 l1 x y r h => zD_op (ins := .iadd) (len := 1) (c := (98, [l0, l1], (.int (x + y) :: r), h)) (by decide +kernel) rfl rfl rfl rfl,
  fun l0 l1 v a r h hx => zD_putf (i := 126) (ci := 9) (k := 10) (q := (721, 0)) (by decide +kernel) (by decide +kernel) (by decide +kernel) hx rfl rfl,
  fun l1 x S h => zD_op (ins := .aload_n 0) (len := 1) (c := (102, [some (.ref x), l1], (.ref x :: S), h)) (by decide +kernel) rfl rfl rfl rfl,
  fun l0 l1 a r h hx => zD_getf (i := 126) (ci := 9) (k := 10) (q := (721, 0)) (by decide +kernel) (by decide +kernel) hx,
  fun l0 l1 S h => zD_icst (n := 1) (by decide +kernel) (by decide +kernel),
  fun l0 l1 x y r h => zD_op (ins := .isub) (len := 1) (c := (107, [l0, l1], (.int (x - y) :: r), h)) (by decide +kernel) rfl rfl rfl rfl,
  fun l0 l1 v h => zD_ireti (by decide +kernel) rfl⟩
set_option maxRecDepth 100000 in
theorem E_X10_keep_h37 : (∀ (l0 : Option Value) (x : Int32) (S : List Value) (h : zH), zD 120 37 [l0, some (.int x)] S h = zD 120 38 [l0, some (.int x)] (.int x :: S) h) :=
  fun l0 x S h => zD_op (ins := .iload_n 1) (len := 1) (c := (38, [l0, some (.int x)], (.int x :: S), h)) (by decide +kernel) rfl rfl rfl rfl
set_option maxRecDepth 100000 in
theorem I_X10_keep : (∀ (a : Nat) (h : zH), zC 120 [.ref a] h = zD 120 0 [some (.ref a), none] [] h) :=
  fun a h => zC_def rfl
set_option maxRecDepth 100000 in
theorem E_X10_forget : (∀ (l1 : Option Value) (x : Nat) (S : List Value) (h : zH), zD 121 0 [some (.ref x), l1] S h = zD 121 1 [some (.ref x), l1] (.ref x :: S) h) ∧
  (∀ (l0 : Option Value) (x : Int32) (S : List Value) (h : zH), zD 121 1 [l0, some (.int x)] S h = zD 121 2 [l0, some (.int x)] (.int x :: S) h) ∧
  (∀ (l0 l1 : Option Value) (p0 : Int32) (a : Nat) (r : List Value) (h : zH) (hcat : zcat r ≤ 8) (hr : zis (h.2.2 a) 9 = true) (hC : (zC 81 (.ref a :: [.int p0]) h).isSome = true), zD 121 2 [l0, l1] (.int p0 :: .ref a :: r) h = zD 121 5 [l0, l1] (zgv (zC 81 (.ref a :: [.int p0]) h) ++ r) (zgh h (zC 81 (.ref a :: [.int p0]) h))) ∧
  (∀ (l0 l1 : Option Value) (x : Int32) (r : List Value) (h : zH), zD 121 5 [l0, l1] (.int x :: r) h = if ¬ x = 0 then zD 121 11 [l0, l1] r h else zD 121 8 [l0, l1] r h) ∧
  (∀ (l0 l1 : Option Value) (S : List Value) (h : zH), zD 121 8 [l0, l1] S h = zD 121 10 [l0, l1] (.int (-101 : Int32) :: S) h) ∧
  (∀ (l0 l1 : Option Value) (v : Int32) (h : zH), zD 121 10 [l0, l1] [.int v] h = some (some (.int v), h)) ∧
  (∀ (l1 : Option Value) (x : Nat) (S : List Value) (h : zH), zD 121 11 [some (.ref x), l1] S h = zD 121 12 [some (.ref x), l1] (.ref x :: S) h) ∧
  (∀ (l0 l1 : Option Value) (a : Nat) (r : List Value) (h : zH) (hx : zfok (h.2.2 a) 9 11 = true), zD 121 12 [l0, l1] (.ref a :: r) h = zD 121 15 [l0, l1] (zfv (h.2.2 a) 11 :: r) h) ∧
  (∀ (l0 : Option Value) (x : Int32) (S : List Value) (h : zH), zD 121 15 [l0, some (.int x)] S h = zD 121 16 [l0, some (.int x)] (.int x :: S) h) ∧
  (∀ (l0 l1 : Option Value) (S : List Value) (h : zH), zD 121 16 [l0, l1] S h = zD 121 17 [l0, l1] (.int (1 : Int32) :: S) h) ∧
  (∀ (l0 l1 : Option Value) (w i : Int32) (a : Nat) (r : List Value) (h : zH) (hx : zbok (h.2.2 a) i = true), zD 121 17 [l0, l1] (.int w :: .int i :: .ref a :: r) h = zD 121 18 [l0, l1] r (zw h a (zis' (h.2.2 a) i (vp_nar .boolean w)))) ∧
  (∀ (l1 : Option Value) (x : Nat) (S : List Value) (h : zH), zD 121 18 [some (.ref x), l1] S h = zD 121 19 [some (.ref x), l1] (.ref x :: S) h) ∧
  (∀ (l0 l1 : Option Value) (a : Nat) (r : List Value) (h : zH) (hx : zfok (h.2.2 a) 9 12 = true), zD 121 19 [l0, l1] (.ref a :: r) h = zD 121 22 [l0, l1] (zfv (h.2.2 a) 12 :: r) h) ∧
  (∀ (l0 : Option Value) (x : Int32) (S : List Value) (h : zH), zD 121 22 [l0, some (.int x)] S h = zD 121 23 [l0, some (.int x)] (.int x :: S) h) ∧
  (∀ (l0 l1 : Option Value) (i : Int32) (a : Nat) (r : List Value) (h : zH) (hx : ziok a (h.2.2 a) i = true), zD 121 23 [l0, l1] (.int i :: .ref a :: r) h = zD 121 24 [l0, l1] (.int (ziv (h.2.2 a) i) :: r) h) ∧
  (∀ (l0 l1 : Option Value) (v : Int32) (h : zH), zD 121 24 [l0, l1] [.int v] h = some (some (.int v), h)) :=
  ⟨fun l1 x S h => zD_op (ins := .aload_n 0) (len := 1) (c := (1, [some (.ref x), l1], (.ref x :: S), h)) (by decide +kernel) rfl rfl rfl rfl,
  fun l0 x S h => zD_op (ins := .iload_n 1) (len := 1) (c := (2, [l0, some (.int x)], (.int x :: S), h)) (by decide +kernel) rfl rfl rfl rfl,
  fun l0 l1 p0 a r h hcat hr hC => zD_callv (i := 129) (y := 81) (n := 1) (as := [.int p0]) (ci := 9) (by decide +kernel) (by decide +kernel) rfl (by decide +kernel) (Nat.le_of_ble_eq_true rfl) (by decide +kernel) hcat hr hC,
  fun l0 l1 x r h => zD_if0 (cnd := .ne) (off := 6) (by decide +kernel) (by decide) rfl,
  fun l0 l1 S h => zD_bip (n := (-101)) (by decide +kernel) (by decide +kernel),
  fun l0 l1 v h => zD_ireti (by decide +kernel) rfl,
  fun l1 x S h => zD_op (ins := .aload_n 0) (len := 1) (c := (12, [some (.ref x), l1], (.ref x :: S), h)) (by decide +kernel) rfl rfl rfl rfl,
  fun l0 l1 a r h hx => zD_getf (i := 40) (ci := 9) (k := 11) (q := (722, 0)) (by decide +kernel) (by decide +kernel) hx,
  fun l0 x S h => zD_op (ins := .iload_n 1) (len := 1) (c := (16, [l0, some (.int x)], (.int x :: S), h)) (by decide +kernel) rfl rfl rfl rfl,
  fun l0 l1 S h => zD_icst (n := 1) (by decide +kernel) (by decide +kernel),
  fun l0 l1 w i a r h hx => zD_bast (by decide +kernel) hx,
  fun l1 x S h => zD_op (ins := .aload_n 0) (len := 1) (c := (19, [some (.ref x), l1], (.ref x :: S), h)) (by decide +kernel) rfl rfl rfl rfl,
  fun l0 l1 a r h hx => zD_getf (i := 43) (ci := 9) (k := 12) (q := (723, 0)) (by decide +kernel) (by decide +kernel) hx,
  fun l0 x S h => zD_op (ins := .iload_n 1) (len := 1) (c := (23, [l0, some (.int x)], (.int x :: S), h)) (by decide +kernel) rfl rfl rfl rfl,
  fun l0 l1 i a r h hx => zD_iald (by decide +kernel) hx,
  fun l0 l1 v h => zD_ireti (by decide +kernel) rfl⟩
set_option maxRecDepth 100000 in
theorem I_X10_forget : (∀ (a : Nat) (p0 : Int32) (h : zH), zC 121 [.ref a, .int p0] h = zD 121 0 [some (.ref a), some (.int p0)] [] h) :=
  fun a p0 h => zC_def rfl
set_option maxRecDepth 100000 in
theorem E_X10_recall : (∀ (l1 l2 : Option Value) (x : Nat) (S : List Value) (h : zH), zD 122 0 [some (.ref x), l1, l2] S h = zD 122 1 [some (.ref x), l1, l2] (.ref x :: S) h) ∧
  (∀ (l0 l2 : Option Value) (x : Int32) (S : List Value) (h : zH), zD 122 1 [l0, some (.int x), l2] S h = zD 122 2 [l0, some (.int x), l2] (.int x :: S) h) ∧
  (∀ (l0 l1 l2 : Option Value) (p0 : Int32) (a : Nat) (r : List Value) (h : zH) (hcat : zcat r ≤ 8) (hr : zis (h.2.2 a) 9 = true) (hC : (zC 81 (.ref a :: [.int p0]) h).isSome = true), zD 122 2 [l0, l1, l2] (.int p0 :: .ref a :: r) h = zD 122 5 [l0, l1, l2] (zgv (zC 81 (.ref a :: [.int p0]) h) ++ r) (zgh h (zC 81 (.ref a :: [.int p0]) h))) ∧
  (∀ (l0 l1 l2 : Option Value) (x : Int32) (r : List Value) (h : zH), zD 122 5 [l0, l1, l2] (.int x :: r) h = if ¬ x = 0 then zD 122 11 [l0, l1, l2] r h else zD 122 8 [l0, l1, l2] r h) ∧
  (∀ (l0 l1 l2 : Option Value) (S : List Value) (h : zH), zD 122 8 [l0, l1, l2] S h = zD 122 10 [l0, l1, l2] (.int (-101 : Int32) :: S) h) ∧
  (∀ (l0 l1 l2 : Option Value) (v : Int32) (h : zH), zD 122 10 [l0, l1, l2] [.int v] h = some (some (.int v), h)) ∧
  (∀ (l1 l2 : Option Value) (x : Nat) (S : List Value) (h : zH), zD 122 11 [some (.ref x), l1, l2] S h = zD 122 12 [some (.ref x), l1, l2] (.ref x :: S) h) ∧
  (∀ (l1 l2 : Option Value) (x : Nat) (S : List Value) (h : zH), zD 122 12 [some (.ref x), l1, l2] S h = zD 122 13 [some (.ref x), l1, l2] (.ref x :: S) h) ∧
  (∀ (l0 l1 l2 : Option Value) (a : Nat) (r : List Value) (h : zH) (hx : zfok (h.2.2 a) 9 12 = true), zD 122 13 [l0, l1, l2] (.ref a :: r) h = zD 122 16 [l0, l1, l2] (zfv (h.2.2 a) 12 :: r) h) ∧
  (∀ (l0 l2 : Option Value) (x : Int32) (S : List Value) (h : zH), zD 122 16 [l0, some (.int x), l2] S h = zD 122 17 [l0, some (.int x), l2] (.int x :: S) h) ∧
  (∀ (l0 l1 l2 : Option Value) (i : Int32) (a : Nat) (r : List Value) (h : zH) (hx : ziok a (h.2.2 a) i = true), zD 122 17 [l0, l1, l2] (.int i :: .ref a :: r) h = zD 122 18 [l0, l1, l2] (.int (ziv (h.2.2 a) i) :: r) h) ∧
  (∀ (l0 l1 l2 : Option Value) (p0 : Int32) (a : Nat) (r : List Value) (h : zH) (hcat : zcat r ≤ 8) (hr : zis (h.2.2 a) 9 = true) (hC : (zC 27 (.ref a :: [.int p0]) h).isSome = true), zD 122 18 [l0, l1, l2] (.int p0 :: .ref a :: r) h = zD 122 21 [l0, l1, l2] (zgv (zC 27 (.ref a :: [.int p0]) h) ++ r) (zgh h (zC 27 (.ref a :: [.int p0]) h))) ∧
  (∀ (l0 l1 l2 : Option Value) (S : List Value) (h : zH), zD 122 21 [l0, l1, l2] S h = zD 122 22 [l0, l1, l2] (.int (1 : Int32) :: S) h) ∧
  (∀ (l0 l1 l2 : Option Value) (x : Int32) (r : List Value) (h : zH), zD 122 22 [l0, l1, l2] (.int x :: r) h = zD 122 23 [l0, zclr l1, some (.int x)] r h) ∧
  (∀ (l1 l2 : Option Value) (x : Nat) (S : List Value) (h : zH), zD 122 24 [some (.ref x), l1, l2] S h = zD 122 25 [some (.ref x), l1, l2] (.ref x :: S) h) ∧
  (∀ (l0 l1 l2 : Option Value) (a : Nat) (r : List Value) (h : zH) (hx : zfok (h.2.2 a) 9 0 = true), zD 122 25 [l0, l1, l2] (.ref a :: r) h = zD 122 28 [l0, l1, l2] (zfv (h.2.2 a) 0 :: r) h) ∧
  (∀ (l0 l1 l2 : Option Value) (x y : Int32) (r : List Value) (h : zH), zD 122 28 [l0, l1, l2] (.int y :: .int x :: r) h = if y < x then zD 122 71 [l0, l1, l2] r h else zD 122 31 [l0, l1, l2] r h) ∧
  (∀ (l1 l2 : Option Value) (x : Nat) (S : List Value) (h : zH), zD 122 31 [some (.ref x), l1, l2] S h = zD 122 32 [some (.ref x), l1, l2] (.ref x :: S) h) ∧
  (∀ (l0 l1 l2 : Option Value) (a : Nat) (r : List Value) (h : zH) (hx : zfok (h.2.2 a) 9 1 = true), zD 122 32 [l0, l1, l2] (.ref a :: r) h = zD 122 35 [l0, l1, l2] (zfv (h.2.2 a) 1 :: r) h) ∧
  (∀ (l0 l1 : Option Value) (x : Int32) (S : List Value) (h : zH), zD 122 35 [l0, l1, some (.int x)] S h = zD 122 36 [l0, l1, some (.int x)] (.int x :: S) h) ∧
  (∀ (l1 l2 : Option Value) (x : Nat) (S : List Value) (h : zH), zD 122 36 [some (.ref x), l1, l2] S h = zD 122 37 [some (.ref x), l1, l2] (.ref x :: S) h) ∧
  (∀ (l0 l1 l2 : Option Value) (a : Nat) (r : List Value) (h : zH) (hx : zfok (h.2.2 a) 9 13 = true), zD 122 37 [l0, l1, l2] (.ref a :: r) h = zD 122 40 [l0, l1, l2] (zfv (h.2.2 a) 13 :: r) h) ∧
  (∀ (l0 l1 l2 : Option Value) (S : List Value) (h : zH), zD 122 40 [l0, l1, l2] S h = zD 122 42 [l0, l1, l2] (.int (8 : Int32) :: S) h) ∧
  (∀ (l0 l2 : Option Value) (x : Int32) (S : List Value) (h : zH), zD 122 42 [l0, some (.int x), l2] S h = zD 122 43 [l0, some (.int x), l2] (.int x :: S) h) ∧
  (∀ (l0 l1 l2 : Option Value) (x y : Int32) (r : List Value) (h : zH), zD 122 43 [l0, l1, l2] (.int y :: .int x :: r) h = zD 122 44 [l0, l1, l2] (.int (x * y) :: r) h) ∧
  (∀ (l0 l1 : Option Value) (x : Int32) (S : List Value) (h : zH), zD 122 44 [l0, l1, some (.int x)] S h = zD 122 45 [l0, l1, some (.int x)] (.int x :: S) h) ∧
  (∀ (l0 l1 l2 : Option Value) (x y : Int32) (r : List Value) (h : zH), zD 122 45 [l0, l1, l2] (.int y :: .int x :: r) h = zD 122 46 [l0, l1, l2] (.int (x + y) :: r) h) ∧
  (∀ (l0 l1 l2 : Option Value) (i : Int32) (a : Nat) (r : List Value) (h : zH) (hx : ziok a (h.2.2 a) i = true), zD 122 46 [l0, l1, l2] (.int i :: .ref a :: r) h = zD 122 47 [l0, l1, l2] (.int (ziv (h.2.2 a) i) :: r) h) ∧
  (∀ (l0 l1 l2 : Option Value) (w i : Int32) (a : Nat) (r : List Value) (h : zH) (hx : zpok (h.2.2 a) i = true), zD 122 47 [l0, l1, l2] (.int w :: .int i :: .ref a :: r) h = zD 122 48 [l0, l1, l2] r (zw h a (zis' (h.2.2 a) i w))) ∧
  (∀ (l1 l2 : Option Value) (x : Nat) (S : List Value) (h : zH), zD 122 48 [some (.ref x), l1, l2] S h = zD 122 49 [some (.ref x), l1, l2] (.ref x :: S) h) ∧
  (∀ (l0 l1 l2 : Option Value) (a : Nat) (r : List Value) (h : zH) (hx : zfok (h.2.2 a) 9 2 = true), zD 122 49 [l0, l1, l2] (.ref a :: r) h = zD 122 52 [l0, l1, l2] (zfv (h.2.2 a) 2 :: r) h) ∧
  (∀ (l0 l1 : Option Value) (x : Int32) (S : List Value) (h : zH), zD 122 52 [l0, l1, some (.int x)] S h = zD 122 53 [l0, l1, some (.int x)] (.int x :: S) h) ∧
  (∀ (l1 l2 : Option Value) (x : Nat) (S : List Value) (h : zH), zD 122 53 [some (.ref x), l1, l2] S h = zD 122 54 [some (.ref x), l1, l2] (.ref x :: S) h) ∧
  (∀ (l0 l1 l2 : Option Value) (a : Nat) (r : List Value) (h : zH) (hx : zfok (h.2.2 a) 9 14 = true), zD 122 54 [l0, l1, l2] (.ref a :: r) h = zD 122 57 [l0, l1, l2] (zfv (h.2.2 a) 14 :: r) h) ∧
  (∀ (l0 l1 l2 : Option Value) (S : List Value) (h : zH), zD 122 57 [l0, l1, l2] S h = zD 122 59 [l0, l1, l2] (.int (8 : Int32) :: S) h) ∧
  (∀ (l0 l2 : Option Value) (x : Int32) (S : List Value) (h : zH), zD 122 59 [l0, some (.int x), l2] S h = zD 122 60 [l0, some (.int x), l2] (.int x :: S) h) ∧
  (∀ (l0 l1 l2 : Option Value) (x y : Int32) (r : List Value) (h : zH), zD 122 60 [l0, l1, l2] (.int y :: .int x :: r) h = zD 122 61 [l0, l1, l2] (.int (x * y) :: r) h) ∧
  (∀ (l0 l1 : Option Value) (x : Int32) (S : List Value) (h : zH), zD 122 61 [l0, l1, some (.int x)] S h = zD 122 62 [l0, l1, some (.int x)] (.int x :: S) h) ∧
  (∀ (l0 l1 l2 : Option Value) (x y : Int32) (r : List Value) (h : zH), zD 122 62 [l0, l1, l2] (.int y :: .int x :: r) h = zD 122 63 [l0, l1, l2] (.int (x + y) :: r) h) ∧
  (∀ (l0 l1 l2 : Option Value) (i : Int32) (a : Nat) (r : List Value) (h : zH) (hx : ziok a (h.2.2 a) i = true), zD 122 63 [l0, l1, l2] (.int i :: .ref a :: r) h = zD 122 64 [l0, l1, l2] (.int (ziv (h.2.2 a) i) :: r) h) ∧
  (∀ (l0 l1 l2 : Option Value) (w i : Int32) (a : Nat) (r : List Value) (h : zH) (hx : zpok (h.2.2 a) i = true), zD 122 64 [l0, l1, l2] (.int w :: .int i :: .ref a :: r) h = zD 122 65 [l0, l1, l2] r (zw h a (zis' (h.2.2 a) i w))) ∧
  (∀ (l0 l1 : Option Value) (x : Int32) (S : List Value) (h : zH), zD 122 65 [l0, l1, some (.int x)] S h = zD 122 68 [l0, zclr l1, some (.int (x + (1 : Int32)))] S h) ∧
  (∀ (l0 l1 l2 : Option Value) (S : List Value) (h : zH), zD 122 68 [l0, l1, l2] S h = zD 122 23 [l0, l1, l2] S h) ∧
  (∀ (l1 l2 : Option Value) (x : Nat) (S : List Value) (h : zH), zD 122 71 [some (.ref x), l1, l2] S h = zD 122 72 [some (.ref x), l1, l2] (.ref x :: S) h) ∧
  (∀ (l0 l1 l2 : Option Value) (a : Nat) (r : List Value) (h : zH) (hx : zfok (h.2.2 a) 9 0 = true), zD 122 72 [l0, l1, l2] (.ref a :: r) h = zD 122 75 [l0, l1, l2] (zfv (h.2.2 a) 0 :: r) h) ∧
  (∀ (l0 l1 l2 : Option Value) (v : Int32) (h : zH), zD 122 75 [l0, l1, l2] [.int v] h = some (some (.int v), h)) :=
  ⟨fun l1 l2 x S h => zD_op (ins := .aload_n 0) (len := 1) (c := (1, [some (.ref x), l1, l2], (.ref x :: S), h)) (by decide +kernel) rfl rfl rfl rfl,
  fun l0 l2 x S h => zD_op (ins := .iload_n 1) (len := 1) (c := (2, [l0, some (.int x), l2], (.int x :: S), h)) (by decide +kernel) rfl rfl rfl rfl,
  fun l0 l1 l2 p0 a r h hcat hr hC => zD_callv (i := 129) (y := 81) (n := 1) (as := [.int p0]) (ci := 9) (by decide +kernel) (by decide +kernel) rfl (by decide +kernel) (Nat.le_of_ble_eq_true rfl) (by decide +kernel) hcat hr hC,
  fun l0 l1 l2 x r h => zD_if0 (cnd := .ne) (off := 6) (by decide +kernel) (by decide) rfl,
  fun l0 l1 l2 S h => zD_bip (n := (-101)) (by decide +kernel) (by decide +kernel),
  fun l0 l1 l2 v h => zD_ireti (by decide +kernel) rfl,
  fun l1 l2 x S h => zD_op (ins := .aload_n 0) (len := 1) (c := (12, [some (.ref x), l1, l2], (.ref x :: S), h)) (by decide +kernel) rfl rfl rfl rfl,
  fun l1 l2 x S h => zD_op (ins := .aload_n 0) (len := 1) (c := (13, [some (.ref x), l1, l2], (.ref x :: S), h)) (by decide +kernel) rfl rfl rfl rfl,
  fun l0 l1 l2 a r h hx => zD_getf (i := 43) (ci := 9) (k := 12) (q := (723, 0)) (by decide +kernel) (by decide +kernel) hx,
  fun l0 l2 x S h => zD_op (ins := .iload_n 1) (len := 1) (c := (17, [l0, some (.int x), l2], (.int x :: S), h)) (by decide +kernel) rfl rfl rfl rfl,
  fun l0 l1 l2 i a r h hx => zD_iald (by decide +kernel) hx,
  fun l0 l1 l2 p0 a r h hcat hr hC => zD_callv (i := 81) (y := 27) (n := 1) (as := [.int p0]) (ci := 9) (by decide +kernel) (by decide +kernel) rfl (by decide +kernel) (Nat.le_of_ble_eq_true rfl) (by decide +kernel) hcat hr hC,
  fun l0 l1 l2 S h => zD_icst (n := 1) (by decide +kernel) (by decide +kernel),
  fun l0 l1 l2 x r h => zD_st1 (k := 2) (ins := .istore_n 2) (len := 1) (by decide +kernel) rfl rfl rfl (by decide +kernel) rfl rfl,
  fun l1 l2 x S h => zD_op (ins := .aload_n 0) (len := 1) (c := (25, [some (.ref x), l1, l2], (.ref x :: S), h)) (by decide +kernel) rfl rfl rfl rfl,
  fun l0 l1 l2 a r h hx => zD_getf (i := 7) (ci := 9) (k := 0) (q := (711, 0)) (by decide +kernel) (by decide +kernel) hx,
  fun l0 l1 l2 x y r h => zD_if (cnd := .gt) (off := 43) (by decide +kernel) (by decide) rfl,
  fun l1 l2 x S h => zD_op (ins := .aload_n 0) (len := 1) (c := (32, [some (.ref x), l1, l2], (.ref x :: S), h)) (by decide +kernel) rfl rfl rfl rfl,
  fun l0 l1 l2 a r h hx => zD_getf (i := 13) (ci := 9) (k := 1) (q := (712, 0)) (by decide +kernel) (by decide +kernel) hx,
  fun l0 l1 x S h => zD_op (ins := .iload_n 2) (len := 1) (c := (36, [l0, l1, some (.int x)], (.int x :: S), h)) (by decide +kernel) rfl rfl rfl rfl,
  fun l1 l2 x S h => zD_op (ins := .aload_n 0) (len := 1) (c := (37, [some (.ref x), l1, l2], (.ref x :: S), h)) (by decide +kernel) rfl rfl rfl rfl,
  fun l0 l1 l2 a r h hx => zD_getf (i := 46) (ci := 9) (k := 13) (q := (724, 0)) (by decide +kernel) (by decide +kernel) hx,
  fun l0 l1 l2 S h => zD_bip (n := 8) (by decide +kernel) (by decide +kernel),
  fun l0 l2 x S h => zD_op (ins := .iload_n 1) (len := 1) (c := (43, [l0, some (.int x), l2], (.int x :: S), h)) (by decide +kernel) rfl rfl rfl rfl,
  fun l0 l1 l2 x y r h => zD_op (ins := .imul) (len := 1) (c := (44, [l0, l1, l2], (.int (x * y) :: r), h)) (by decide +kernel) rfl rfl rfl rfl,
  fun l0 l1 x S h => zD_op (ins := .iload_n 2) (len := 1) (c := (45, [l0, l1, some (.int x)], (.int x :: S), h)) (by decide +kernel) rfl rfl rfl rfl,
  fun l0 l1 l2 x y r h => zD_op (ins := .iadd) (len := 1) (c := (46, [l0, l1, l2], (.int (x + y) :: r), h)) (by decide +kernel) rfl rfl rfl rfl,
  fun l0 l1 l2 i a r h hx => zD_iald (by decide +kernel) hx,
  fun l0 l1 l2 w i a r h hx => zD_iast (by decide +kernel) hx,
  fun l1 l2 x S h => zD_op (ins := .aload_n 0) (len := 1) (c := (49, [some (.ref x), l1, l2], (.ref x :: S), h)) (by decide +kernel) rfl rfl rfl rfl,
  fun l0 l1 l2 a r h hx => zD_getf (i := 17) (ci := 9) (k := 2) (q := (713, 0)) (by decide +kernel) (by decide +kernel) hx,
  fun l0 l1 x S h => zD_op (ins := .iload_n 2) (len := 1) (c := (53, [l0, l1, some (.int x)], (.int x :: S), h)) (by decide +kernel) rfl rfl rfl rfl,
  fun l1 l2 x S h => zD_op (ins := .aload_n 0) (len := 1) (c := (54, [some (.ref x), l1, l2], (.ref x :: S), h)) (by decide +kernel) rfl rfl rfl rfl,
  fun l0 l1 l2 a r h hx => zD_getf (i := 49) (ci := 9) (k := 14) (q := (725, 0)) (by decide +kernel) (by decide +kernel) hx,
  fun l0 l1 l2 S h => zD_bip (n := 8) (by decide +kernel) (by decide +kernel),
  fun l0 l2 x S h => zD_op (ins := .iload_n 1) (len := 1) (c := (60, [l0, some (.int x), l2], (.int x :: S), h)) (by decide +kernel) rfl rfl rfl rfl,
  fun l0 l1 l2 x y r h => zD_op (ins := .imul) (len := 1) (c := (61, [l0, l1, l2], (.int (x * y) :: r), h)) (by decide +kernel) rfl rfl rfl rfl,
  fun l0 l1 x S h => zD_op (ins := .iload_n 2) (len := 1) (c := (62, [l0, l1, some (.int x)], (.int x :: S), h)) (by decide +kernel) rfl rfl rfl rfl,
  fun l0 l1 l2 x y r h => zD_op (ins := .iadd) (len := 1) (c := (63, [l0, l1, l2], (.int (x + y) :: r), h)) (by decide +kernel) rfl rfl rfl rfl,
  fun l0 l1 l2 i a r h hx => zD_iald (by decide +kernel) hx,
  fun l0 l1 l2 w i a r h hx => zD_iast (by decide +kernel) hx,
  fun l0 l1 x S h => zD_iinc (k := 2) (x := x) (c := (1 : Int32)) (n := 1) (by decide +kernel) (by decide +kernel) rfl (by decide +kernel) rfl,
  fun l0 l1 l2 S h => zD_goto (off := (-45)) (by decide +kernel) (by decide),
  fun l1 l2 x S h => zD_op (ins := .aload_n 0) (len := 1) (c := (72, [some (.ref x), l1, l2], (.ref x :: S), h)) (by decide +kernel) rfl rfl rfl rfl,
  fun l0 l1 l2 a r h hx => zD_getf (i := 7) (ci := 9) (k := 0) (q := (711, 0)) (by decide +kernel) (by decide +kernel) hx,
  fun l0 l1 l2 v h => zD_ireti (by decide +kernel) rfl⟩
set_option maxRecDepth 100000 in
theorem E_X10_recall_h23 : (∀ (l0 l1 : Option Value) (x : Int32) (S : List Value) (h : zH), zD 122 23 [l0, l1, some (.int x)] S h = zD 122 24 [l0, l1, some (.int x)] (.int x :: S) h) :=
  fun l0 l1 x S h => zD_op (ins := .iload_n 2) (len := 1) (c := (24, [l0, l1, some (.int x)], (.int x :: S), h)) (by decide +kernel) rfl rfl rfl rfl
set_option maxRecDepth 100000 in
theorem I_X10_recall : (∀ (a : Nat) (p0 : Int32) (h : zH), zC 122 [.ref a, .int p0] h = zD 122 0 [some (.ref a), some (.int p0), none] [] h) :=
  fun a p0 h => zC_def rfl
