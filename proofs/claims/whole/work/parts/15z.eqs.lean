set_option maxRecDepth 100000 in
theorem E_L_law : (∀ (l0 l1 l2 l3 : Option Value) (S : List Value) (h : zH), zD 165 0 [l0, l1, l2, l3] S h = zD 165 3 [l0, l1, l2, l3] (.ref h.1 :: S) (znew h 7 (.inr (8, [.null, .null, .null, .null, .null, .null, .null])))) ∧
  (∀ (l0 l1 l2 l3 : Option Value) (x : Int32) (r : List Value) (h : zH), zD 165 3 [l0, l1, l2, l3] (.int x :: r) h = zD 165 4 [l0, l1, l2, l3] (.int x :: .int x :: r) h) ∧
  (∀ (l0 l1 l2 l3 : Option Value) (x : Nat) (r : List Value) (h : zH), zD 165 3 [l0, l1, l2, l3] (.ref x :: r) h = zD 165 4 [l0, l1, l2, l3] (.ref x :: .ref x :: r) h) ∧
  (∀ (l0 l1 l2 l3 : Option Value) (a : Nat) (r : List Value) (h : zH) (hcat : zcat r ≤ 8) (hC : (zC 153 [.ref a] h).isSome = true), zD 165 4 [l0, l1, l2, l3] (.ref a :: r) h = zD 165 7 [l0, l1, l2, l3] (zgv (zC 153 [.ref a] h) ++ r) (zgh h (zC 153 [.ref a] h))) ∧
  (∀ (l0 l1 l2 l3 : Option Value) (x : Nat) (r : List Value) (h : zH), zD 165 7 [l0, l1, l2, l3] (.ref x :: r) h = zD 165 8 [zclr l0, some (.ref x), l2, l3] r h) ∧
  (∀ (l0 l1 l2 l3 : Option Value) (r : List Value) (h : zH), zD 165 7 [l0, l1, l2, l3] (.null :: r) h = zD 165 8 [zclr l0, some .null, l2, l3] r h) ∧
  (∀ (l0 l1 l2 l3 : Option Value) (S : List Value) (h : zH), zD 165 8 [l0, l1, l2, l3] S h = zD 165 11 [l0, l1, l2, l3] (.ref h.1 :: S) (znew h 25 (.inr (9, [.int 0, .null, .null, .null, .null, .int 0, .null, .null, .null, .null, .int 0, .null, .null, .null, .null, .int 0, .null, .null, .null, .null, .null, .null, .int 0, .null, .long 0])))) ∧
  (∀ (l0 l1 l2 l3 : Option Value) (x : Int32) (r : List Value) (h : zH), zD 165 11 [l0, l1, l2, l3] (.int x :: r) h = zD 165 12 [l0, l1, l2, l3] (.int x :: .int x :: r) h) ∧
  (∀ (l0 l1 l2 l3 : Option Value) (x : Nat) (r : List Value) (h : zH), zD 165 11 [l0, l1, l2, l3] (.ref x :: r) h = zD 165 12 [l0, l1, l2, l3] (.ref x :: .ref x :: r) h) ∧
  (∀ (l0 l1 l2 l3 : Option Value) (a : Nat) (r : List Value) (h : zH) (hcat : zcat r ≤ 8) (hC : (zC 76 [.ref a] h).isSome = true), zD 165 12 [l0, l1, l2, l3] (.ref a :: r) h = zD 165 15 [l0, l1, l2, l3] (zgv (zC 76 [.ref a] h) ++ r) (zgh h (zC 76 [.ref a] h))) ∧
  (∀ (l0 l1 l2 l3 : Option Value) (x : Nat) (r : List Value) (h : zH), zD 165 15 [l0, l1, l2, l3] (.ref x :: r) h = zD 165 16 [l0, zclr l1, some (.ref x), l3] r h) ∧
  (∀ (l0 l1 l2 l3 : Option Value) (r : List Value) (h : zH), zD 165 15 [l0, l1, l2, l3] (.null :: r) h = zD 165 16 [l0, zclr l1, some .null, l3] r h) ∧
  (∀ (l0 l1 l2 l3 : Option Value) (S : List Value) (h : zH), zD 165 16 [l0, l1, l2, l3] S h = zD 165 17 [l0, l1, l2, l3] (.int (0 : Int32) :: S) h) ∧
  (∀ (l0 l1 l2 l3 : Option Value) (x : Int32) (r : List Value) (h : zH), zD 165 17 [l0, l1, l2, l3] (.int x :: r) h = zD 165 18 [l0, l1, zclr l2, some (.int x)] r h) ∧
  (∀ (l1 l2 l3 : Option Value) (x : Nat) (S : List Value) (h : zH), zD 165 19 [some (.ref x), l1, l2, l3] S h = zD 165 20 [some (.ref x), l1, l2, l3] (.ref x :: S) h) ∧
  (∀ (l0 l1 l2 l3 : Option Value) (a : Nat) (r : List Value) (h : zH) (hx : zaok a (h.2.2 a) = true), zD 165 20 [l0, l1, l2, l3] (.ref a :: r) h = zD 165 21 [l0, l1, l2, l3] (.int (Int32.ofNat (zan (h.2.2 a))) :: r) h) ∧
  (∀ (l0 l1 l2 l3 : Option Value) (S : List Value) (h : zH), zD 165 21 [l0, l1, l2, l3] S h = zD 165 22 [l0, l1, l2, l3] (.int (4 : Int32) :: S) h) ∧
  (∀ (l0 l1 l2 l3 : Option Value) (x y : Int32) (r : List Value) (h : zH), zD 165 22 [l0, l1, l2, l3] (.int y :: .int x :: r) h = zD 165 23 [l0, l1, l2, l3] (.int (x - y) :: r) h) ∧
  (∀ (l0 l1 l2 l3 : Option Value) (x y : Int32) (r : List Value) (h : zH), zD 165 23 [l0, l1, l2, l3] (.int y :: .int x :: r) h = if y < x then zD 165 911 [l0, l1, l2, l3] r h else zD 165 26 [l0, l1, l2, l3] r h) ∧
  (∀ (l1 l2 l3 : Option Value) (x : Nat) (S : List Value) (h : zH), zD 165 26 [some (.ref x), l1, l2, l3] S h = zD 165 27 [some (.ref x), l1, l2, l3] (.ref x :: S) h) ∧
  (∀ (l0 l1 l2 : Option Value) (x : Int32) (S : List Value) (h : zH), zD 165 27 [l0, l1, l2, some (.int x)] S h = zD 165 28 [l0, l1, l2, some (.int x)] (.int x :: S) h) ∧
  (∀ (l0 l1 l2 l3 : Option Value) (i : Int32) (a : Nat) (r : List Value) (h : zH) (hx : ziok a (h.2.2 a) i = true), zD 165 28 [l0, l1, l2, l3] (.int i :: .ref a :: r) h = zD 165 29 [l0, l1, l2, l3] (.int (ziv (h.2.2 a) i) :: r) h) ∧
  (∀ (l0 l1 l2 l3 : Option Value) (S : List Value) (h : zH), zD 165 29 [l0, l1, l2, l3] S h = zD 165 31 [l0, l1, l2, l3] (.int (31 : Int32) :: S) h) ∧
  (∀ (l0 l1 l2 l3 : Option Value) (x y : Int32) (r : List Value) (h : zH), zD 165 31 [l0, l1, l2, l3] (.int y :: .int x :: r) h = zD 165 32 [l0, l1, l2, l3] (.int (x &&& y) :: r) h) ∧
  (∀ (l0 l1 l2 l3 : Option Value) (x : Int32) (t : Nat) (r : List Value) (h : zH) (hx : ztab 32 873 0 26 #[124, 147, 180, 223, 282, 315, 348, 371, 384, 397, 430, 463, 496, 520, 543, 556, 579, 602, 645, 658, 701, 714, 737, 770, 803, 836, 859] x [l0, l1, l2, l3] r h = some (t, [l0, l1, l2, l3], r, h)), zD 165 32 [l0, l1, l2, l3] (.int x :: r) h = zD 165 t [l0, l1, l2, l3] r h) ∧
  (∀ (l0 l2 l3 : Option Value) (x : Nat) (S : List Value) (h : zH), zD 165 156 [l0, some (.ref x), l2, l3] S h = zD 165 157 [l0, some (.ref x), l2, l3] (.ref x :: S) h) ∧
  (∀ (l0 l2 l3 : Option Value) (S : List Value) (h : zH), zD 165 156 [l0, some .null, l2, l3] S h = zD 165 157 [l0, some .null, l2, l3] (.null :: S) h) ∧
  (∀ (l1 l2 l3 : Option Value) (x : Nat) (S : List Value) (h : zH), zD 165 157 [some (.ref x), l1, l2, l3] S h = zD 165 158 [some (.ref x), l1, l2, l3] (.ref x :: S) h) ∧
  (∀ (l0 l1 l2 : Option Value) (x : Int32) (S : List Value) (h : zH), zD 165 158 [l0, l1, l2, some (.int x)] S h = zD 165 159 [l0, l1, l2, some (.int x)] (.int x :: S) h) ∧
  (∀ (l0 l1 l2 l3 : Option Value) (S : List Value) (h : zH), zD 165 159 [l0, l1, l2, l3] S h = zD 165 160 [l0, l1, l2, l3] (.int (1 : Int32) :: S) h) ∧
  (∀ (l0 l1 l2 l3 : Option Value) (x y : Int32) (r : List Value) (h : zH), zD 165 160 [l0, l1, l2, l3] (.int y :: .int x :: r) h = zD 165 161 [l0, l1, l2, l3] (.int (x + y) :: r) h) ∧
  (∀ (l0 l1 l2 l3 : Option Value) (i : Int32) (a : Nat) (r : List Value) (h : zH) (hx : ziok a (h.2.2 a) i = true), zD 165 161 [l0, l1, l2, l3] (.int i :: .ref a :: r) h = zD 165 162 [l0, l1, l2, l3] (.int (ziv (h.2.2 a) i) :: r) h) ∧
  (∀ (l0 l1 l2 l3 : Option Value) (p0 : Int32) (a : Nat) (r : List Value) (h : zH) (hcat : zcat r ≤ 8) (hr : zis (h.2.2 a) 8 = true) (hC : (zC 104 (.ref a :: [.int p0]) h).isSome = true), zD 165 162 [l0, l1, l2, l3] (.int p0 :: .ref a :: r) h = zD 165 165 [l0, l1, l2, l3] (zgv (zC 104 (.ref a :: [.int p0]) h) ++ r) (zgh h (zC 104 (.ref a :: [.int p0]) h))) ∧
  (∀ (l0 l1 l3 : Option Value) (x : Nat) (S : List Value) (h : zH), zD 165 165 [l0, l1, some (.ref x), l3] S h = zD 165 166 [l0, l1, some (.ref x), l3] (.ref x :: S) h) ∧
  (∀ (l0 l1 l3 : Option Value) (S : List Value) (h : zH), zD 165 165 [l0, l1, some .null, l3] S h = zD 165 166 [l0, l1, some .null, l3] (.null :: S) h) ∧
  (∀ (l1 l2 l3 : Option Value) (x : Nat) (S : List Value) (h : zH), zD 165 166 [some (.ref x), l1, l2, l3] S h = zD 165 167 [some (.ref x), l1, l2, l3] (.ref x :: S) h) ∧
  (∀ (l0 l1 l2 : Option Value) (x : Int32) (S : List Value) (h : zH), zD 165 167 [l0, l1, l2, some (.int x)] S h = zD 165 168 [l0, l1, l2, some (.int x)] (.int x :: S) h) ∧
  (∀ (l0 l1 l2 l3 : Option Value) (S : List Value) (h : zH), zD 165 168 [l0, l1, l2, l3] S h = zD 165 169 [l0, l1, l2, l3] (.int (1 : Int32) :: S) h) ∧
  (∀ (l0 l1 l2 l3 : Option Value) (x y : Int32) (r : List Value) (h : zH), zD 165 169 [l0, l1, l2, l3] (.int y :: .int x :: r) h = zD 165 170 [l0, l1, l2, l3] (.int (x + y) :: r) h) ∧
  (∀ (l0 l1 l2 l3 : Option Value) (i : Int32) (a : Nat) (r : List Value) (h : zH) (hx : ziok a (h.2.2 a) i = true), zD 165 170 [l0, l1, l2, l3] (.int i :: .ref a :: r) h = zD 165 171 [l0, l1, l2, l3] (.int (ziv (h.2.2 a) i) :: r) h) ∧
  (∀ (l0 l1 l2 l3 : Option Value) (p0 : Int32) (a : Nat) (r : List Value) (h : zH) (hcat : zcat r ≤ 8) (hr : zis (h.2.2 a) 9 = true) (hC : (zC 77 (.ref a :: [.int p0]) h).isSome = true), zD 165 171 [l0, l1, l2, l3] (.int p0 :: .ref a :: r) h = zD 165 174 [l0, l1, l2, l3] (zgv (zC 77 (.ref a :: [.int p0]) h) ++ r) (zgh h (zC 77 (.ref a :: [.int p0]) h))) ∧
  (∀ (l0 l1 l2 l3 : Option Value) (x y : Int32) (r : List Value) (h : zH), zD 165 174 [l0, l1, l2, l3] (.int y :: .int x :: r) h = if x = y then zD 165 905 [l0, l1, l2, l3] r h else zD 165 177 [l0, l1, l2, l3] r h) ∧
  (∀ (l0 l1 l2 l3 : Option Value) (S : List Value) (h : zH), zD 165 177 [l0, l1, l2, l3] S h = zD 165 178 [l0, l1, l2, l3] (.int (0 : Int32) :: S) h) ∧
  (∀ (l0 l1 l2 l3 : Option Value) (v : Int32) (h : zH) (hv : zbv v), zD 165 178 [l0, l1, l2, l3] [.int v] h = some (some (.int v), h)) ∧
  (∀ (l0 l2 l3 : Option Value) (x : Nat) (S : List Value) (h : zH), zD 165 179 [l0, some (.ref x), l2, l3] S h = zD 165 180 [l0, some (.ref x), l2, l3] (.ref x :: S) h) ∧
  (∀ (l0 l2 l3 : Option Value) (S : List Value) (h : zH), zD 165 179 [l0, some .null, l2, l3] S h = zD 165 180 [l0, some .null, l2, l3] (.null :: S) h) ∧
  (∀ (l1 l2 l3 : Option Value) (x : Nat) (S : List Value) (h : zH), zD 165 180 [some (.ref x), l1, l2, l3] S h = zD 165 181 [some (.ref x), l1, l2, l3] (.ref x :: S) h) ∧
  (∀ (l0 l1 l2 : Option Value) (x : Int32) (S : List Value) (h : zH), zD 165 181 [l0, l1, l2, some (.int x)] S h = zD 165 182 [l0, l1, l2, some (.int x)] (.int x :: S) h) ∧
  (∀ (l0 l1 l2 l3 : Option Value) (S : List Value) (h : zH), zD 165 182 [l0, l1, l2, l3] S h = zD 165 183 [l0, l1, l2, l3] (.int (1 : Int32) :: S) h) ∧
  (∀ (l0 l1 l2 l3 : Option Value) (x y : Int32) (r : List Value) (h : zH), zD 165 183 [l0, l1, l2, l3] (.int y :: .int x :: r) h = zD 165 184 [l0, l1, l2, l3] (.int (x + y) :: r) h) ∧
  (∀ (l0 l1 l2 l3 : Option Value) (i : Int32) (a : Nat) (r : List Value) (h : zH) (hx : ziok a (h.2.2 a) i = true), zD 165 184 [l0, l1, l2, l3] (.int i :: .ref a :: r) h = zD 165 185 [l0, l1, l2, l3] (.int (ziv (h.2.2 a) i) :: r) h) ∧
  (∀ (l1 l2 l3 : Option Value) (x : Nat) (S : List Value) (h : zH), zD 165 185 [some (.ref x), l1, l2, l3] S h = zD 165 186 [some (.ref x), l1, l2, l3] (.ref x :: S) h) ∧
  (∀ (l0 l1 l2 : Option Value) (x : Int32) (S : List Value) (h : zH), zD 165 186 [l0, l1, l2, some (.int x)] S h = zD 165 187 [l0, l1, l2, some (.int x)] (.int x :: S) h) ∧
  (∀ (l0 l1 l2 l3 : Option Value) (S : List Value) (h : zH), zD 165 187 [l0, l1, l2, l3] S h = zD 165 188 [l0, l1, l2, l3] (.int (2 : Int32) :: S) h) ∧
  (∀ (l0 l1 l2 l3 : Option Value) (x y : Int32) (r : List Value) (h : zH), zD 165 188 [l0, l1, l2, l3] (.int y :: .int x :: r) h = zD 165 189 [l0, l1, l2, l3] (.int (x + y) :: r) h) ∧
  (∀ (l0 l1 l2 l3 : Option Value) (i : Int32) (a : Nat) (r : List Value) (h : zH) (hx : ziok a (h.2.2 a) i = true), zD 165 189 [l0, l1, l2, l3] (.int i :: .ref a :: r) h = zD 165 190 [l0, l1, l2, l3] (.int (ziv (h.2.2 a) i) :: r) h) ∧
  (∀ (l0 l1 l2 l3 : Option Value) (p0 : Int32) (p1 : Int32) (a : Nat) (r : List Value) (h : zH) (hcat : zcat r ≤ 8) (hr : zis (h.2.2 a) 8 = true) (hC : (zC 68 (.ref a :: [.int p0, .int p1]) h).isSome = true), zD 165 190 [l0, l1, l2, l3] (.int p1 :: .int p0 :: .ref a :: r) h = zD 165 193 [l0, l1, l2, l3] (zgv (zC 68 (.ref a :: [.int p0, .int p1]) h) ++ r) (zgh h (zC 68 (.ref a :: [.int p0, .int p1]) h))) ∧
  (∀ (l0 l1 l3 : Option Value) (x : Nat) (S : List Value) (h : zH), zD 165 193 [l0, l1, some (.ref x), l3] S h = zD 165 194 [l0, l1, some (.ref x), l3] (.ref x :: S) h) ∧
  (∀ (l0 l1 l3 : Option Value) (S : List Value) (h : zH), zD 165 193 [l0, l1, some .null, l3] S h = zD 165 194 [l0, l1, some .null, l3] (.null :: S) h) ∧
  (∀ (l1 l2 l3 : Option Value) (x : Nat) (S : List Value) (h : zH), zD 165 194 [some (.ref x), l1, l2, l3] S h = zD 165 195 [some (.ref x), l1, l2, l3] (.ref x :: S) h) ∧
  (∀ (l0 l1 l2 : Option Value) (x : Int32) (S : List Value) (h : zH), zD 165 195 [l0, l1, l2, some (.int x)] S h = zD 165 196 [l0, l1, l2, some (.int x)] (.int x :: S) h) ∧
  (∀ (l0 l1 l2 l3 : Option Value) (S : List Value) (h : zH), zD 165 196 [l0, l1, l2, l3] S h = zD 165 197 [l0, l1, l2, l3] (.int (1 : Int32) :: S) h) ∧
  (∀ (l0 l1 l2 l3 : Option Value) (x y : Int32) (r : List Value) (h : zH), zD 165 197 [l0, l1, l2, l3] (.int y :: .int x :: r) h = zD 165 198 [l0, l1, l2, l3] (.int (x + y) :: r) h) ∧
  (∀ (l0 l1 l2 l3 : Option Value) (i : Int32) (a : Nat) (r : List Value) (h : zH) (hx : ziok a (h.2.2 a) i = true), zD 165 198 [l0, l1, l2, l3] (.int i :: .ref a :: r) h = zD 165 199 [l0, l1, l2, l3] (.int (ziv (h.2.2 a) i) :: r) h) ∧
  (∀ (l1 l2 l3 : Option Value) (x : Nat) (S : List Value) (h : zH), zD 165 199 [some (.ref x), l1, l2, l3] S h = zD 165 200 [some (.ref x), l1, l2, l3] (.ref x :: S) h) ∧
  (∀ (l0 l1 l2 : Option Value) (x : Int32) (S : List Value) (h : zH), zD 165 200 [l0, l1, l2, some (.int x)] S h = zD 165 201 [l0, l1, l2, some (.int x)] (.int x :: S) h) ∧
  (∀ (l0 l1 l2 l3 : Option Value) (S : List Value) (h : zH), zD 165 201 [l0, l1, l2, l3] S h = zD 165 202 [l0, l1, l2, l3] (.int (2 : Int32) :: S) h) ∧
  (∀ (l0 l1 l2 l3 : Option Value) (x y : Int32) (r : List Value) (h : zH), zD 165 202 [l0, l1, l2, l3] (.int y :: .int x :: r) h = zD 165 203 [l0, l1, l2, l3] (.int (x + y) :: r) h) ∧
  (∀ (l0 l1 l2 l3 : Option Value) (i : Int32) (a : Nat) (r : List Value) (h : zH) (hx : ziok a (h.2.2 a) i = true), zD 165 203 [l0, l1, l2, l3] (.int i :: .ref a :: r) h = zD 165 204 [l0, l1, l2, l3] (.int (ziv (h.2.2 a) i) :: r) h) ∧
  (∀ (l0 l1 l2 l3 : Option Value) (p0 : Int32) (p1 : Int32) (a : Nat) (r : List Value) (h : zH) (hcat : zcat r ≤ 8) (hr : zis (h.2.2 a) 9 = true) (hC : (zC 114 (.ref a :: [.int p0, .int p1]) h).isSome = true), zD 165 204 [l0, l1, l2, l3] (.int p1 :: .int p0 :: .ref a :: r) h = zD 165 207 [l0, l1, l2, l3] (zgv (zC 114 (.ref a :: [.int p0, .int p1]) h) ++ r) (zgh h (zC 114 (.ref a :: [.int p0, .int p1]) h))) ∧
  (∀ (l0 l1 l2 l3 : Option Value) (x y : Int32) (r : List Value) (h : zH), zD 165 207 [l0, l1, l2, l3] (.int y :: .int x :: r) h = if x = y then zD 165 905 [l0, l1, l2, l3] r h else zD 165 210 [l0, l1, l2, l3] r h) ∧
  (∀ (l0 l1 l2 l3 : Option Value) (S : List Value) (h : zH), zD 165 210 [l0, l1, l2, l3] S h = zD 165 211 [l0, l1, l2, l3] (.int (0 : Int32) :: S) h) ∧
  (∀ (l0 l1 l2 l3 : Option Value) (v : Int32) (h : zH) (hv : zbv v), zD 165 211 [l0, l1, l2, l3] [.int v] h = some (some (.int v), h)) ∧
  (∀ (l0 l2 l3 : Option Value) (x : Nat) (S : List Value) (h : zH), zD 165 212 [l0, some (.ref x), l2, l3] S h = zD 165 213 [l0, some (.ref x), l2, l3] (.ref x :: S) h) ∧
  (∀ (l0 l2 l3 : Option Value) (S : List Value) (h : zH), zD 165 212 [l0, some .null, l2, l3] S h = zD 165 213 [l0, some .null, l2, l3] (.null :: S) h) ∧
  (∀ (l1 l2 l3 : Option Value) (x : Nat) (S : List Value) (h : zH), zD 165 213 [some (.ref x), l1, l2, l3] S h = zD 165 214 [some (.ref x), l1, l2, l3] (.ref x :: S) h) ∧
  (∀ (l0 l1 l2 : Option Value) (x : Int32) (S : List Value) (h : zH), zD 165 214 [l0, l1, l2, some (.int x)] S h = zD 165 215 [l0, l1, l2, some (.int x)] (.int x :: S) h) ∧
  (∀ (l0 l1 l2 l3 : Option Value) (S : List Value) (h : zH), zD 165 215 [l0, l1, l2, l3] S h = zD 165 216 [l0, l1, l2, l3] (.int (1 : Int32) :: S) h) ∧
  (∀ (l0 l1 l2 l3 : Option Value) (x y : Int32) (r : List Value) (h : zH), zD 165 216 [l0, l1, l2, l3] (.int y :: .int x :: r) h = zD 165 217 [l0, l1, l2, l3] (.int (x + y) :: r) h) ∧
  (∀ (l0 l1 l2 l3 : Option Value) (i : Int32) (a : Nat) (r : List Value) (h : zH) (hx : ziok a (h.2.2 a) i = true), zD 165 217 [l0, l1, l2, l3] (.int i :: .ref a :: r) h = zD 165 218 [l0, l1, l2, l3] (.int (ziv (h.2.2 a) i) :: r) h) ∧
  (∀ (l1 l2 l3 : Option Value) (x : Nat) (S : List Value) (h : zH), zD 165 218 [some (.ref x), l1, l2, l3] S h = zD 165 219 [some (.ref x), l1, l2, l3] (.ref x :: S) h) ∧
  (∀ (l0 l1 l2 : Option Value) (x : Int32) (S : List Value) (h : zH), zD 165 219 [l0, l1, l2, some (.int x)] S h = zD 165 220 [l0, l1, l2, some (.int x)] (.int x :: S) h) ∧
  (∀ (l0 l1 l2 l3 : Option Value) (S : List Value) (h : zH), zD 165 220 [l0, l1, l2, l3] S h = zD 165 221 [l0, l1, l2, l3] (.int (2 : Int32) :: S) h) ∧
  (∀ (l0 l1 l2 l3 : Option Value) (x y : Int32) (r : List Value) (h : zH), zD 165 221 [l0, l1, l2, l3] (.int y :: .int x :: r) h = zD 165 222 [l0, l1, l2, l3] (.int (x + y) :: r) h) ∧
  (∀ (l0 l1 l2 l3 : Option Value) (i : Int32) (a : Nat) (r : List Value) (h : zH) (hx : ziok a (h.2.2 a) i = true), zD 165 222 [l0, l1, l2, l3] (.int i :: .ref a :: r) h = zD 165 223 [l0, l1, l2, l3] (.int (ziv (h.2.2 a) i) :: r) h) ∧
  (∀ (l1 l2 l3 : Option Value) (x : Nat) (S : List Value) (h : zH), zD 165 223 [some (.ref x), l1, l2, l3] S h = zD 165 224 [some (.ref x), l1, l2, l3] (.ref x :: S) h) ∧
  (∀ (l0 l1 l2 : Option Value) (x : Int32) (S : List Value) (h : zH), zD 165 224 [l0, l1, l2, some (.int x)] S h = zD 165 225 [l0, l1, l2, some (.int x)] (.int x :: S) h) ∧
  (∀ (l0 l1 l2 l3 : Option Value) (S : List Value) (h : zH), zD 165 225 [l0, l1, l2, l3] S h = zD 165 226 [l0, l1, l2, l3] (.int (3 : Int32) :: S) h) ∧
  (∀ (l0 l1 l2 l3 : Option Value) (x y : Int32) (r : List Value) (h : zH), zD 165 226 [l0, l1, l2, l3] (.int y :: .int x :: r) h = zD 165 227 [l0, l1, l2, l3] (.int (x + y) :: r) h) ∧
  (∀ (l0 l1 l2 l3 : Option Value) (i : Int32) (a : Nat) (r : List Value) (h : zH) (hx : ziok a (h.2.2 a) i = true), zD 165 227 [l0, l1, l2, l3] (.int i :: .ref a :: r) h = zD 165 228 [l0, l1, l2, l3] (.int (ziv (h.2.2 a) i) :: r) h) ∧
  (∀ (l0 l1 l2 l3 : Option Value) (p0 : Int32) (p1 : Int32) (p2 : Int32) (a : Nat) (r : List Value) (h : zH) (hcat : zcat r ≤ 8) (hr : zis (h.2.2 a) 8 = true) (hC : (zC 105 (.ref a :: [.int p0, .int p1, .int p2]) h).isSome = true), zD 165 228 [l0, l1, l2, l3] (.int p2 :: .int p1 :: .int p0 :: .ref a :: r) h = zD 165 231 [l0, l1, l2, l3] (zgv (zC 105 (.ref a :: [.int p0, .int p1, .int p2]) h) ++ r) (zgh h (zC 105 (.ref a :: [.int p0, .int p1, .int p2]) h))) ∧
  (∀ (l0 l1 l3 : Option Value) (x : Nat) (S : List Value) (h : zH), zD 165 231 [l0, l1, some (.ref x), l3] S h = zD 165 232 [l0, l1, some (.ref x), l3] (.ref x :: S) h) ∧
  (∀ (l0 l1 l3 : Option Value) (S : List Value) (h : zH), zD 165 231 [l0, l1, some .null, l3] S h = zD 165 232 [l0, l1, some .null, l3] (.null :: S) h) ∧
  (∀ (l1 l2 l3 : Option Value) (x : Nat) (S : List Value) (h : zH), zD 165 232 [some (.ref x), l1, l2, l3] S h = zD 165 233 [some (.ref x), l1, l2, l3] (.ref x :: S) h) ∧
  (∀ (l0 l1 l2 : Option Value) (x : Int32) (S : List Value) (h : zH), zD 165 233 [l0, l1, l2, some (.int x)] S h = zD 165 234 [l0, l1, l2, some (.int x)] (.int x :: S) h) ∧
  (∀ (l0 l1 l2 l3 : Option Value) (S : List Value) (h : zH), zD 165 234 [l0, l1, l2, l3] S h = zD 165 235 [l0, l1, l2, l3] (.int (1 : Int32) :: S) h) ∧
  (∀ (l0 l1 l2 l3 : Option Value) (x y : Int32) (r : List Value) (h : zH), zD 165 235 [l0, l1, l2, l3] (.int y :: .int x :: r) h = zD 165 236 [l0, l1, l2, l3] (.int (x + y) :: r) h) ∧
  (∀ (l0 l1 l2 l3 : Option Value) (i : Int32) (a : Nat) (r : List Value) (h : zH) (hx : ziok a (h.2.2 a) i = true), zD 165 236 [l0, l1, l2, l3] (.int i :: .ref a :: r) h = zD 165 237 [l0, l1, l2, l3] (.int (ziv (h.2.2 a) i) :: r) h) ∧
  (∀ (l1 l2 l3 : Option Value) (x : Nat) (S : List Value) (h : zH), zD 165 237 [some (.ref x), l1, l2, l3] S h = zD 165 238 [some (.ref x), l1, l2, l3] (.ref x :: S) h) ∧
  (∀ (l0 l1 l2 : Option Value) (x : Int32) (S : List Value) (h : zH), zD 165 238 [l0, l1, l2, some (.int x)] S h = zD 165 239 [l0, l1, l2, some (.int x)] (.int x :: S) h) ∧
  (∀ (l0 l1 l2 l3 : Option Value) (S : List Value) (h : zH), zD 165 239 [l0, l1, l2, l3] S h = zD 165 240 [l0, l1, l2, l3] (.int (2 : Int32) :: S) h) ∧
  (∀ (l0 l1 l2 l3 : Option Value) (x y : Int32) (r : List Value) (h : zH), zD 165 240 [l0, l1, l2, l3] (.int y :: .int x :: r) h = zD 165 241 [l0, l1, l2, l3] (.int (x + y) :: r) h) ∧
  (∀ (l0 l1 l2 l3 : Option Value) (i : Int32) (a : Nat) (r : List Value) (h : zH) (hx : ziok a (h.2.2 a) i = true), zD 165 241 [l0, l1, l2, l3] (.int i :: .ref a :: r) h = zD 165 242 [l0, l1, l2, l3] (.int (ziv (h.2.2 a) i) :: r) h) ∧
  (∀ (l1 l2 l3 : Option Value) (x : Nat) (S : List Value) (h : zH), zD 165 242 [some (.ref x), l1, l2, l3] S h = zD 165 243 [some (.ref x), l1, l2, l3] (.ref x :: S) h) ∧
  (∀ (l0 l1 l2 : Option Value) (x : Int32) (S : List Value) (h : zH), zD 165 243 [l0, l1, l2, some (.int x)] S h = zD 165 244 [l0, l1, l2, some (.int x)] (.int x :: S) h) ∧
  (∀ (l0 l1 l2 l3 : Option Value) (S : List Value) (h : zH), zD 165 244 [l0, l1, l2, l3] S h = zD 165 245 [l0, l1, l2, l3] (.int (3 : Int32) :: S) h) ∧
  (∀ (l0 l1 l2 l3 : Option Value) (x y : Int32) (r : List Value) (h : zH), zD 165 245 [l0, l1, l2, l3] (.int y :: .int x :: r) h = zD 165 246 [l0, l1, l2, l3] (.int (x + y) :: r) h) ∧
  (∀ (l0 l1 l2 l3 : Option Value) (i : Int32) (a : Nat) (r : List Value) (h : zH) (hx : ziok a (h.2.2 a) i = true), zD 165 246 [l0, l1, l2, l3] (.int i :: .ref a :: r) h = zD 165 247 [l0, l1, l2, l3] (.int (ziv (h.2.2 a) i) :: r) h) ∧
  (∀ (l0 l1 l2 l3 : Option Value) (p0 : Int32) (p1 : Int32) (p2 : Int32) (a : Nat) (r : List Value) (h : zH) (hcat : zcat r ≤ 8) (hr : zis (h.2.2 a) 9 = true) (hC : (zC 139 (.ref a :: [.int p0, .int p1, .int p2]) h).isSome = true), zD 165 247 [l0, l1, l2, l3] (.int p2 :: .int p1 :: .int p0 :: .ref a :: r) h = zD 165 250 [l0, l1, l2, l3] (zgv (zC 139 (.ref a :: [.int p0, .int p1, .int p2]) h) ++ r) (zgh h (zC 139 (.ref a :: [.int p0, .int p1, .int p2]) h))) ∧
  (∀ (l0 l1 l2 l3 : Option Value) (x y : Int32) (r : List Value) (h : zH), zD 165 250 [l0, l1, l2, l3] (.int y :: .int x :: r) h = if x = y then zD 165 905 [l0, l1, l2, l3] r h else zD 165 253 [l0, l1, l2, l3] r h) ∧
  (∀ (l0 l1 l2 l3 : Option Value) (S : List Value) (h : zH), zD 165 253 [l0, l1, l2, l3] S h = zD 165 254 [l0, l1, l2, l3] (.int (0 : Int32) :: S) h) ∧
  (∀ (l0 l1 l2 l3 : Option Value) (v : Int32) (h : zH) (hv : zbv v), zD 165 254 [l0, l1, l2, l3] [.int v] h = some (some (.int v), h)) ∧
  (∀ (l0 l2 l3 : Option Value) (x : Nat) (S : List Value) (h : zH), zD 165 255 [l0, some (.ref x), l2, l3] S h = zD 165 256 [l0, some (.ref x), l2, l3] (.ref x :: S) h) ∧
  (∀ (l0 l2 l3 : Option Value) (S : List Value) (h : zH), zD 165 255 [l0, some .null, l2, l3] S h = zD 165 256 [l0, some .null, l2, l3] (.null :: S) h) ∧
  (∀ (l1 l2 l3 : Option Value) (x : Nat) (S : List Value) (h : zH), zD 165 256 [some (.ref x), l1, l2, l3] S h = zD 165 257 [some (.ref x), l1, l2, l3] (.ref x :: S) h) ∧
  (∀ (l0 l1 l2 : Option Value) (x : Int32) (S : List Value) (h : zH), zD 165 257 [l0, l1, l2, some (.int x)] S h = zD 165 258 [l0, l1, l2, some (.int x)] (.int x :: S) h) ∧
  (∀ (l0 l1 l2 l3 : Option Value) (S : List Value) (h : zH), zD 165 258 [l0, l1, l2, l3] S h = zD 165 259 [l0, l1, l2, l3] (.int (1 : Int32) :: S) h) ∧
  (∀ (l0 l1 l2 l3 : Option Value) (x y : Int32) (r : List Value) (h : zH), zD 165 259 [l0, l1, l2, l3] (.int y :: .int x :: r) h = zD 165 260 [l0, l1, l2, l3] (.int (x + y) :: r) h) ∧
  (∀ (l0 l1 l2 l3 : Option Value) (i : Int32) (a : Nat) (r : List Value) (h : zH) (hx : ziok a (h.2.2 a) i = true), zD 165 260 [l0, l1, l2, l3] (.int i :: .ref a :: r) h = zD 165 261 [l0, l1, l2, l3] (.int (ziv (h.2.2 a) i) :: r) h) ∧
  (∀ (l1 l2 l3 : Option Value) (x : Nat) (S : List Value) (h : zH), zD 165 261 [some (.ref x), l1, l2, l3] S h = zD 165 262 [some (.ref x), l1, l2, l3] (.ref x :: S) h) ∧
  (∀ (l0 l1 l2 : Option Value) (x : Int32) (S : List Value) (h : zH), zD 165 262 [l0, l1, l2, some (.int x)] S h = zD 165 263 [l0, l1, l2, some (.int x)] (.int x :: S) h) ∧
  (∀ (l0 l1 l2 l3 : Option Value) (S : List Value) (h : zH), zD 165 263 [l0, l1, l2, l3] S h = zD 165 264 [l0, l1, l2, l3] (.int (2 : Int32) :: S) h) ∧
  (∀ (l0 l1 l2 l3 : Option Value) (x y : Int32) (r : List Value) (h : zH), zD 165 264 [l0, l1, l2, l3] (.int y :: .int x :: r) h = zD 165 265 [l0, l1, l2, l3] (.int (x + y) :: r) h) ∧
  (∀ (l0 l1 l2 l3 : Option Value) (i : Int32) (a : Nat) (r : List Value) (h : zH) (hx : ziok a (h.2.2 a) i = true), zD 165 265 [l0, l1, l2, l3] (.int i :: .ref a :: r) h = zD 165 266 [l0, l1, l2, l3] (.int (ziv (h.2.2 a) i) :: r) h) ∧
  (∀ (l1 l2 l3 : Option Value) (x : Nat) (S : List Value) (h : zH), zD 165 266 [some (.ref x), l1, l2, l3] S h = zD 165 267 [some (.ref x), l1, l2, l3] (.ref x :: S) h) ∧
  (∀ (l0 l1 l2 : Option Value) (x : Int32) (S : List Value) (h : zH), zD 165 267 [l0, l1, l2, some (.int x)] S h = zD 165 268 [l0, l1, l2, some (.int x)] (.int x :: S) h) ∧
  (∀ (l0 l1 l2 l3 : Option Value) (S : List Value) (h : zH), zD 165 268 [l0, l1, l2, l3] S h = zD 165 269 [l0, l1, l2, l3] (.int (3 : Int32) :: S) h) ∧
  (∀ (l0 l1 l2 l3 : Option Value) (x y : Int32) (r : List Value) (h : zH), zD 165 269 [l0, l1, l2, l3] (.int y :: .int x :: r) h = zD 165 270 [l0, l1, l2, l3] (.int (x + y) :: r) h) ∧
  (∀ (l0 l1 l2 l3 : Option Value) (i : Int32) (a : Nat) (r : List Value) (h : zH) (hx : ziok a (h.2.2 a) i = true), zD 165 270 [l0, l1, l2, l3] (.int i :: .ref a :: r) h = zD 165 271 [l0, l1, l2, l3] (.int (ziv (h.2.2 a) i) :: r) h) ∧
  (∀ (l0 l1 l2 l3 : Option Value) (x : Int32) (r : List Value) (h : zH), zD 165 271 [l0, l1, l2, l3] (.int x :: r) h = if x = 0 then zD 165 278 [l0, l1, l2, l3] r h else zD 165 274 [l0, l1, l2, l3] r h) ∧
  (∀ (l0 l1 l2 l3 : Option Value) (S : List Value) (h : zH), zD 165 274 [l0, l1, l2, l3] S h = zD 165 275 [l0, l1, l2, l3] (.int (1 : Int32) :: S) h) ∧
  (∀ (l0 l1 l2 l3 : Option Value) (S : List Value) (h : zH), zD 165 275 [l0, l1, l2, l3] S h = zD 165 279 [l0, l1, l2, l3] S h) ∧
  (∀ (l0 l1 l2 l3 : Option Value) (S : List Value) (h : zH), zD 165 278 [l0, l1, l2, l3] S h = zD 165 279 [l0, l1, l2, l3] (.int (0 : Int32) :: S) h) ∧
  (∀ (l0 l1 l2 l3 : Option Value) (p0 : Int32) (p1 : Int32) (p2 : Int32) (a : Nat) (r : List Value) (h : zH) (hcat : zcat r ≤ 8) (hr : zis (h.2.2 a) 8 = true) (hC : (zC 106 (.ref a :: [.int p0, .int p1, .int p2]) h).isSome = true), zD 165 279 [l0, l1, l2, l3] (.int p2 :: .int p1 :: .int p0 :: .ref a :: r) h = zD 165 282 [l0, l1, l2, l3] (zgv (zC 106 (.ref a :: [.int p0, .int p1, .int p2]) h) ++ r) (zgh h (zC 106 (.ref a :: [.int p0, .int p1, .int p2]) h))) ∧
  (∀ (l0 l1 l3 : Option Value) (x : Nat) (S : List Value) (h : zH), zD 165 282 [l0, l1, some (.ref x), l3] S h = zD 165 283 [l0, l1, some (.ref x), l3] (.ref x :: S) h) ∧
  (∀ (l0 l1 l3 : Option Value) (S : List Value) (h : zH), zD 165 282 [l0, l1, some .null, l3] S h = zD 165 283 [l0, l1, some .null, l3] (.null :: S) h) ∧
  (∀ (l1 l2 l3 : Option Value) (x : Nat) (S : List Value) (h : zH), zD 165 283 [some (.ref x), l1, l2, l3] S h = zD 165 284 [some (.ref x), l1, l2, l3] (.ref x :: S) h) ∧
  (∀ (l0 l1 l2 : Option Value) (x : Int32) (S : List Value) (h : zH), zD 165 284 [l0, l1, l2, some (.int x)] S h = zD 165 285 [l0, l1, l2, some (.int x)] (.int x :: S) h) ∧
  (∀ (l0 l1 l2 l3 : Option Value) (S : List Value) (h : zH), zD 165 285 [l0, l1, l2, l3] S h = zD 165 286 [l0, l1, l2, l3] (.int (1 : Int32) :: S) h) ∧
  (∀ (l0 l1 l2 l3 : Option Value) (x y : Int32) (r : List Value) (h : zH), zD 165 286 [l0, l1, l2, l3] (.int y :: .int x :: r) h = zD 165 287 [l0, l1, l2, l3] (.int (x + y) :: r) h) ∧
  (∀ (l0 l1 l2 l3 : Option Value) (i : Int32) (a : Nat) (r : List Value) (h : zH) (hx : ziok a (h.2.2 a) i = true), zD 165 287 [l0, l1, l2, l3] (.int i :: .ref a :: r) h = zD 165 288 [l0, l1, l2, l3] (.int (ziv (h.2.2 a) i) :: r) h) ∧
  (∀ (l1 l2 l3 : Option Value) (x : Nat) (S : List Value) (h : zH), zD 165 288 [some (.ref x), l1, l2, l3] S h = zD 165 289 [some (.ref x), l1, l2, l3] (.ref x :: S) h) ∧
  (∀ (l0 l1 l2 : Option Value) (x : Int32) (S : List Value) (h : zH), zD 165 289 [l0, l1, l2, some (.int x)] S h = zD 165 290 [l0, l1, l2, some (.int x)] (.int x :: S) h) ∧
  (∀ (l0 l1 l2 l3 : Option Value) (S : List Value) (h : zH), zD 165 290 [l0, l1, l2, l3] S h = zD 165 291 [l0, l1, l2, l3] (.int (2 : Int32) :: S) h) ∧
  (∀ (l0 l1 l2 l3 : Option Value) (x y : Int32) (r : List Value) (h : zH), zD 165 291 [l0, l1, l2, l3] (.int y :: .int x :: r) h = zD 165 292 [l0, l1, l2, l3] (.int (x + y) :: r) h) ∧
  (∀ (l0 l1 l2 l3 : Option Value) (i : Int32) (a : Nat) (r : List Value) (h : zH) (hx : ziok a (h.2.2 a) i = true), zD 165 292 [l0, l1, l2, l3] (.int i :: .ref a :: r) h = zD 165 293 [l0, l1, l2, l3] (.int (ziv (h.2.2 a) i) :: r) h) ∧
  (∀ (l1 l2 l3 : Option Value) (x : Nat) (S : List Value) (h : zH), zD 165 293 [some (.ref x), l1, l2, l3] S h = zD 165 294 [some (.ref x), l1, l2, l3] (.ref x :: S) h) ∧
  (∀ (l0 l1 l2 : Option Value) (x : Int32) (S : List Value) (h : zH), zD 165 294 [l0, l1, l2, some (.int x)] S h = zD 165 295 [l0, l1, l2, some (.int x)] (.int x :: S) h) ∧
  (∀ (l0 l1 l2 l3 : Option Value) (S : List Value) (h : zH), zD 165 295 [l0, l1, l2, l3] S h = zD 165 296 [l0, l1, l2, l3] (.int (3 : Int32) :: S) h) ∧
  (∀ (l0 l1 l2 l3 : Option Value) (x y : Int32) (r : List Value) (h : zH), zD 165 296 [l0, l1, l2, l3] (.int y :: .int x :: r) h = zD 165 297 [l0, l1, l2, l3] (.int (x + y) :: r) h) ∧
  (∀ (l0 l1 l2 l3 : Option Value) (i : Int32) (a : Nat) (r : List Value) (h : zH) (hx : ziok a (h.2.2 a) i = true), zD 165 297 [l0, l1, l2, l3] (.int i :: .ref a :: r) h = zD 165 298 [l0, l1, l2, l3] (.int (ziv (h.2.2 a) i) :: r) h) ∧
  (∀ (l0 l1 l2 l3 : Option Value) (x : Int32) (r : List Value) (h : zH), zD 165 298 [l0, l1, l2, l3] (.int x :: r) h = if x = 0 then zD 165 305 [l0, l1, l2, l3] r h else zD 165 301 [l0, l1, l2, l3] r h) ∧
  (∀ (l0 l1 l2 l3 : Option Value) (S : List Value) (h : zH), zD 165 301 [l0, l1, l2, l3] S h = zD 165 302 [l0, l1, l2, l3] (.int (1 : Int32) :: S) h) ∧
  (∀ (l0 l1 l2 l3 : Option Value) (S : List Value) (h : zH), zD 165 302 [l0, l1, l2, l3] S h = zD 165 306 [l0, l1, l2, l3] S h) ∧
  (∀ (l0 l1 l2 l3 : Option Value) (S : List Value) (h : zH), zD 165 305 [l0, l1, l2, l3] S h = zD 165 306 [l0, l1, l2, l3] (.int (0 : Int32) :: S) h) ∧
  (∀ (l0 l1 l2 l3 : Option Value) (p0 : Int32) (p1 : Int32) (p2 : Int32) (a : Nat) (r : List Value) (h : zH) (hcat : zcat r ≤ 8) (hr : zis (h.2.2 a) 9 = true) (hC : (zC 140 (.ref a :: [.int p0, .int p1, .int p2]) h).isSome = true), zD 165 306 [l0, l1, l2, l3] (.int p2 :: .int p1 :: .int p0 :: .ref a :: r) h = zD 165 309 [l0, l1, l2, l3] (zgv (zC 140 (.ref a :: [.int p0, .int p1, .int p2]) h) ++ r) (zgh h (zC 140 (.ref a :: [.int p0, .int p1, .int p2]) h))) ∧
  (∀ (l0 l1 l2 l3 : Option Value) (x y : Int32) (r : List Value) (h : zH), zD 165 309 [l0, l1, l2, l3] (.int y :: .int x :: r) h = if x = y then zD 165 905 [l0, l1, l2, l3] r h else zD 165 312 [l0, l1, l2, l3] r h) ∧
  (∀ (l0 l1 l2 l3 : Option Value) (S : List Value) (h : zH), zD 165 312 [l0, l1, l2, l3] S h = zD 165 313 [l0, l1, l2, l3] (.int (0 : Int32) :: S) h) ∧
  (∀ (l0 l1 l2 l3 : Option Value) (v : Int32) (h : zH) (hv : zbv v), zD 165 313 [l0, l1, l2, l3] [.int v] h = some (some (.int v), h)) ∧
  (∀ (l0 l2 l3 : Option Value) (x : Nat) (S : List Value) (h : zH), zD 165 314 [l0, some (.ref x), l2, l3] S h = zD 165 315 [l0, some (.ref x), l2, l3] (.ref x :: S) h) ∧
  (∀ (l0 l2 l3 : Option Value) (S : List Value) (h : zH), zD 165 314 [l0, some .null, l2, l3] S h = zD 165 315 [l0, some .null, l2, l3] (.null :: S) h) ∧
  (∀ (l1 l2 l3 : Option Value) (x : Nat) (S : List Value) (h : zH), zD 165 315 [some (.ref x), l1, l2, l3] S h = zD 165 316 [some (.ref x), l1, l2, l3] (.ref x :: S) h) ∧
  (∀ (l0 l1 l2 : Option Value) (x : Int32) (S : List Value) (h : zH), zD 165 316 [l0, l1, l2, some (.int x)] S h = zD 165 317 [l0, l1, l2, some (.int x)] (.int x :: S) h) ∧
  (∀ (l0 l1 l2 l3 : Option Value) (S : List Value) (h : zH), zD 165 317 [l0, l1, l2, l3] S h = zD 165 318 [l0, l1, l2, l3] (.int (1 : Int32) :: S) h) ∧
  (∀ (l0 l1 l2 l3 : Option Value) (x y : Int32) (r : List Value) (h : zH), zD 165 318 [l0, l1, l2, l3] (.int y :: .int x :: r) h = zD 165 319 [l0, l1, l2, l3] (.int (x + y) :: r) h) ∧
  (∀ (l0 l1 l2 l3 : Option Value) (i : Int32) (a : Nat) (r : List Value) (h : zH) (hx : ziok a (h.2.2 a) i = true), zD 165 319 [l0, l1, l2, l3] (.int i :: .ref a :: r) h = zD 165 320 [l0, l1, l2, l3] (.int (ziv (h.2.2 a) i) :: r) h) ∧
  (∀ (l1 l2 l3 : Option Value) (x : Nat) (S : List Value) (h : zH), zD 165 320 [some (.ref x), l1, l2, l3] S h = zD 165 321 [some (.ref x), l1, l2, l3] (.ref x :: S) h) ∧
  (∀ (l0 l1 l2 : Option Value) (x : Int32) (S : List Value) (h : zH), zD 165 321 [l0, l1, l2, some (.int x)] S h = zD 165 322 [l0, l1, l2, some (.int x)] (.int x :: S) h) ∧
  (∀ (l0 l1 l2 l3 : Option Value) (S : List Value) (h : zH), zD 165 322 [l0, l1, l2, l3] S h = zD 165 323 [l0, l1, l2, l3] (.int (2 : Int32) :: S) h) ∧
  (∀ (l0 l1 l2 l3 : Option Value) (x y : Int32) (r : List Value) (h : zH), zD 165 323 [l0, l1, l2, l3] (.int y :: .int x :: r) h = zD 165 324 [l0, l1, l2, l3] (.int (x + y) :: r) h) ∧
  (∀ (l0 l1 l2 l3 : Option Value) (i : Int32) (a : Nat) (r : List Value) (h : zH) (hx : ziok a (h.2.2 a) i = true), zD 165 324 [l0, l1, l2, l3] (.int i :: .ref a :: r) h = zD 165 325 [l0, l1, l2, l3] (.int (ziv (h.2.2 a) i) :: r) h) ∧
  (∀ (l0 l1 l2 l3 : Option Value) (p0 : Int32) (p1 : Int32) (a : Nat) (r : List Value) (h : zH) (hcat : zcat r ≤ 8) (hr : zis (h.2.2 a) 8 = true) (hC : (zC 107 (.ref a :: [.int p0, .int p1]) h).isSome = true), zD 165 325 [l0, l1, l2, l3] (.int p1 :: .int p0 :: .ref a :: r) h = zD 165 328 [l0, l1, l2, l3] (zgv (zC 107 (.ref a :: [.int p0, .int p1]) h) ++ r) (zgh h (zC 107 (.ref a :: [.int p0, .int p1]) h))) ∧
  (∀ (l0 l1 l3 : Option Value) (x : Nat) (S : List Value) (h : zH), zD 165 328 [l0, l1, some (.ref x), l3] S h = zD 165 329 [l0, l1, some (.ref x), l3] (.ref x :: S) h) ∧
  (∀ (l0 l1 l3 : Option Value) (S : List Value) (h : zH), zD 165 328 [l0, l1, some .null, l3] S h = zD 165 329 [l0, l1, some .null, l3] (.null :: S) h) ∧
  (∀ (l1 l2 l3 : Option Value) (x : Nat) (S : List Value) (h : zH), zD 165 329 [some (.ref x), l1, l2, l3] S h = zD 165 330 [some (.ref x), l1, l2, l3] (.ref x :: S) h) ∧
  (∀ (l0 l1 l2 : Option Value) (x : Int32) (S : List Value) (h : zH), zD 165 330 [l0, l1, l2, some (.int x)] S h = zD 165 331 [l0, l1, l2, some (.int x)] (.int x :: S) h) ∧
  (∀ (l0 l1 l2 l3 : Option Value) (S : List Value) (h : zH), zD 165 331 [l0, l1, l2, l3] S h = zD 165 332 [l0, l1, l2, l3] (.int (1 : Int32) :: S) h) ∧
  (∀ (l0 l1 l2 l3 : Option Value) (x y : Int32) (r : List Value) (h : zH), zD 165 332 [l0, l1, l2, l3] (.int y :: .int x :: r) h = zD 165 333 [l0, l1, l2, l3] (.int (x + y) :: r) h) ∧
  (∀ (l0 l1 l2 l3 : Option Value) (i : Int32) (a : Nat) (r : List Value) (h : zH) (hx : ziok a (h.2.2 a) i = true), zD 165 333 [l0, l1, l2, l3] (.int i :: .ref a :: r) h = zD 165 334 [l0, l1, l2, l3] (.int (ziv (h.2.2 a) i) :: r) h) ∧
  (∀ (l1 l2 l3 : Option Value) (x : Nat) (S : List Value) (h : zH), zD 165 334 [some (.ref x), l1, l2, l3] S h = zD 165 335 [some (.ref x), l1, l2, l3] (.ref x :: S) h) ∧
  (∀ (l0 l1 l2 : Option Value) (x : Int32) (S : List Value) (h : zH), zD 165 335 [l0, l1, l2, some (.int x)] S h = zD 165 336 [l0, l1, l2, some (.int x)] (.int x :: S) h) ∧
  (∀ (l0 l1 l2 l3 : Option Value) (S : List Value) (h : zH), zD 165 336 [l0, l1, l2, l3] S h = zD 165 337 [l0, l1, l2, l3] (.int (2 : Int32) :: S) h) ∧
  (∀ (l0 l1 l2 l3 : Option Value) (x y : Int32) (r : List Value) (h : zH), zD 165 337 [l0, l1, l2, l3] (.int y :: .int x :: r) h = zD 165 338 [l0, l1, l2, l3] (.int (x + y) :: r) h) ∧
  (∀ (l0 l1 l2 l3 : Option Value) (i : Int32) (a : Nat) (r : List Value) (h : zH) (hx : ziok a (h.2.2 a) i = true), zD 165 338 [l0, l1, l2, l3] (.int i :: .ref a :: r) h = zD 165 339 [l0, l1, l2, l3] (.int (ziv (h.2.2 a) i) :: r) h) ∧
  (∀ (l0 l1 l2 l3 : Option Value) (p0 : Int32) (p1 : Int32) (a : Nat) (r : List Value) (h : zH) (hcat : zcat r ≤ 8) (hr : zis (h.2.2 a) 9 = true) (hC : (zC 141 (.ref a :: [.int p0, .int p1]) h).isSome = true), zD 165 339 [l0, l1, l2, l3] (.int p1 :: .int p0 :: .ref a :: r) h = zD 165 342 [l0, l1, l2, l3] (zgv (zC 141 (.ref a :: [.int p0, .int p1]) h) ++ r) (zgh h (zC 141 (.ref a :: [.int p0, .int p1]) h))) ∧
  (∀ (l0 l1 l2 l3 : Option Value) (x y : Int32) (r : List Value) (h : zH), zD 165 342 [l0, l1, l2, l3] (.int y :: .int x :: r) h = if x = y then zD 165 905 [l0, l1, l2, l3] r h else zD 165 345 [l0, l1, l2, l3] r h) ∧
  (∀ (l0 l1 l2 l3 : Option Value) (S : List Value) (h : zH), zD 165 345 [l0, l1, l2, l3] S h = zD 165 346 [l0, l1, l2, l3] (.int (0 : Int32) :: S) h) ∧
  (∀ (l0 l1 l2 l3 : Option Value) (v : Int32) (h : zH) (hv : zbv v), zD 165 346 [l0, l1, l2, l3] [.int v] h = some (some (.int v), h)) ∧
  (∀ (l0 l2 l3 : Option Value) (x : Nat) (S : List Value) (h : zH), zD 165 347 [l0, some (.ref x), l2, l3] S h = zD 165 348 [l0, some (.ref x), l2, l3] (.ref x :: S) h) ∧
  (∀ (l0 l2 l3 : Option Value) (S : List Value) (h : zH), zD 165 347 [l0, some .null, l2, l3] S h = zD 165 348 [l0, some .null, l2, l3] (.null :: S) h) ∧
  (∀ (l1 l2 l3 : Option Value) (x : Nat) (S : List Value) (h : zH), zD 165 348 [some (.ref x), l1, l2, l3] S h = zD 165 349 [some (.ref x), l1, l2, l3] (.ref x :: S) h) ∧
  (∀ (l0 l1 l2 : Option Value) (x : Int32) (S : List Value) (h : zH), zD 165 349 [l0, l1, l2, some (.int x)] S h = zD 165 350 [l0, l1, l2, some (.int x)] (.int x :: S) h) ∧
  (∀ (l0 l1 l2 l3 : Option Value) (S : List Value) (h : zH), zD 165 350 [l0, l1, l2, l3] S h = zD 165 351 [l0, l1, l2, l3] (.int (1 : Int32) :: S) h) ∧
  (∀ (l0 l1 l2 l3 : Option Value) (x y : Int32) (r : List Value) (h : zH), zD 165 351 [l0, l1, l2, l3] (.int y :: .int x :: r) h = zD 165 352 [l0, l1, l2, l3] (.int (x + y) :: r) h) ∧
  (∀ (l0 l1 l2 l3 : Option Value) (i : Int32) (a : Nat) (r : List Value) (h : zH) (hx : ziok a (h.2.2 a) i = true), zD 165 352 [l0, l1, l2, l3] (.int i :: .ref a :: r) h = zD 165 353 [l0, l1, l2, l3] (.int (ziv (h.2.2 a) i) :: r) h) ∧
  (∀ (l1 l2 l3 : Option Value) (x : Nat) (S : List Value) (h : zH), zD 165 353 [some (.ref x), l1, l2, l3] S h = zD 165 354 [some (.ref x), l1, l2, l3] (.ref x :: S) h) ∧
  (∀ (l0 l1 l2 : Option Value) (x : Int32) (S : List Value) (h : zH), zD 165 354 [l0, l1, l2, some (.int x)] S h = zD 165 355 [l0, l1, l2, some (.int x)] (.int x :: S) h) ∧
  (∀ (l0 l1 l2 l3 : Option Value) (S : List Value) (h : zH), zD 165 355 [l0, l1, l2, l3] S h = zD 165 356 [l0, l1, l2, l3] (.int (2 : Int32) :: S) h) ∧
  (∀ (l0 l1 l2 l3 : Option Value) (x y : Int32) (r : List Value) (h : zH), zD 165 356 [l0, l1, l2, l3] (.int y :: .int x :: r) h = zD 165 357 [l0, l1, l2, l3] (.int (x + y) :: r) h) ∧
  (∀ (l0 l1 l2 l3 : Option Value) (i : Int32) (a : Nat) (r : List Value) (h : zH) (hx : ziok a (h.2.2 a) i = true), zD 165 357 [l0, l1, l2, l3] (.int i :: .ref a :: r) h = zD 165 358 [l0, l1, l2, l3] (.int (ziv (h.2.2 a) i) :: r) h) ∧
  (∀ (l0 l1 l2 l3 : Option Value) (p0 : Int32) (p1 : Int32) (a : Nat) (r : List Value) (h : zH) (hcat : zcat r ≤ 8) (hr : zis (h.2.2 a) 8 = true) (hC : (zC 108 (.ref a :: [.int p0, .int p1]) h).isSome = true), zD 165 358 [l0, l1, l2, l3] (.int p1 :: .int p0 :: .ref a :: r) h = zD 165 361 [l0, l1, l2, l3] (zgv (zC 108 (.ref a :: [.int p0, .int p1]) h) ++ r) (zgh h (zC 108 (.ref a :: [.int p0, .int p1]) h))) ∧
  (∀ (l0 l1 l3 : Option Value) (x : Nat) (S : List Value) (h : zH), zD 165 361 [l0, l1, some (.ref x), l3] S h = zD 165 362 [l0, l1, some (.ref x), l3] (.ref x :: S) h) ∧
  (∀ (l0 l1 l3 : Option Value) (S : List Value) (h : zH), zD 165 361 [l0, l1, some .null, l3] S h = zD 165 362 [l0, l1, some .null, l3] (.null :: S) h) ∧
  (∀ (l1 l2 l3 : Option Value) (x : Nat) (S : List Value) (h : zH), zD 165 362 [some (.ref x), l1, l2, l3] S h = zD 165 363 [some (.ref x), l1, l2, l3] (.ref x :: S) h) ∧
  (∀ (l0 l1 l2 : Option Value) (x : Int32) (S : List Value) (h : zH), zD 165 363 [l0, l1, l2, some (.int x)] S h = zD 165 364 [l0, l1, l2, some (.int x)] (.int x :: S) h) ∧
  (∀ (l0 l1 l2 l3 : Option Value) (S : List Value) (h : zH), zD 165 364 [l0, l1, l2, l3] S h = zD 165 365 [l0, l1, l2, l3] (.int (1 : Int32) :: S) h) ∧
  (∀ (l0 l1 l2 l3 : Option Value) (x y : Int32) (r : List Value) (h : zH), zD 165 365 [l0, l1, l2, l3] (.int y :: .int x :: r) h = zD 165 366 [l0, l1, l2, l3] (.int (x + y) :: r) h) ∧
  (∀ (l0 l1 l2 l3 : Option Value) (i : Int32) (a : Nat) (r : List Value) (h : zH) (hx : ziok a (h.2.2 a) i = true), zD 165 366 [l0, l1, l2, l3] (.int i :: .ref a :: r) h = zD 165 367 [l0, l1, l2, l3] (.int (ziv (h.2.2 a) i) :: r) h) ∧
  (∀ (l1 l2 l3 : Option Value) (x : Nat) (S : List Value) (h : zH), zD 165 367 [some (.ref x), l1, l2, l3] S h = zD 165 368 [some (.ref x), l1, l2, l3] (.ref x :: S) h) ∧
  (∀ (l0 l1 l2 : Option Value) (x : Int32) (S : List Value) (h : zH), zD 165 368 [l0, l1, l2, some (.int x)] S h = zD 165 369 [l0, l1, l2, some (.int x)] (.int x :: S) h) ∧
  (∀ (l0 l1 l2 l3 : Option Value) (S : List Value) (h : zH), zD 165 369 [l0, l1, l2, l3] S h = zD 165 370 [l0, l1, l2, l3] (.int (2 : Int32) :: S) h) ∧
  (∀ (l0 l1 l2 l3 : Option Value) (x y : Int32) (r : List Value) (h : zH), zD 165 370 [l0, l1, l2, l3] (.int y :: .int x :: r) h = zD 165 371 [l0, l1, l2, l3] (.int (x + y) :: r) h) ∧
  (∀ (l0 l1 l2 l3 : Option Value) (i : Int32) (a : Nat) (r : List Value) (h : zH) (hx : ziok a (h.2.2 a) i = true), zD 165 371 [l0, l1, l2, l3] (.int i :: .ref a :: r) h = zD 165 372 [l0, l1, l2, l3] (.int (ziv (h.2.2 a) i) :: r) h) ∧
  (∀ (l0 l1 l2 l3 : Option Value) (p0 : Int32) (p1 : Int32) (a : Nat) (r : List Value) (h : zH) (hcat : zcat r ≤ 8) (hr : zis (h.2.2 a) 9 = true) (hC : (zC 142 (.ref a :: [.int p0, .int p1]) h).isSome = true), zD 165 372 [l0, l1, l2, l3] (.int p1 :: .int p0 :: .ref a :: r) h = zD 165 375 [l0, l1, l2, l3] (zgv (zC 142 (.ref a :: [.int p0, .int p1]) h) ++ r) (zgh h (zC 142 (.ref a :: [.int p0, .int p1]) h))) ∧
  (∀ (l0 l1 l2 l3 : Option Value) (x y : Int32) (r : List Value) (h : zH), zD 165 375 [l0, l1, l2, l3] (.int y :: .int x :: r) h = if x = y then zD 165 905 [l0, l1, l2, l3] r h else zD 165 378 [l0, l1, l2, l3] r h) ∧
  (∀ (l0 l1 l2 l3 : Option Value) (S : List Value) (h : zH), zD 165 378 [l0, l1, l2, l3] S h = zD 165 379 [l0, l1, l2, l3] (.int (0 : Int32) :: S) h) ∧
  (∀ (l0 l1 l2 l3 : Option Value) (v : Int32) (h : zH) (hv : zbv v), zD 165 379 [l0, l1, l2, l3] [.int v] h = some (some (.int v), h)) ∧
  (∀ (l0 l2 l3 : Option Value) (x : Nat) (S : List Value) (h : zH), zD 165 380 [l0, some (.ref x), l2, l3] S h = zD 165 381 [l0, some (.ref x), l2, l3] (.ref x :: S) h) ∧
  (∀ (l0 l2 l3 : Option Value) (S : List Value) (h : zH), zD 165 380 [l0, some .null, l2, l3] S h = zD 165 381 [l0, some .null, l2, l3] (.null :: S) h) ∧
  (∀ (l1 l2 l3 : Option Value) (x : Nat) (S : List Value) (h : zH), zD 165 381 [some (.ref x), l1, l2, l3] S h = zD 165 382 [some (.ref x), l1, l2, l3] (.ref x :: S) h) ∧
  (∀ (l0 l1 l2 : Option Value) (x : Int32) (S : List Value) (h : zH), zD 165 382 [l0, l1, l2, some (.int x)] S h = zD 165 383 [l0, l1, l2, some (.int x)] (.int x :: S) h) ∧
  (∀ (l0 l1 l2 l3 : Option Value) (S : List Value) (h : zH), zD 165 383 [l0, l1, l2, l3] S h = zD 165 384 [l0, l1, l2, l3] (.int (1 : Int32) :: S) h) ∧
  (∀ (l0 l1 l2 l3 : Option Value) (x y : Int32) (r : List Value) (h : zH), zD 165 384 [l0, l1, l2, l3] (.int y :: .int x :: r) h = zD 165 385 [l0, l1, l2, l3] (.int (x + y) :: r) h) ∧
  (∀ (l0 l1 l2 l3 : Option Value) (i : Int32) (a : Nat) (r : List Value) (h : zH) (hx : ziok a (h.2.2 a) i = true), zD 165 385 [l0, l1, l2, l3] (.int i :: .ref a :: r) h = zD 165 386 [l0, l1, l2, l3] (.int (ziv (h.2.2 a) i) :: r) h) ∧
  (∀ (l0 l1 l2 l3 : Option Value) (p0 : Int32) (a : Nat) (r : List Value) (h : zH) (hcat : zcat r ≤ 8) (hr : zis (h.2.2 a) 8 = true) (hC : (zC 69 (.ref a :: [.int p0]) h).isSome = true), zD 165 386 [l0, l1, l2, l3] (.int p0 :: .ref a :: r) h = zD 165 389 [l0, l1, l2, l3] (zgv (zC 69 (.ref a :: [.int p0]) h) ++ r) (zgh h (zC 69 (.ref a :: [.int p0]) h))) ∧
  (∀ (l0 l1 l3 : Option Value) (x : Nat) (S : List Value) (h : zH), zD 165 389 [l0, l1, some (.ref x), l3] S h = zD 165 390 [l0, l1, some (.ref x), l3] (.ref x :: S) h) ∧
  (∀ (l0 l1 l3 : Option Value) (S : List Value) (h : zH), zD 165 389 [l0, l1, some .null, l3] S h = zD 165 390 [l0, l1, some .null, l3] (.null :: S) h) ∧
  (∀ (l1 l2 l3 : Option Value) (x : Nat) (S : List Value) (h : zH), zD 165 390 [some (.ref x), l1, l2, l3] S h = zD 165 391 [some (.ref x), l1, l2, l3] (.ref x :: S) h) ∧
  (∀ (l0 l1 l2 : Option Value) (x : Int32) (S : List Value) (h : zH), zD 165 391 [l0, l1, l2, some (.int x)] S h = zD 165 392 [l0, l1, l2, some (.int x)] (.int x :: S) h) ∧
  (∀ (l0 l1 l2 l3 : Option Value) (S : List Value) (h : zH), zD 165 392 [l0, l1, l2, l3] S h = zD 165 393 [l0, l1, l2, l3] (.int (1 : Int32) :: S) h) ∧
  (∀ (l0 l1 l2 l3 : Option Value) (x y : Int32) (r : List Value) (h : zH), zD 165 393 [l0, l1, l2, l3] (.int y :: .int x :: r) h = zD 165 394 [l0, l1, l2, l3] (.int (x + y) :: r) h) ∧
  (∀ (l0 l1 l2 l3 : Option Value) (i : Int32) (a : Nat) (r : List Value) (h : zH) (hx : ziok a (h.2.2 a) i = true), zD 165 394 [l0, l1, l2, l3] (.int i :: .ref a :: r) h = zD 165 395 [l0, l1, l2, l3] (.int (ziv (h.2.2 a) i) :: r) h) ∧
  (∀ (l0 l1 l2 l3 : Option Value) (p0 : Int32) (a : Nat) (r : List Value) (h : zH) (hcat : zcat r ≤ 8) (hr : zis (h.2.2 a) 9 = true) (hC : (zC 115 (.ref a :: [.int p0]) h).isSome = true), zD 165 395 [l0, l1, l2, l3] (.int p0 :: .ref a :: r) h = zD 165 398 [l0, l1, l2, l3] (zgv (zC 115 (.ref a :: [.int p0]) h) ++ r) (zgh h (zC 115 (.ref a :: [.int p0]) h))) ∧
  (∀ (l0 l1 l2 l3 : Option Value) (x y : Int32) (r : List Value) (h : zH), zD 165 398 [l0, l1, l2, l3] (.int y :: .int x :: r) h = if x = y then zD 165 905 [l0, l1, l2, l3] r h else zD 165 401 [l0, l1, l2, l3] r h) ∧
  (∀ (l0 l1 l2 l3 : Option Value) (S : List Value) (h : zH), zD 165 401 [l0, l1, l2, l3] S h = zD 165 402 [l0, l1, l2, l3] (.int (0 : Int32) :: S) h) ∧
  (∀ (l0 l1 l2 l3 : Option Value) (v : Int32) (h : zH) (hv : zbv v), zD 165 402 [l0, l1, l2, l3] [.int v] h = some (some (.int v), h)) ∧
  (∀ (l0 l2 l3 : Option Value) (x : Nat) (S : List Value) (h : zH), zD 165 403 [l0, some (.ref x), l2, l3] S h = zD 165 404 [l0, some (.ref x), l2, l3] (.ref x :: S) h) ∧
  (∀ (l0 l2 l3 : Option Value) (S : List Value) (h : zH), zD 165 403 [l0, some .null, l2, l3] S h = zD 165 404 [l0, some .null, l2, l3] (.null :: S) h) ∧
  (∀ (l0 l1 l2 l3 : Option Value) (a : Nat) (r : List Value) (h : zH) (hcat : zcat r ≤ 8) (hr : zis (h.2.2 a) 8 = true) (hC : (zC 135 [.ref a] h).isSome = true), zD 165 404 [l0, l1, l2, l3] (.ref a :: r) h = zD 165 407 [l0, l1, l2, l3] (zgv (zC 135 [.ref a] h) ++ r) (zgh h (zC 135 [.ref a] h))) ∧
  (∀ (l0 l1 l3 : Option Value) (x : Nat) (S : List Value) (h : zH), zD 165 407 [l0, l1, some (.ref x), l3] S h = zD 165 408 [l0, l1, some (.ref x), l3] (.ref x :: S) h) ∧
  (∀ (l0 l1 l3 : Option Value) (S : List Value) (h : zH), zD 165 407 [l0, l1, some .null, l3] S h = zD 165 408 [l0, l1, some .null, l3] (.null :: S) h) ∧
  (∀ (l0 l1 l2 l3 : Option Value) (a : Nat) (r : List Value) (h : zH) (hcat : zcat r ≤ 8) (hr : zis (h.2.2 a) 9 = true) (hC : (zC 116 [.ref a] h).isSome = true), zD 165 408 [l0, l1, l2, l3] (.ref a :: r) h = zD 165 411 [l0, l1, l2, l3] (zgv (zC 116 [.ref a] h) ++ r) (zgh h (zC 116 [.ref a] h))) ∧
  (∀ (l0 l1 l2 l3 : Option Value) (x y : Int32) (r : List Value) (h : zH), zD 165 411 [l0, l1, l2, l3] (.int y :: .int x :: r) h = if x = y then zD 165 905 [l0, l1, l2, l3] r h else zD 165 414 [l0, l1, l2, l3] r h) ∧
  (∀ (l0 l1 l2 l3 : Option Value) (S : List Value) (h : zH), zD 165 414 [l0, l1, l2, l3] S h = zD 165 415 [l0, l1, l2, l3] (.int (0 : Int32) :: S) h) ∧
  (∀ (l0 l1 l2 l3 : Option Value) (v : Int32) (h : zH) (hv : zbv v), zD 165 415 [l0, l1, l2, l3] [.int v] h = some (some (.int v), h)) ∧
  (∀ (l0 l2 l3 : Option Value) (x : Nat) (S : List Value) (h : zH), zD 165 416 [l0, some (.ref x), l2, l3] S h = zD 165 417 [l0, some (.ref x), l2, l3] (.ref x :: S) h) ∧
  (∀ (l0 l2 l3 : Option Value) (S : List Value) (h : zH), zD 165 416 [l0, some .null, l2, l3] S h = zD 165 417 [l0, some .null, l2, l3] (.null :: S) h) ∧
  (∀ (l0 l1 l2 l3 : Option Value) (a : Nat) (r : List Value) (h : zH) (hcat : zcat r ≤ 8) (hr : zis (h.2.2 a) 8 = true) (hC : (zC 154 [.ref a] h).isSome = true), zD 165 417 [l0, l1, l2, l3] (.ref a :: r) h = zD 165 420 [l0, l1, l2, l3] (zgv (zC 154 [.ref a] h) ++ r) (zgh h (zC 154 [.ref a] h))) ∧
  (∀ (l0 l1 l3 : Option Value) (x : Nat) (S : List Value) (h : zH), zD 165 420 [l0, l1, some (.ref x), l3] S h = zD 165 421 [l0, l1, some (.ref x), l3] (.ref x :: S) h) ∧
  (∀ (l0 l1 l3 : Option Value) (S : List Value) (h : zH), zD 165 420 [l0, l1, some .null, l3] S h = zD 165 421 [l0, l1, some .null, l3] (.null :: S) h) ∧
  (∀ (l0 l1 l2 l3 : Option Value) (a : Nat) (r : List Value) (h : zH) (hcat : zcat r ≤ 8) (hr : zis (h.2.2 a) 9 = true) (hC : (zC 31 [.ref a] h).isSome = true), zD 165 421 [l0, l1, l2, l3] (.ref a :: r) h = zD 165 424 [l0, l1, l2, l3] (zgv (zC 31 [.ref a] h) ++ r) (zgh h (zC 31 [.ref a] h))) ∧
  (∀ (l0 l1 l2 l3 : Option Value) (x y : Int32) (r : List Value) (h : zH), zD 165 424 [l0, l1, l2, l3] (.int y :: .int x :: r) h = if x = y then zD 165 905 [l0, l1, l2, l3] r h else zD 165 427 [l0, l1, l2, l3] r h) ∧
  (∀ (l0 l1 l2 l3 : Option Value) (S : List Value) (h : zH), zD 165 427 [l0, l1, l2, l3] S h = zD 165 428 [l0, l1, l2, l3] (.int (0 : Int32) :: S) h) ∧
  (∀ (l0 l1 l2 l3 : Option Value) (v : Int32) (h : zH) (hv : zbv v), zD 165 428 [l0, l1, l2, l3] [.int v] h = some (some (.int v), h)) ∧
  (∀ (l0 l2 l3 : Option Value) (x : Nat) (S : List Value) (h : zH), zD 165 429 [l0, some (.ref x), l2, l3] S h = zD 165 430 [l0, some (.ref x), l2, l3] (.ref x :: S) h) ∧
  (∀ (l0 l2 l3 : Option Value) (S : List Value) (h : zH), zD 165 429 [l0, some .null, l2, l3] S h = zD 165 430 [l0, some .null, l2, l3] (.null :: S) h) ∧
  (∀ (l1 l2 l3 : Option Value) (x : Nat) (S : List Value) (h : zH), zD 165 430 [some (.ref x), l1, l2, l3] S h = zD 165 431 [some (.ref x), l1, l2, l3] (.ref x :: S) h) ∧
  (∀ (l0 l1 l2 : Option Value) (x : Int32) (S : List Value) (h : zH), zD 165 431 [l0, l1, l2, some (.int x)] S h = zD 165 432 [l0, l1, l2, some (.int x)] (.int x :: S) h) ∧
  (∀ (l0 l1 l2 l3 : Option Value) (S : List Value) (h : zH), zD 165 432 [l0, l1, l2, l3] S h = zD 165 433 [l0, l1, l2, l3] (.int (1 : Int32) :: S) h) ∧
  (∀ (l0 l1 l2 l3 : Option Value) (x y : Int32) (r : List Value) (h : zH), zD 165 433 [l0, l1, l2, l3] (.int y :: .int x :: r) h = zD 165 434 [l0, l1, l2, l3] (.int (x + y) :: r) h) ∧
  (∀ (l0 l1 l2 l3 : Option Value) (i : Int32) (a : Nat) (r : List Value) (h : zH) (hx : ziok a (h.2.2 a) i = true), zD 165 434 [l0, l1, l2, l3] (.int i :: .ref a :: r) h = zD 165 435 [l0, l1, l2, l3] (.int (ziv (h.2.2 a) i) :: r) h) ∧
  (∀ (l1 l2 l3 : Option Value) (x : Nat) (S : List Value) (h : zH), zD 165 435 [some (.ref x), l1, l2, l3] S h = zD 165 436 [some (.ref x), l1, l2, l3] (.ref x :: S) h) ∧
  (∀ (l0 l1 l2 : Option Value) (x : Int32) (S : List Value) (h : zH), zD 165 436 [l0, l1, l2, some (.int x)] S h = zD 165 437 [l0, l1, l2, some (.int x)] (.int x :: S) h) ∧
  (∀ (l0 l1 l2 l3 : Option Value) (S : List Value) (h : zH), zD 165 437 [l0, l1, l2, l3] S h = zD 165 438 [l0, l1, l2, l3] (.int (2 : Int32) :: S) h) ∧
  (∀ (l0 l1 l2 l3 : Option Value) (x y : Int32) (r : List Value) (h : zH), zD 165 438 [l0, l1, l2, l3] (.int y :: .int x :: r) h = zD 165 439 [l0, l1, l2, l3] (.int (x + y) :: r) h) ∧
  (∀ (l0 l1 l2 l3 : Option Value) (i : Int32) (a : Nat) (r : List Value) (h : zH) (hx : ziok a (h.2.2 a) i = true), zD 165 439 [l0, l1, l2, l3] (.int i :: .ref a :: r) h = zD 165 440 [l0, l1, l2, l3] (.int (ziv (h.2.2 a) i) :: r) h) ∧
  (∀ (l0 l1 l2 l3 : Option Value) (p0 : Int32) (p1 : Int32) (a : Nat) (r : List Value) (h : zH) (hcat : zcat r ≤ 8) (hr : zis (h.2.2 a) 8 = true) (hC : (zC 136 (.ref a :: [.int p0, .int p1]) h).isSome = true), zD 165 440 [l0, l1, l2, l3] (.int p1 :: .int p0 :: .ref a :: r) h = zD 165 443 [l0, l1, l2, l3] (zgv (zC 136 (.ref a :: [.int p0, .int p1]) h) ++ r) (zgh h (zC 136 (.ref a :: [.int p0, .int p1]) h))) ∧
  (∀ (l0 l1 l3 : Option Value) (x : Nat) (S : List Value) (h : zH), zD 165 443 [l0, l1, some (.ref x), l3] S h = zD 165 444 [l0, l1, some (.ref x), l3] (.ref x :: S) h) ∧
  (∀ (l0 l1 l3 : Option Value) (S : List Value) (h : zH), zD 165 443 [l0, l1, some .null, l3] S h = zD 165 444 [l0, l1, some .null, l3] (.null :: S) h) ∧
  (∀ (l1 l2 l3 : Option Value) (x : Nat) (S : List Value) (h : zH), zD 165 444 [some (.ref x), l1, l2, l3] S h = zD 165 445 [some (.ref x), l1, l2, l3] (.ref x :: S) h) ∧
  (∀ (l0 l1 l2 : Option Value) (x : Int32) (S : List Value) (h : zH), zD 165 445 [l0, l1, l2, some (.int x)] S h = zD 165 446 [l0, l1, l2, some (.int x)] (.int x :: S) h) ∧
  (∀ (l0 l1 l2 l3 : Option Value) (S : List Value) (h : zH), zD 165 446 [l0, l1, l2, l3] S h = zD 165 447 [l0, l1, l2, l3] (.int (1 : Int32) :: S) h) ∧
  (∀ (l0 l1 l2 l3 : Option Value) (x y : Int32) (r : List Value) (h : zH), zD 165 447 [l0, l1, l2, l3] (.int y :: .int x :: r) h = zD 165 448 [l0, l1, l2, l3] (.int (x + y) :: r) h) ∧
  (∀ (l0 l1 l2 l3 : Option Value) (i : Int32) (a : Nat) (r : List Value) (h : zH) (hx : ziok a (h.2.2 a) i = true), zD 165 448 [l0, l1, l2, l3] (.int i :: .ref a :: r) h = zD 165 449 [l0, l1, l2, l3] (.int (ziv (h.2.2 a) i) :: r) h) ∧
  (∀ (l1 l2 l3 : Option Value) (x : Nat) (S : List Value) (h : zH), zD 165 449 [some (.ref x), l1, l2, l3] S h = zD 165 450 [some (.ref x), l1, l2, l3] (.ref x :: S) h) ∧
  (∀ (l0 l1 l2 : Option Value) (x : Int32) (S : List Value) (h : zH), zD 165 450 [l0, l1, l2, some (.int x)] S h = zD 165 451 [l0, l1, l2, some (.int x)] (.int x :: S) h) ∧
  (∀ (l0 l1 l2 l3 : Option Value) (S : List Value) (h : zH), zD 165 451 [l0, l1, l2, l3] S h = zD 165 452 [l0, l1, l2, l3] (.int (2 : Int32) :: S) h) ∧
  (∀ (l0 l1 l2 l3 : Option Value) (x y : Int32) (r : List Value) (h : zH), zD 165 452 [l0, l1, l2, l3] (.int y :: .int x :: r) h = zD 165 453 [l0, l1, l2, l3] (.int (x + y) :: r) h) ∧
  (∀ (l0 l1 l2 l3 : Option Value) (i : Int32) (a : Nat) (r : List Value) (h : zH) (hx : ziok a (h.2.2 a) i = true), zD 165 453 [l0, l1, l2, l3] (.int i :: .ref a :: r) h = zD 165 454 [l0, l1, l2, l3] (.int (ziv (h.2.2 a) i) :: r) h) ∧
  (∀ (l0 l1 l2 l3 : Option Value) (p0 : Int32) (p1 : Int32) (a : Nat) (r : List Value) (h : zH) (hcat : zcat r ≤ 8) (hr : zis (h.2.2 a) 9 = true) (hC : (zC 117 (.ref a :: [.int p0, .int p1]) h).isSome = true), zD 165 454 [l0, l1, l2, l3] (.int p1 :: .int p0 :: .ref a :: r) h = zD 165 457 [l0, l1, l2, l3] (zgv (zC 117 (.ref a :: [.int p0, .int p1]) h) ++ r) (zgh h (zC 117 (.ref a :: [.int p0, .int p1]) h))) ∧
  (∀ (l0 l1 l2 l3 : Option Value) (x y : Int32) (r : List Value) (h : zH), zD 165 457 [l0, l1, l2, l3] (.int y :: .int x :: r) h = if x = y then zD 165 905 [l0, l1, l2, l3] r h else zD 165 460 [l0, l1, l2, l3] r h) ∧
  (∀ (l0 l1 l2 l3 : Option Value) (S : List Value) (h : zH), zD 165 460 [l0, l1, l2, l3] S h = zD 165 461 [l0, l1, l2, l3] (.int (0 : Int32) :: S) h) ∧
  (∀ (l0 l1 l2 l3 : Option Value) (v : Int32) (h : zH) (hv : zbv v), zD 165 461 [l0, l1, l2, l3] [.int v] h = some (some (.int v), h)) ∧
  (∀ (l0 l2 l3 : Option Value) (x : Nat) (S : List Value) (h : zH), zD 165 462 [l0, some (.ref x), l2, l3] S h = zD 165 463 [l0, some (.ref x), l2, l3] (.ref x :: S) h) ∧
  (∀ (l0 l2 l3 : Option Value) (S : List Value) (h : zH), zD 165 462 [l0, some .null, l2, l3] S h = zD 165 463 [l0, some .null, l2, l3] (.null :: S) h) ∧
  (∀ (l1 l2 l3 : Option Value) (x : Nat) (S : List Value) (h : zH), zD 165 463 [some (.ref x), l1, l2, l3] S h = zD 165 464 [some (.ref x), l1, l2, l3] (.ref x :: S) h) ∧
  (∀ (l0 l1 l2 : Option Value) (x : Int32) (S : List Value) (h : zH), zD 165 464 [l0, l1, l2, some (.int x)] S h = zD 165 465 [l0, l1, l2, some (.int x)] (.int x :: S) h) ∧
  (∀ (l0 l1 l2 l3 : Option Value) (S : List Value) (h : zH), zD 165 465 [l0, l1, l2, l3] S h = zD 165 466 [l0, l1, l2, l3] (.int (1 : Int32) :: S) h) ∧
  (∀ (l0 l1 l2 l3 : Option Value) (x y : Int32) (r : List Value) (h : zH), zD 165 466 [l0, l1, l2, l3] (.int y :: .int x :: r) h = zD 165 467 [l0, l1, l2, l3] (.int (x + y) :: r) h) ∧
  (∀ (l0 l1 l2 l3 : Option Value) (i : Int32) (a : Nat) (r : List Value) (h : zH) (hx : ziok a (h.2.2 a) i = true), zD 165 467 [l0, l1, l2, l3] (.int i :: .ref a :: r) h = zD 165 468 [l0, l1, l2, l3] (.int (ziv (h.2.2 a) i) :: r) h) ∧
  (∀ (l1 l2 l3 : Option Value) (x : Nat) (S : List Value) (h : zH), zD 165 468 [some (.ref x), l1, l2, l3] S h = zD 165 469 [some (.ref x), l1, l2, l3] (.ref x :: S) h) ∧
  (∀ (l0 l1 l2 : Option Value) (x : Int32) (S : List Value) (h : zH), zD 165 469 [l0, l1, l2, some (.int x)] S h = zD 165 470 [l0, l1, l2, some (.int x)] (.int x :: S) h) ∧
  (∀ (l0 l1 l2 l3 : Option Value) (S : List Value) (h : zH), zD 165 470 [l0, l1, l2, l3] S h = zD 165 471 [l0, l1, l2, l3] (.int (2 : Int32) :: S) h) ∧
  (∀ (l0 l1 l2 l3 : Option Value) (x y : Int32) (r : List Value) (h : zH), zD 165 471 [l0, l1, l2, l3] (.int y :: .int x :: r) h = zD 165 472 [l0, l1, l2, l3] (.int (x + y) :: r) h) ∧
  (∀ (l0 l1 l2 l3 : Option Value) (i : Int32) (a : Nat) (r : List Value) (h : zH) (hx : ziok a (h.2.2 a) i = true), zD 165 472 [l0, l1, l2, l3] (.int i :: .ref a :: r) h = zD 165 473 [l0, l1, l2, l3] (.int (ziv (h.2.2 a) i) :: r) h) ∧
  (∀ (l0 l1 l2 l3 : Option Value) (p0 : Int32) (p1 : Int32) (a : Nat) (r : List Value) (h : zH) (hcat : zcat r ≤ 8) (hr : zis (h.2.2 a) 8 = true) (hC : (zC 137 (.ref a :: [.int p0, .int p1]) h).isSome = true), zD 165 473 [l0, l1, l2, l3] (.int p1 :: .int p0 :: .ref a :: r) h = zD 165 476 [l0, l1, l2, l3] (zgv (zC 137 (.ref a :: [.int p0, .int p1]) h) ++ r) (zgh h (zC 137 (.ref a :: [.int p0, .int p1]) h))) ∧
  (∀ (l0 l1 l3 : Option Value) (x : Nat) (S : List Value) (h : zH), zD 165 476 [l0, l1, some (.ref x), l3] S h = zD 165 477 [l0, l1, some (.ref x), l3] (.ref x :: S) h) ∧
  (∀ (l0 l1 l3 : Option Value) (S : List Value) (h : zH), zD 165 476 [l0, l1, some .null, l3] S h = zD 165 477 [l0, l1, some .null, l3] (.null :: S) h) ∧
  (∀ (l1 l2 l3 : Option Value) (x : Nat) (S : List Value) (h : zH), zD 165 477 [some (.ref x), l1, l2, l3] S h = zD 165 478 [some (.ref x), l1, l2, l3] (.ref x :: S) h) ∧
  (∀ (l0 l1 l2 : Option Value) (x : Int32) (S : List Value) (h : zH), zD 165 478 [l0, l1, l2, some (.int x)] S h = zD 165 479 [l0, l1, l2, some (.int x)] (.int x :: S) h) ∧
  (∀ (l0 l1 l2 l3 : Option Value) (S : List Value) (h : zH), zD 165 479 [l0, l1, l2, l3] S h = zD 165 480 [l0, l1, l2, l3] (.int (1 : Int32) :: S) h) ∧
  (∀ (l0 l1 l2 l3 : Option Value) (x y : Int32) (r : List Value) (h : zH), zD 165 480 [l0, l1, l2, l3] (.int y :: .int x :: r) h = zD 165 481 [l0, l1, l2, l3] (.int (x + y) :: r) h) ∧
  (∀ (l0 l1 l2 l3 : Option Value) (i : Int32) (a : Nat) (r : List Value) (h : zH) (hx : ziok a (h.2.2 a) i = true), zD 165 481 [l0, l1, l2, l3] (.int i :: .ref a :: r) h = zD 165 482 [l0, l1, l2, l3] (.int (ziv (h.2.2 a) i) :: r) h) ∧
  (∀ (l1 l2 l3 : Option Value) (x : Nat) (S : List Value) (h : zH), zD 165 482 [some (.ref x), l1, l2, l3] S h = zD 165 483 [some (.ref x), l1, l2, l3] (.ref x :: S) h) ∧
  (∀ (l0 l1 l2 : Option Value) (x : Int32) (S : List Value) (h : zH), zD 165 483 [l0, l1, l2, some (.int x)] S h = zD 165 484 [l0, l1, l2, some (.int x)] (.int x :: S) h) ∧
  (∀ (l0 l1 l2 l3 : Option Value) (S : List Value) (h : zH), zD 165 484 [l0, l1, l2, l3] S h = zD 165 485 [l0, l1, l2, l3] (.int (2 : Int32) :: S) h) ∧
  (∀ (l0 l1 l2 l3 : Option Value) (x y : Int32) (r : List Value) (h : zH), zD 165 485 [l0, l1, l2, l3] (.int y :: .int x :: r) h = zD 165 486 [l0, l1, l2, l3] (.int (x + y) :: r) h) ∧
  (∀ (l0 l1 l2 l3 : Option Value) (i : Int32) (a : Nat) (r : List Value) (h : zH) (hx : ziok a (h.2.2 a) i = true), zD 165 486 [l0, l1, l2, l3] (.int i :: .ref a :: r) h = zD 165 487 [l0, l1, l2, l3] (.int (ziv (h.2.2 a) i) :: r) h) ∧
  (∀ (l0 l1 l2 l3 : Option Value) (p0 : Int32) (p1 : Int32) (a : Nat) (r : List Value) (h : zH) (hcat : zcat r ≤ 8) (hr : zis (h.2.2 a) 9 = true) (hC : (zC 118 (.ref a :: [.int p0, .int p1]) h).isSome = true), zD 165 487 [l0, l1, l2, l3] (.int p1 :: .int p0 :: .ref a :: r) h = zD 165 490 [l0, l1, l2, l3] (zgv (zC 118 (.ref a :: [.int p0, .int p1]) h) ++ r) (zgh h (zC 118 (.ref a :: [.int p0, .int p1]) h))) ∧
  (∀ (l0 l1 l2 l3 : Option Value) (x y : Int32) (r : List Value) (h : zH), zD 165 490 [l0, l1, l2, l3] (.int y :: .int x :: r) h = if x = y then zD 165 905 [l0, l1, l2, l3] r h else zD 165 493 [l0, l1, l2, l3] r h) ∧
  (∀ (l0 l1 l2 l3 : Option Value) (S : List Value) (h : zH), zD 165 493 [l0, l1, l2, l3] S h = zD 165 494 [l0, l1, l2, l3] (.int (0 : Int32) :: S) h) ∧
  (∀ (l0 l1 l2 l3 : Option Value) (v : Int32) (h : zH) (hv : zbv v), zD 165 494 [l0, l1, l2, l3] [.int v] h = some (some (.int v), h)) ∧
  (∀ (l0 l2 l3 : Option Value) (x : Nat) (S : List Value) (h : zH), zD 165 495 [l0, some (.ref x), l2, l3] S h = zD 165 496 [l0, some (.ref x), l2, l3] (.ref x :: S) h) ∧
  (∀ (l0 l2 l3 : Option Value) (S : List Value) (h : zH), zD 165 495 [l0, some .null, l2, l3] S h = zD 165 496 [l0, some .null, l2, l3] (.null :: S) h) ∧
  (∀ (l1 l2 l3 : Option Value) (x : Nat) (S : List Value) (h : zH), zD 165 496 [some (.ref x), l1, l2, l3] S h = zD 165 497 [some (.ref x), l1, l2, l3] (.ref x :: S) h) ∧
  (∀ (l0 l1 l2 : Option Value) (x : Int32) (S : List Value) (h : zH), zD 165 497 [l0, l1, l2, some (.int x)] S h = zD 165 498 [l0, l1, l2, some (.int x)] (.int x :: S) h) ∧
  (∀ (l0 l1 l2 l3 : Option Value) (S : List Value) (h : zH), zD 165 498 [l0, l1, l2, l3] S h = zD 165 499 [l0, l1, l2, l3] (.int (1 : Int32) :: S) h) ∧
  (∀ (l0 l1 l2 l3 : Option Value) (x y : Int32) (r : List Value) (h : zH), zD 165 499 [l0, l1, l2, l3] (.int y :: .int x :: r) h = zD 165 500 [l0, l1, l2, l3] (.int (x + y) :: r) h) ∧
  (∀ (l0 l1 l2 l3 : Option Value) (i : Int32) (a : Nat) (r : List Value) (h : zH) (hx : ziok a (h.2.2 a) i = true), zD 165 500 [l0, l1, l2, l3] (.int i :: .ref a :: r) h = zD 165 501 [l0, l1, l2, l3] (.int (ziv (h.2.2 a) i) :: r) h) ∧
  (∀ (l1 l2 l3 : Option Value) (x : Nat) (S : List Value) (h : zH), zD 165 501 [some (.ref x), l1, l2, l3] S h = zD 165 502 [some (.ref x), l1, l2, l3] (.ref x :: S) h) ∧
  (∀ (l0 l1 l2 : Option Value) (x : Int32) (S : List Value) (h : zH), zD 165 502 [l0, l1, l2, some (.int x)] S h = zD 165 503 [l0, l1, l2, some (.int x)] (.int x :: S) h) ∧
  (∀ (l0 l1 l2 l3 : Option Value) (S : List Value) (h : zH), zD 165 503 [l0, l1, l2, l3] S h = zD 165 504 [l0, l1, l2, l3] (.int (2 : Int32) :: S) h) ∧
  (∀ (l0 l1 l2 l3 : Option Value) (x y : Int32) (r : List Value) (h : zH), zD 165 504 [l0, l1, l2, l3] (.int y :: .int x :: r) h = zD 165 505 [l0, l1, l2, l3] (.int (x + y) :: r) h) ∧
  (∀ (l0 l1 l2 l3 : Option Value) (i : Int32) (a : Nat) (r : List Value) (h : zH) (hx : ziok a (h.2.2 a) i = true), zD 165 505 [l0, l1, l2, l3] (.int i :: .ref a :: r) h = zD 165 506 [l0, l1, l2, l3] (.int (ziv (h.2.2 a) i) :: r) h) ∧
  (∀ (l0 l1 l2 l3 : Option Value) (p0 : Int32) (p1 : Int32) (a : Nat) (r : List Value) (h : zH) (hcat : zcat r ≤ 8) (hr : zis (h.2.2 a) 8 = true) (hC : (zC 161 (.ref a :: [.int p0, .int p1]) h).isSome = true), zD 165 506 [l0, l1, l2, l3] (.int p1 :: .int p0 :: .ref a :: r) h = zD 165 509 [l0, l1, l2, l3] (zgv (zC 161 (.ref a :: [.int p0, .int p1]) h) ++ r) (zgh h (zC 161 (.ref a :: [.int p0, .int p1]) h))) ∧
  (∀ (l0 l1 l3 : Option Value) (x : Nat) (S : List Value) (h : zH), zD 165 509 [l0, l1, some (.ref x), l3] S h = zD 165 510 [l0, l1, some (.ref x), l3] (.ref x :: S) h) ∧
  (∀ (l0 l1 l3 : Option Value) (S : List Value) (h : zH), zD 165 509 [l0, l1, some .null, l3] S h = zD 165 510 [l0, l1, some .null, l3] (.null :: S) h) ∧
  (∀ (l1 l2 l3 : Option Value) (x : Nat) (S : List Value) (h : zH), zD 165 510 [some (.ref x), l1, l2, l3] S h = zD 165 511 [some (.ref x), l1, l2, l3] (.ref x :: S) h) ∧
  (∀ (l0 l1 l2 : Option Value) (x : Int32) (S : List Value) (h : zH), zD 165 511 [l0, l1, l2, some (.int x)] S h = zD 165 512 [l0, l1, l2, some (.int x)] (.int x :: S) h) ∧
  (∀ (l0 l1 l2 l3 : Option Value) (S : List Value) (h : zH), zD 165 512 [l0, l1, l2, l3] S h = zD 165 513 [l0, l1, l2, l3] (.int (1 : Int32) :: S) h) ∧
  (∀ (l0 l1 l2 l3 : Option Value) (x y : Int32) (r : List Value) (h : zH), zD 165 513 [l0, l1, l2, l3] (.int y :: .int x :: r) h = zD 165 514 [l0, l1, l2, l3] (.int (x + y) :: r) h) ∧
  (∀ (l0 l1 l2 l3 : Option Value) (i : Int32) (a : Nat) (r : List Value) (h : zH) (hx : ziok a (h.2.2 a) i = true), zD 165 514 [l0, l1, l2, l3] (.int i :: .ref a :: r) h = zD 165 515 [l0, l1, l2, l3] (.int (ziv (h.2.2 a) i) :: r) h) ∧
  (∀ (l1 l2 l3 : Option Value) (x : Nat) (S : List Value) (h : zH), zD 165 515 [some (.ref x), l1, l2, l3] S h = zD 165 516 [some (.ref x), l1, l2, l3] (.ref x :: S) h) ∧
  (∀ (l0 l1 l2 : Option Value) (x : Int32) (S : List Value) (h : zH), zD 165 516 [l0, l1, l2, some (.int x)] S h = zD 165 517 [l0, l1, l2, some (.int x)] (.int x :: S) h) ∧
  (∀ (l0 l1 l2 l3 : Option Value) (S : List Value) (h : zH), zD 165 517 [l0, l1, l2, l3] S h = zD 165 518 [l0, l1, l2, l3] (.int (2 : Int32) :: S) h) ∧
  (∀ (l0 l1 l2 l3 : Option Value) (x y : Int32) (r : List Value) (h : zH), zD 165 518 [l0, l1, l2, l3] (.int y :: .int x :: r) h = zD 165 519 [l0, l1, l2, l3] (.int (x + y) :: r) h) ∧
  (∀ (l0 l1 l2 l3 : Option Value) (i : Int32) (a : Nat) (r : List Value) (h : zH) (hx : ziok a (h.2.2 a) i = true), zD 165 519 [l0, l1, l2, l3] (.int i :: .ref a :: r) h = zD 165 520 [l0, l1, l2, l3] (.int (ziv (h.2.2 a) i) :: r) h) ∧
  (∀ (l0 l1 l2 l3 : Option Value) (p0 : Int32) (p1 : Int32) (a : Nat) (r : List Value) (h : zH) (hcat : zcat r ≤ 8) (hr : zis (h.2.2 a) 9 = true) (hC : (zC 143 (.ref a :: [.int p0, .int p1]) h).isSome = true), zD 165 520 [l0, l1, l2, l3] (.int p1 :: .int p0 :: .ref a :: r) h = zD 165 523 [l0, l1, l2, l3] (zgv (zC 143 (.ref a :: [.int p0, .int p1]) h) ++ r) (zgh h (zC 143 (.ref a :: [.int p0, .int p1]) h))) ∧
  (∀ (l0 l1 l2 l3 : Option Value) (x y : Int32) (r : List Value) (h : zH), zD 165 523 [l0, l1, l2, l3] (.int y :: .int x :: r) h = if x = y then zD 165 905 [l0, l1, l2, l3] r h else zD 165 526 [l0, l1, l2, l3] r h) ∧
  (∀ (l0 l1 l2 l3 : Option Value) (S : List Value) (h : zH), zD 165 526 [l0, l1, l2, l3] S h = zD 165 527 [l0, l1, l2, l3] (.int (0 : Int32) :: S) h) ∧
  (∀ (l0 l1 l2 l3 : Option Value) (v : Int32) (h : zH) (hv : zbv v), zD 165 527 [l0, l1, l2, l3] [.int v] h = some (some (.int v), h)) ∧
  (∀ (l0 l2 l3 : Option Value) (x : Nat) (S : List Value) (h : zH), zD 165 528 [l0, some (.ref x), l2, l3] S h = zD 165 529 [l0, some (.ref x), l2, l3] (.ref x :: S) h) ∧
  (∀ (l0 l2 l3 : Option Value) (S : List Value) (h : zH), zD 165 528 [l0, some .null, l2, l3] S h = zD 165 529 [l0, some .null, l2, l3] (.null :: S) h) ∧
  (∀ (l1 l2 l3 : Option Value) (x : Nat) (S : List Value) (h : zH), zD 165 529 [some (.ref x), l1, l2, l3] S h = zD 165 530 [some (.ref x), l1, l2, l3] (.ref x :: S) h) ∧
  (∀ (l0 l1 l2 : Option Value) (x : Int32) (S : List Value) (h : zH), zD 165 530 [l0, l1, l2, some (.int x)] S h = zD 165 531 [l0, l1, l2, some (.int x)] (.int x :: S) h) ∧
  (∀ (l0 l1 l2 l3 : Option Value) (S : List Value) (h : zH), zD 165 531 [l0, l1, l2, l3] S h = zD 165 532 [l0, l1, l2, l3] (.int (1 : Int32) :: S) h) ∧
  (∀ (l0 l1 l2 l3 : Option Value) (x y : Int32) (r : List Value) (h : zH), zD 165 532 [l0, l1, l2, l3] (.int y :: .int x :: r) h = zD 165 533 [l0, l1, l2, l3] (.int (x + y) :: r) h) ∧
  (∀ (l0 l1 l2 l3 : Option Value) (i : Int32) (a : Nat) (r : List Value) (h : zH) (hx : ziok a (h.2.2 a) i = true), zD 165 533 [l0, l1, l2, l3] (.int i :: .ref a :: r) h = zD 165 534 [l0, l1, l2, l3] (.int (ziv (h.2.2 a) i) :: r) h) ∧
  (∀ (l0 l1 l2 l3 : Option Value) (p0 : Int32) (a : Nat) (r : List Value) (h : zH) (hcat : zcat r ≤ 8) (hr : zis (h.2.2 a) 8 = true) (hC : (zC 155 (.ref a :: [.int p0]) h).isSome = true), zD 165 534 [l0, l1, l2, l3] (.int p0 :: .ref a :: r) h = zD 165 537 [l0, l1, l2, l3] (zgv (zC 155 (.ref a :: [.int p0]) h) ++ r) (zgh h (zC 155 (.ref a :: [.int p0]) h))) ∧
  (∀ (l0 l1 l3 : Option Value) (x : Nat) (S : List Value) (h : zH), zD 165 537 [l0, l1, some (.ref x), l3] S h = zD 165 538 [l0, l1, some (.ref x), l3] (.ref x :: S) h) ∧
  (∀ (l0 l1 l3 : Option Value) (S : List Value) (h : zH), zD 165 537 [l0, l1, some .null, l3] S h = zD 165 538 [l0, l1, some .null, l3] (.null :: S) h) ∧
  (∀ (l1 l2 l3 : Option Value) (x : Nat) (S : List Value) (h : zH), zD 165 538 [some (.ref x), l1, l2, l3] S h = zD 165 539 [some (.ref x), l1, l2, l3] (.ref x :: S) h) ∧
  (∀ (l0 l1 l2 : Option Value) (x : Int32) (S : List Value) (h : zH), zD 165 539 [l0, l1, l2, some (.int x)] S h = zD 165 540 [l0, l1, l2, some (.int x)] (.int x :: S) h) ∧
  (∀ (l0 l1 l2 l3 : Option Value) (S : List Value) (h : zH), zD 165 540 [l0, l1, l2, l3] S h = zD 165 541 [l0, l1, l2, l3] (.int (1 : Int32) :: S) h) ∧
  (∀ (l0 l1 l2 l3 : Option Value) (x y : Int32) (r : List Value) (h : zH), zD 165 541 [l0, l1, l2, l3] (.int y :: .int x :: r) h = zD 165 542 [l0, l1, l2, l3] (.int (x + y) :: r) h) ∧
  (∀ (l0 l1 l2 l3 : Option Value) (i : Int32) (a : Nat) (r : List Value) (h : zH) (hx : ziok a (h.2.2 a) i = true), zD 165 542 [l0, l1, l2, l3] (.int i :: .ref a :: r) h = zD 165 543 [l0, l1, l2, l3] (.int (ziv (h.2.2 a) i) :: r) h) ∧
  (∀ (l0 l1 l2 l3 : Option Value) (p0 : Int32) (a : Nat) (r : List Value) (h : zH) (hcat : zcat r ≤ 8) (hr : zis (h.2.2 a) 9 = true) (hC : (zC 144 (.ref a :: [.int p0]) h).isSome = true), zD 165 543 [l0, l1, l2, l3] (.int p0 :: .ref a :: r) h = zD 165 546 [l0, l1, l2, l3] (zgv (zC 144 (.ref a :: [.int p0]) h) ++ r) (zgh h (zC 144 (.ref a :: [.int p0]) h))) ∧
  (∀ (l0 l1 l2 l3 : Option Value) (x y : Int64) (r : List Value) (h : zH), zD 165 546 [l0, l1, l2, l3] (.long y :: .long x :: r) h = zD 165 547 [l0, l1, l2, l3] (.int (lg_cmp x y) :: r) h) ∧
  (∀ (l0 l1 l2 l3 : Option Value) (x : Int32) (r : List Value) (h : zH), zD 165 547 [l0, l1, l2, l3] (.int x :: r) h = if x = 0 then zD 165 905 [l0, l1, l2, l3] r h else zD 165 550 [l0, l1, l2, l3] r h) ∧
  (∀ (l0 l1 l2 l3 : Option Value) (S : List Value) (h : zH), zD 165 550 [l0, l1, l2, l3] S h = zD 165 551 [l0, l1, l2, l3] (.int (0 : Int32) :: S) h) ∧
  (∀ (l0 l1 l2 l3 : Option Value) (v : Int32) (h : zH) (hv : zbv v), zD 165 551 [l0, l1, l2, l3] [.int v] h = some (some (.int v), h)) ∧
  (∀ (l0 l2 l3 : Option Value) (x : Nat) (S : List Value) (h : zH), zD 165 552 [l0, some (.ref x), l2, l3] S h = zD 165 553 [l0, some (.ref x), l2, l3] (.ref x :: S) h) ∧
  (∀ (l0 l2 l3 : Option Value) (S : List Value) (h : zH), zD 165 552 [l0, some .null, l2, l3] S h = zD 165 553 [l0, some .null, l2, l3] (.null :: S) h) ∧
  (∀ (l1 l2 l3 : Option Value) (x : Nat) (S : List Value) (h : zH), zD 165 553 [some (.ref x), l1, l2, l3] S h = zD 165 554 [some (.ref x), l1, l2, l3] (.ref x :: S) h) ∧
  (∀ (l0 l1 l2 : Option Value) (x : Int32) (S : List Value) (h : zH), zD 165 554 [l0, l1, l2, some (.int x)] S h = zD 165 555 [l0, l1, l2, some (.int x)] (.int x :: S) h) ∧
  (∀ (l0 l1 l2 l3 : Option Value) (S : List Value) (h : zH), zD 165 555 [l0, l1, l2, l3] S h = zD 165 556 [l0, l1, l2, l3] (.int (1 : Int32) :: S) h) ∧
  (∀ (l0 l1 l2 l3 : Option Value) (x y : Int32) (r : List Value) (h : zH), zD 165 556 [l0, l1, l2, l3] (.int y :: .int x :: r) h = zD 165 557 [l0, l1, l2, l3] (.int (x + y) :: r) h) ∧
  (∀ (l0 l1 l2 l3 : Option Value) (i : Int32) (a : Nat) (r : List Value) (h : zH) (hx : ziok a (h.2.2 a) i = true), zD 165 557 [l0, l1, l2, l3] (.int i :: .ref a :: r) h = zD 165 558 [l0, l1, l2, l3] (.int (ziv (h.2.2 a) i) :: r) h) ∧
  (∀ (l0 l1 l2 l3 : Option Value) (p0 : Int32) (a : Nat) (r : List Value) (h : zH) (hcat : zcat r ≤ 8) (hr : zis (h.2.2 a) 8 = true) (hC : (zC 162 (.ref a :: [.int p0]) h).isSome = true), zD 165 558 [l0, l1, l2, l3] (.int p0 :: .ref a :: r) h = zD 165 561 [l0, l1, l2, l3] (zgv (zC 162 (.ref a :: [.int p0]) h) ++ r) (zgh h (zC 162 (.ref a :: [.int p0]) h))) ∧
  (∀ (l0 l1 l3 : Option Value) (x : Nat) (S : List Value) (h : zH), zD 165 561 [l0, l1, some (.ref x), l3] S h = zD 165 562 [l0, l1, some (.ref x), l3] (.ref x :: S) h) ∧
  (∀ (l0 l1 l3 : Option Value) (S : List Value) (h : zH), zD 165 561 [l0, l1, some .null, l3] S h = zD 165 562 [l0, l1, some .null, l3] (.null :: S) h) ∧
  (∀ (l1 l2 l3 : Option Value) (x : Nat) (S : List Value) (h : zH), zD 165 562 [some (.ref x), l1, l2, l3] S h = zD 165 563 [some (.ref x), l1, l2, l3] (.ref x :: S) h) ∧
  (∀ (l0 l1 l2 : Option Value) (x : Int32) (S : List Value) (h : zH), zD 165 563 [l0, l1, l2, some (.int x)] S h = zD 165 564 [l0, l1, l2, some (.int x)] (.int x :: S) h) ∧
  (∀ (l0 l1 l2 l3 : Option Value) (S : List Value) (h : zH), zD 165 564 [l0, l1, l2, l3] S h = zD 165 565 [l0, l1, l2, l3] (.int (1 : Int32) :: S) h) ∧
  (∀ (l0 l1 l2 l3 : Option Value) (x y : Int32) (r : List Value) (h : zH), zD 165 565 [l0, l1, l2, l3] (.int y :: .int x :: r) h = zD 165 566 [l0, l1, l2, l3] (.int (x + y) :: r) h) ∧
  (∀ (l0 l1 l2 l3 : Option Value) (i : Int32) (a : Nat) (r : List Value) (h : zH) (hx : ziok a (h.2.2 a) i = true), zD 165 566 [l0, l1, l2, l3] (.int i :: .ref a :: r) h = zD 165 567 [l0, l1, l2, l3] (.int (ziv (h.2.2 a) i) :: r) h) ∧
  (∀ (l0 l1 l2 l3 : Option Value) (p0 : Int32) (a : Nat) (r : List Value) (h : zH) (hcat : zcat r ≤ 8) (hr : zis (h.2.2 a) 9 = true) (hC : (zC 145 (.ref a :: [.int p0]) h).isSome = true), zD 165 567 [l0, l1, l2, l3] (.int p0 :: .ref a :: r) h = zD 165 570 [l0, l1, l2, l3] (zgv (zC 145 (.ref a :: [.int p0]) h) ++ r) (zgh h (zC 145 (.ref a :: [.int p0]) h))) ∧
  (∀ (l0 l1 l2 l3 : Option Value) (x y : Int32) (r : List Value) (h : zH), zD 165 570 [l0, l1, l2, l3] (.int y :: .int x :: r) h = if x = y then zD 165 905 [l0, l1, l2, l3] r h else zD 165 573 [l0, l1, l2, l3] r h) ∧
  (∀ (l0 l1 l2 l3 : Option Value) (S : List Value) (h : zH), zD 165 573 [l0, l1, l2, l3] S h = zD 165 574 [l0, l1, l2, l3] (.int (0 : Int32) :: S) h) ∧
  (∀ (l0 l1 l2 l3 : Option Value) (v : Int32) (h : zH) (hv : zbv v), zD 165 574 [l0, l1, l2, l3] [.int v] h = some (some (.int v), h)) ∧
  (∀ (l0 l2 l3 : Option Value) (x : Nat) (S : List Value) (h : zH), zD 165 575 [l0, some (.ref x), l2, l3] S h = zD 165 576 [l0, some (.ref x), l2, l3] (.ref x :: S) h) ∧
  (∀ (l0 l2 l3 : Option Value) (S : List Value) (h : zH), zD 165 575 [l0, some .null, l2, l3] S h = zD 165 576 [l0, some .null, l2, l3] (.null :: S) h) ∧
  (∀ (l0 l1 l2 l3 : Option Value) (a : Nat) (r : List Value) (h : zH) (hcat : zcat r ≤ 8) (hr : zis (h.2.2 a) 8 = true) (hC : (zC 156 [.ref a] h).isSome = true), zD 165 576 [l0, l1, l2, l3] (.ref a :: r) h = zD 165 579 [l0, l1, l2, l3] (zgv (zC 156 [.ref a] h) ++ r) (zgh h (zC 156 [.ref a] h))) ∧
  (∀ (l0 l1 l3 : Option Value) (x : Nat) (S : List Value) (h : zH), zD 165 579 [l0, l1, some (.ref x), l3] S h = zD 165 580 [l0, l1, some (.ref x), l3] (.ref x :: S) h) ∧
  (∀ (l0 l1 l3 : Option Value) (S : List Value) (h : zH), zD 165 579 [l0, l1, some .null, l3] S h = zD 165 580 [l0, l1, some .null, l3] (.null :: S) h) ∧
  (∀ (l0 l1 l2 l3 : Option Value) (a : Nat) (r : List Value) (h : zH) (hcat : zcat r ≤ 8) (hr : zis (h.2.2 a) 9 = true) (hC : (zC 120 [.ref a] h).isSome = true), zD 165 580 [l0, l1, l2, l3] (.ref a :: r) h = zD 165 583 [l0, l1, l2, l3] (zgv (zC 120 [.ref a] h) ++ r) (zgh h (zC 120 [.ref a] h))) ∧
  (∀ (l0 l1 l2 l3 : Option Value) (x y : Int32) (r : List Value) (h : zH), zD 165 583 [l0, l1, l2, l3] (.int y :: .int x :: r) h = if x = y then zD 165 905 [l0, l1, l2, l3] r h else zD 165 586 [l0, l1, l2, l3] r h) ∧
  (∀ (l0 l1 l2 l3 : Option Value) (S : List Value) (h : zH), zD 165 586 [l0, l1, l2, l3] S h = zD 165 587 [l0, l1, l2, l3] (.int (0 : Int32) :: S) h) ∧
  (∀ (l0 l1 l2 l3 : Option Value) (v : Int32) (h : zH) (hv : zbv v), zD 165 587 [l0, l1, l2, l3] [.int v] h = some (some (.int v), h)) ∧
  (∀ (l0 l2 l3 : Option Value) (x : Nat) (S : List Value) (h : zH), zD 165 588 [l0, some (.ref x), l2, l3] S h = zD 165 589 [l0, some (.ref x), l2, l3] (.ref x :: S) h) ∧
  (∀ (l0 l2 l3 : Option Value) (S : List Value) (h : zH), zD 165 588 [l0, some .null, l2, l3] S h = zD 165 589 [l0, some .null, l2, l3] (.null :: S) h) ∧
  (∀ (l1 l2 l3 : Option Value) (x : Nat) (S : List Value) (h : zH), zD 165 589 [some (.ref x), l1, l2, l3] S h = zD 165 590 [some (.ref x), l1, l2, l3] (.ref x :: S) h) ∧
  (∀ (l0 l1 l2 : Option Value) (x : Int32) (S : List Value) (h : zH), zD 165 590 [l0, l1, l2, some (.int x)] S h = zD 165 591 [l0, l1, l2, some (.int x)] (.int x :: S) h) ∧
  (∀ (l0 l1 l2 l3 : Option Value) (S : List Value) (h : zH), zD 165 591 [l0, l1, l2, l3] S h = zD 165 592 [l0, l1, l2, l3] (.int (1 : Int32) :: S) h) ∧
  (∀ (l0 l1 l2 l3 : Option Value) (x y : Int32) (r : List Value) (h : zH), zD 165 592 [l0, l1, l2, l3] (.int y :: .int x :: r) h = zD 165 593 [l0, l1, l2, l3] (.int (x + y) :: r) h) ∧
  (∀ (l0 l1 l2 l3 : Option Value) (i : Int32) (a : Nat) (r : List Value) (h : zH) (hx : ziok a (h.2.2 a) i = true), zD 165 593 [l0, l1, l2, l3] (.int i :: .ref a :: r) h = zD 165 594 [l0, l1, l2, l3] (.int (ziv (h.2.2 a) i) :: r) h) ∧
  (∀ (l0 l1 l2 l3 : Option Value) (p0 : Int32) (a : Nat) (r : List Value) (h : zH) (hcat : zcat r ≤ 8) (hr : zis (h.2.2 a) 8 = true) (hC : (zC 109 (.ref a :: [.int p0]) h).isSome = true), zD 165 594 [l0, l1, l2, l3] (.int p0 :: .ref a :: r) h = zD 165 597 [l0, l1, l2, l3] (zgv (zC 109 (.ref a :: [.int p0]) h) ++ r) (zgh h (zC 109 (.ref a :: [.int p0]) h))) ∧
  (∀ (l0 l1 l3 : Option Value) (x : Nat) (S : List Value) (h : zH), zD 165 597 [l0, l1, some (.ref x), l3] S h = zD 165 598 [l0, l1, some (.ref x), l3] (.ref x :: S) h) ∧
  (∀ (l0 l1 l3 : Option Value) (S : List Value) (h : zH), zD 165 597 [l0, l1, some .null, l3] S h = zD 165 598 [l0, l1, some .null, l3] (.null :: S) h) ∧
  (∀ (l1 l2 l3 : Option Value) (x : Nat) (S : List Value) (h : zH), zD 165 598 [some (.ref x), l1, l2, l3] S h = zD 165 599 [some (.ref x), l1, l2, l3] (.ref x :: S) h) ∧
  (∀ (l0 l1 l2 : Option Value) (x : Int32) (S : List Value) (h : zH), zD 165 599 [l0, l1, l2, some (.int x)] S h = zD 165 600 [l0, l1, l2, some (.int x)] (.int x :: S) h) ∧
  (∀ (l0 l1 l2 l3 : Option Value) (S : List Value) (h : zH), zD 165 600 [l0, l1, l2, l3] S h = zD 165 601 [l0, l1, l2, l3] (.int (1 : Int32) :: S) h) ∧
  (∀ (l0 l1 l2 l3 : Option Value) (x y : Int32) (r : List Value) (h : zH), zD 165 601 [l0, l1, l2, l3] (.int y :: .int x :: r) h = zD 165 602 [l0, l1, l2, l3] (.int (x + y) :: r) h) ∧
  (∀ (l0 l1 l2 l3 : Option Value) (i : Int32) (a : Nat) (r : List Value) (h : zH) (hx : ziok a (h.2.2 a) i = true), zD 165 602 [l0, l1, l2, l3] (.int i :: .ref a :: r) h = zD 165 603 [l0, l1, l2, l3] (.int (ziv (h.2.2 a) i) :: r) h) ∧
  (∀ (l0 l1 l2 l3 : Option Value) (p0 : Int32) (a : Nat) (r : List Value) (h : zH) (hcat : zcat r ≤ 8) (hr : zis (h.2.2 a) 9 = true) (hC : (zC 121 (.ref a :: [.int p0]) h).isSome = true), zD 165 603 [l0, l1, l2, l3] (.int p0 :: .ref a :: r) h = zD 165 606 [l0, l1, l2, l3] (zgv (zC 121 (.ref a :: [.int p0]) h) ++ r) (zgh h (zC 121 (.ref a :: [.int p0]) h))) ∧
  (∀ (l0 l1 l2 l3 : Option Value) (x y : Int32) (r : List Value) (h : zH), zD 165 606 [l0, l1, l2, l3] (.int y :: .int x :: r) h = if x = y then zD 165 905 [l0, l1, l2, l3] r h else zD 165 609 [l0, l1, l2, l3] r h) ∧
  (∀ (l0 l1 l2 l3 : Option Value) (S : List Value) (h : zH), zD 165 609 [l0, l1, l2, l3] S h = zD 165 610 [l0, l1, l2, l3] (.int (0 : Int32) :: S) h) ∧
  (∀ (l0 l1 l2 l3 : Option Value) (v : Int32) (h : zH) (hv : zbv v), zD 165 610 [l0, l1, l2, l3] [.int v] h = some (some (.int v), h)) ∧
  (∀ (l0 l2 l3 : Option Value) (x : Nat) (S : List Value) (h : zH), zD 165 611 [l0, some (.ref x), l2, l3] S h = zD 165 612 [l0, some (.ref x), l2, l3] (.ref x :: S) h) ∧
  (∀ (l0 l2 l3 : Option Value) (S : List Value) (h : zH), zD 165 611 [l0, some .null, l2, l3] S h = zD 165 612 [l0, some .null, l2, l3] (.null :: S) h) ∧
  (∀ (l1 l2 l3 : Option Value) (x : Nat) (S : List Value) (h : zH), zD 165 612 [some (.ref x), l1, l2, l3] S h = zD 165 613 [some (.ref x), l1, l2, l3] (.ref x :: S) h) ∧
  (∀ (l0 l1 l2 : Option Value) (x : Int32) (S : List Value) (h : zH), zD 165 613 [l0, l1, l2, some (.int x)] S h = zD 165 614 [l0, l1, l2, some (.int x)] (.int x :: S) h) ∧
  (∀ (l0 l1 l2 l3 : Option Value) (S : List Value) (h : zH), zD 165 614 [l0, l1, l2, l3] S h = zD 165 615 [l0, l1, l2, l3] (.int (1 : Int32) :: S) h) ∧
  (∀ (l0 l1 l2 l3 : Option Value) (x y : Int32) (r : List Value) (h : zH), zD 165 615 [l0, l1, l2, l3] (.int y :: .int x :: r) h = zD 165 616 [l0, l1, l2, l3] (.int (x + y) :: r) h) ∧
  (∀ (l0 l1 l2 l3 : Option Value) (i : Int32) (a : Nat) (r : List Value) (h : zH) (hx : ziok a (h.2.2 a) i = true), zD 165 616 [l0, l1, l2, l3] (.int i :: .ref a :: r) h = zD 165 617 [l0, l1, l2, l3] (.int (ziv (h.2.2 a) i) :: r) h) ∧
  (∀ (l0 l1 l2 l3 : Option Value) (p0 : Int32) (a : Nat) (r : List Value) (h : zH) (hcat : zcat r ≤ 8) (hr : zis (h.2.2 a) 8 = true) (hC : (zC 110 (.ref a :: [.int p0]) h).isSome = true), zD 165 617 [l0, l1, l2, l3] (.int p0 :: .ref a :: r) h = zD 165 620 [l0, l1, l2, l3] (zgv (zC 110 (.ref a :: [.int p0]) h) ++ r) (zgh h (zC 110 (.ref a :: [.int p0]) h))) ∧
  (∀ (l0 l1 l3 : Option Value) (x : Nat) (S : List Value) (h : zH), zD 165 620 [l0, l1, some (.ref x), l3] S h = zD 165 621 [l0, l1, some (.ref x), l3] (.ref x :: S) h) ∧
  (∀ (l0 l1 l3 : Option Value) (S : List Value) (h : zH), zD 165 620 [l0, l1, some .null, l3] S h = zD 165 621 [l0, l1, some .null, l3] (.null :: S) h) ∧
  (∀ (l1 l2 l3 : Option Value) (x : Nat) (S : List Value) (h : zH), zD 165 621 [some (.ref x), l1, l2, l3] S h = zD 165 622 [some (.ref x), l1, l2, l3] (.ref x :: S) h) ∧
  (∀ (l0 l1 l2 : Option Value) (x : Int32) (S : List Value) (h : zH), zD 165 622 [l0, l1, l2, some (.int x)] S h = zD 165 623 [l0, l1, l2, some (.int x)] (.int x :: S) h) ∧
  (∀ (l0 l1 l2 l3 : Option Value) (S : List Value) (h : zH), zD 165 623 [l0, l1, l2, l3] S h = zD 165 624 [l0, l1, l2, l3] (.int (1 : Int32) :: S) h) ∧
  (∀ (l0 l1 l2 l3 : Option Value) (x y : Int32) (r : List Value) (h : zH), zD 165 624 [l0, l1, l2, l3] (.int y :: .int x :: r) h = zD 165 625 [l0, l1, l2, l3] (.int (x + y) :: r) h) ∧
  (∀ (l0 l1 l2 l3 : Option Value) (i : Int32) (a : Nat) (r : List Value) (h : zH) (hx : ziok a (h.2.2 a) i = true), zD 165 625 [l0, l1, l2, l3] (.int i :: .ref a :: r) h = zD 165 626 [l0, l1, l2, l3] (.int (ziv (h.2.2 a) i) :: r) h) ∧
  (∀ (l0 l1 l2 l3 : Option Value) (p0 : Int32) (a : Nat) (r : List Value) (h : zH) (hcat : zcat r ≤ 8) (hr : zis (h.2.2 a) 9 = true) (hC : (zC 122 (.ref a :: [.int p0]) h).isSome = true), zD 165 626 [l0, l1, l2, l3] (.int p0 :: .ref a :: r) h = zD 165 629 [l0, l1, l2, l3] (zgv (zC 122 (.ref a :: [.int p0]) h) ++ r) (zgh h (zC 122 (.ref a :: [.int p0]) h))) ∧
  (∀ (l0 l1 l2 l3 : Option Value) (x y : Int32) (r : List Value) (h : zH), zD 165 629 [l0, l1, l2, l3] (.int y :: .int x :: r) h = if x = y then zD 165 905 [l0, l1, l2, l3] r h else zD 165 632 [l0, l1, l2, l3] r h) ∧
  (∀ (l0 l1 l2 l3 : Option Value) (S : List Value) (h : zH), zD 165 632 [l0, l1, l2, l3] S h = zD 165 633 [l0, l1, l2, l3] (.int (0 : Int32) :: S) h) ∧
  (∀ (l0 l1 l2 l3 : Option Value) (v : Int32) (h : zH) (hv : zbv v), zD 165 633 [l0, l1, l2, l3] [.int v] h = some (some (.int v), h)) ∧
  (∀ (l0 l2 l3 : Option Value) (x : Nat) (S : List Value) (h : zH), zD 165 634 [l0, some (.ref x), l2, l3] S h = zD 165 635 [l0, some (.ref x), l2, l3] (.ref x :: S) h) ∧
  (∀ (l0 l2 l3 : Option Value) (S : List Value) (h : zH), zD 165 634 [l0, some .null, l2, l3] S h = zD 165 635 [l0, some .null, l2, l3] (.null :: S) h) ∧
  (∀ (l1 l2 l3 : Option Value) (x : Nat) (S : List Value) (h : zH), zD 165 635 [some (.ref x), l1, l2, l3] S h = zD 165 636 [some (.ref x), l1, l2, l3] (.ref x :: S) h) ∧
  (∀ (l0 l1 l2 : Option Value) (x : Int32) (S : List Value) (h : zH), zD 165 636 [l0, l1, l2, some (.int x)] S h = zD 165 637 [l0, l1, l2, some (.int x)] (.int x :: S) h) ∧
  (∀ (l0 l1 l2 l3 : Option Value) (S : List Value) (h : zH), zD 165 637 [l0, l1, l2, l3] S h = zD 165 638 [l0, l1, l2, l3] (.int (1 : Int32) :: S) h) ∧
  (∀ (l0 l1 l2 l3 : Option Value) (x y : Int32) (r : List Value) (h : zH), zD 165 638 [l0, l1, l2, l3] (.int y :: .int x :: r) h = zD 165 639 [l0, l1, l2, l3] (.int (x + y) :: r) h) ∧
  (∀ (l0 l1 l2 l3 : Option Value) (i : Int32) (a : Nat) (r : List Value) (h : zH) (hx : ziok a (h.2.2 a) i = true), zD 165 639 [l0, l1, l2, l3] (.int i :: .ref a :: r) h = zD 165 640 [l0, l1, l2, l3] (.int (ziv (h.2.2 a) i) :: r) h) ∧
  (∀ (l1 l2 l3 : Option Value) (x : Nat) (S : List Value) (h : zH), zD 165 640 [some (.ref x), l1, l2, l3] S h = zD 165 641 [some (.ref x), l1, l2, l3] (.ref x :: S) h) ∧
  (∀ (l0 l1 l2 : Option Value) (x : Int32) (S : List Value) (h : zH), zD 165 641 [l0, l1, l2, some (.int x)] S h = zD 165 642 [l0, l1, l2, some (.int x)] (.int x :: S) h) ∧
  (∀ (l0 l1 l2 l3 : Option Value) (S : List Value) (h : zH), zD 165 642 [l0, l1, l2, l3] S h = zD 165 643 [l0, l1, l2, l3] (.int (2 : Int32) :: S) h) ∧
  (∀ (l0 l1 l2 l3 : Option Value) (x y : Int32) (r : List Value) (h : zH), zD 165 643 [l0, l1, l2, l3] (.int y :: .int x :: r) h = zD 165 644 [l0, l1, l2, l3] (.int (x + y) :: r) h) ∧
  (∀ (l0 l1 l2 l3 : Option Value) (i : Int32) (a : Nat) (r : List Value) (h : zH) (hx : ziok a (h.2.2 a) i = true), zD 165 644 [l0, l1, l2, l3] (.int i :: .ref a :: r) h = zD 165 645 [l0, l1, l2, l3] (.int (ziv (h.2.2 a) i) :: r) h) ∧
  (∀ (l1 l2 l3 : Option Value) (x : Nat) (S : List Value) (h : zH), zD 165 645 [some (.ref x), l1, l2, l3] S h = zD 165 646 [some (.ref x), l1, l2, l3] (.ref x :: S) h) ∧
  (∀ (l0 l1 l2 : Option Value) (x : Int32) (S : List Value) (h : zH), zD 165 646 [l0, l1, l2, some (.int x)] S h = zD 165 647 [l0, l1, l2, some (.int x)] (.int x :: S) h) ∧
  (∀ (l0 l1 l2 l3 : Option Value) (S : List Value) (h : zH), zD 165 647 [l0, l1, l2, l3] S h = zD 165 648 [l0, l1, l2, l3] (.int (3 : Int32) :: S) h) ∧
  (∀ (l0 l1 l2 l3 : Option Value) (x y : Int32) (r : List Value) (h : zH), zD 165 648 [l0, l1, l2, l3] (.int y :: .int x :: r) h = zD 165 649 [l0, l1, l2, l3] (.int (x + y) :: r) h) ∧
  (∀ (l0 l1 l2 l3 : Option Value) (i : Int32) (a : Nat) (r : List Value) (h : zH) (hx : ziok a (h.2.2 a) i = true), zD 165 649 [l0, l1, l2, l3] (.int i :: .ref a :: r) h = zD 165 650 [l0, l1, l2, l3] (.int (ziv (h.2.2 a) i) :: r) h) ∧
  (∀ (l0 l1 l2 l3 : Option Value) (p0 : Int32) (p1 : Int32) (p2 : Int32) (a : Nat) (r : List Value) (h : zH) (hcat : zcat r ≤ 8) (hr : zis (h.2.2 a) 8 = true) (hC : (zC 70 (.ref a :: [.int p0, .int p1, .int p2]) h).isSome = true), zD 165 650 [l0, l1, l2, l3] (.int p2 :: .int p1 :: .int p0 :: .ref a :: r) h = zD 165 653 [l0, l1, l2, l3] (zgv (zC 70 (.ref a :: [.int p0, .int p1, .int p2]) h) ++ r) (zgh h (zC 70 (.ref a :: [.int p0, .int p1, .int p2]) h))) ∧
  (∀ (l0 l1 l3 : Option Value) (x : Nat) (S : List Value) (h : zH), zD 165 653 [l0, l1, some (.ref x), l3] S h = zD 165 654 [l0, l1, some (.ref x), l3] (.ref x :: S) h) ∧
  (∀ (l0 l1 l3 : Option Value) (S : List Value) (h : zH), zD 165 653 [l0, l1, some .null, l3] S h = zD 165 654 [l0, l1, some .null, l3] (.null :: S) h) ∧
  (∀ (l1 l2 l3 : Option Value) (x : Nat) (S : List Value) (h : zH), zD 165 654 [some (.ref x), l1, l2, l3] S h = zD 165 655 [some (.ref x), l1, l2, l3] (.ref x :: S) h) ∧
  (∀ (l0 l1 l2 : Option Value) (x : Int32) (S : List Value) (h : zH), zD 165 655 [l0, l1, l2, some (.int x)] S h = zD 165 656 [l0, l1, l2, some (.int x)] (.int x :: S) h) ∧
  (∀ (l0 l1 l2 l3 : Option Value) (S : List Value) (h : zH), zD 165 656 [l0, l1, l2, l3] S h = zD 165 657 [l0, l1, l2, l3] (.int (1 : Int32) :: S) h) ∧
  (∀ (l0 l1 l2 l3 : Option Value) (x y : Int32) (r : List Value) (h : zH), zD 165 657 [l0, l1, l2, l3] (.int y :: .int x :: r) h = zD 165 658 [l0, l1, l2, l3] (.int (x + y) :: r) h) ∧
  (∀ (l0 l1 l2 l3 : Option Value) (i : Int32) (a : Nat) (r : List Value) (h : zH) (hx : ziok a (h.2.2 a) i = true), zD 165 658 [l0, l1, l2, l3] (.int i :: .ref a :: r) h = zD 165 659 [l0, l1, l2, l3] (.int (ziv (h.2.2 a) i) :: r) h) ∧
  (∀ (l1 l2 l3 : Option Value) (x : Nat) (S : List Value) (h : zH), zD 165 659 [some (.ref x), l1, l2, l3] S h = zD 165 660 [some (.ref x), l1, l2, l3] (.ref x :: S) h) ∧
  (∀ (l0 l1 l2 : Option Value) (x : Int32) (S : List Value) (h : zH), zD 165 660 [l0, l1, l2, some (.int x)] S h = zD 165 661 [l0, l1, l2, some (.int x)] (.int x :: S) h) ∧
  (∀ (l0 l1 l2 l3 : Option Value) (S : List Value) (h : zH), zD 165 661 [l0, l1, l2, l3] S h = zD 165 662 [l0, l1, l2, l3] (.int (2 : Int32) :: S) h) ∧
  (∀ (l0 l1 l2 l3 : Option Value) (x y : Int32) (r : List Value) (h : zH), zD 165 662 [l0, l1, l2, l3] (.int y :: .int x :: r) h = zD 165 663 [l0, l1, l2, l3] (.int (x + y) :: r) h) ∧
  (∀ (l0 l1 l2 l3 : Option Value) (i : Int32) (a : Nat) (r : List Value) (h : zH) (hx : ziok a (h.2.2 a) i = true), zD 165 663 [l0, l1, l2, l3] (.int i :: .ref a :: r) h = zD 165 664 [l0, l1, l2, l3] (.int (ziv (h.2.2 a) i) :: r) h) ∧
  (∀ (l1 l2 l3 : Option Value) (x : Nat) (S : List Value) (h : zH), zD 165 664 [some (.ref x), l1, l2, l3] S h = zD 165 665 [some (.ref x), l1, l2, l3] (.ref x :: S) h) ∧
  (∀ (l0 l1 l2 : Option Value) (x : Int32) (S : List Value) (h : zH), zD 165 665 [l0, l1, l2, some (.int x)] S h = zD 165 666 [l0, l1, l2, some (.int x)] (.int x :: S) h) ∧
  (∀ (l0 l1 l2 l3 : Option Value) (S : List Value) (h : zH), zD 165 666 [l0, l1, l2, l3] S h = zD 165 667 [l0, l1, l2, l3] (.int (3 : Int32) :: S) h) ∧
  (∀ (l0 l1 l2 l3 : Option Value) (x y : Int32) (r : List Value) (h : zH), zD 165 667 [l0, l1, l2, l3] (.int y :: .int x :: r) h = zD 165 668 [l0, l1, l2, l3] (.int (x + y) :: r) h) ∧
  (∀ (l0 l1 l2 l3 : Option Value) (i : Int32) (a : Nat) (r : List Value) (h : zH) (hx : ziok a (h.2.2 a) i = true), zD 165 668 [l0, l1, l2, l3] (.int i :: .ref a :: r) h = zD 165 669 [l0, l1, l2, l3] (.int (ziv (h.2.2 a) i) :: r) h) ∧
  (∀ (l0 l1 l2 l3 : Option Value) (p0 : Int32) (p1 : Int32) (p2 : Int32) (a : Nat) (r : List Value) (h : zH) (hcat : zcat r ≤ 8) (hr : zis (h.2.2 a) 9 = true) (hC : (zC 82 (.ref a :: [.int p0, .int p1, .int p2]) h).isSome = true), zD 165 669 [l0, l1, l2, l3] (.int p2 :: .int p1 :: .int p0 :: .ref a :: r) h = zD 165 672 [l0, l1, l2, l3] (zgv (zC 82 (.ref a :: [.int p0, .int p1, .int p2]) h) ++ r) (zgh h (zC 82 (.ref a :: [.int p0, .int p1, .int p2]) h))) ∧
  (∀ (l0 l1 l2 l3 : Option Value) (x y : Int32) (r : List Value) (h : zH), zD 165 672 [l0, l1, l2, l3] (.int y :: .int x :: r) h = if x = y then zD 165 905 [l0, l1, l2, l3] r h else zD 165 675 [l0, l1, l2, l3] r h) ∧
  (∀ (l0 l1 l2 l3 : Option Value) (S : List Value) (h : zH), zD 165 675 [l0, l1, l2, l3] S h = zD 165 676 [l0, l1, l2, l3] (.int (0 : Int32) :: S) h) ∧
  (∀ (l0 l1 l2 l3 : Option Value) (v : Int32) (h : zH) (hv : zbv v), zD 165 676 [l0, l1, l2, l3] [.int v] h = some (some (.int v), h)) ∧
  (∀ (l0 l2 l3 : Option Value) (x : Nat) (S : List Value) (h : zH), zD 165 677 [l0, some (.ref x), l2, l3] S h = zD 165 678 [l0, some (.ref x), l2, l3] (.ref x :: S) h) ∧
  (∀ (l0 l2 l3 : Option Value) (S : List Value) (h : zH), zD 165 677 [l0, some .null, l2, l3] S h = zD 165 678 [l0, some .null, l2, l3] (.null :: S) h) ∧
  (∀ (l0 l1 l2 l3 : Option Value) (a : Nat) (r : List Value) (h : zH) (hcat : zcat r ≤ 8) (hr : zis (h.2.2 a) 8 = true) (hC : (zC 111 [.ref a] h).isSome = true), zD 165 678 [l0, l1, l2, l3] (.ref a :: r) h = zD 165 681 [l0, l1, l2, l3] (zgv (zC 111 [.ref a] h) ++ r) (zgh h (zC 111 [.ref a] h))) ∧
  (∀ (l0 l1 l3 : Option Value) (x : Nat) (S : List Value) (h : zH), zD 165 681 [l0, l1, some (.ref x), l3] S h = zD 165 682 [l0, l1, some (.ref x), l3] (.ref x :: S) h) ∧
  (∀ (l0 l1 l3 : Option Value) (S : List Value) (h : zH), zD 165 681 [l0, l1, some .null, l3] S h = zD 165 682 [l0, l1, some .null, l3] (.null :: S) h) ∧
  (∀ (l0 l1 l2 l3 : Option Value) (a : Nat) (r : List Value) (h : zH) (hcat : zcat r ≤ 8) (hr : zis (h.2.2 a) 9 = true) (hC : (zC 83 [.ref a] h).isSome = true), zD 165 682 [l0, l1, l2, l3] (.ref a :: r) h = zD 165 685 [l0, l1, l2, l3] (zgv (zC 83 [.ref a] h) ++ r) (zgh h (zC 83 [.ref a] h))) ∧
  (∀ (l0 l1 l2 l3 : Option Value) (x y : Int32) (r : List Value) (h : zH), zD 165 685 [l0, l1, l2, l3] (.int y :: .int x :: r) h = if x = y then zD 165 905 [l0, l1, l2, l3] r h else zD 165 688 [l0, l1, l2, l3] r h) ∧
  (∀ (l0 l1 l2 l3 : Option Value) (S : List Value) (h : zH), zD 165 688 [l0, l1, l2, l3] S h = zD 165 689 [l0, l1, l2, l3] (.int (0 : Int32) :: S) h) ∧
  (∀ (l0 l1 l2 l3 : Option Value) (v : Int32) (h : zH) (hv : zbv v), zD 165 689 [l0, l1, l2, l3] [.int v] h = some (some (.int v), h)) ∧
  (∀ (l0 l2 l3 : Option Value) (x : Nat) (S : List Value) (h : zH), zD 165 690 [l0, some (.ref x), l2, l3] S h = zD 165 691 [l0, some (.ref x), l2, l3] (.ref x :: S) h) ∧
  (∀ (l0 l2 l3 : Option Value) (S : List Value) (h : zH), zD 165 690 [l0, some .null, l2, l3] S h = zD 165 691 [l0, some .null, l2, l3] (.null :: S) h) ∧
  (∀ (l1 l2 l3 : Option Value) (x : Nat) (S : List Value) (h : zH), zD 165 691 [some (.ref x), l1, l2, l3] S h = zD 165 692 [some (.ref x), l1, l2, l3] (.ref x :: S) h) ∧
  (∀ (l0 l1 l2 : Option Value) (x : Int32) (S : List Value) (h : zH), zD 165 692 [l0, l1, l2, some (.int x)] S h = zD 165 693 [l0, l1, l2, some (.int x)] (.int x :: S) h) ∧
  (∀ (l0 l1 l2 l3 : Option Value) (S : List Value) (h : zH), zD 165 693 [l0, l1, l2, l3] S h = zD 165 694 [l0, l1, l2, l3] (.int (1 : Int32) :: S) h) ∧
  (∀ (l0 l1 l2 l3 : Option Value) (x y : Int32) (r : List Value) (h : zH), zD 165 694 [l0, l1, l2, l3] (.int y :: .int x :: r) h = zD 165 695 [l0, l1, l2, l3] (.int (x + y) :: r) h) ∧
  (∀ (l0 l1 l2 l3 : Option Value) (i : Int32) (a : Nat) (r : List Value) (h : zH) (hx : ziok a (h.2.2 a) i = true), zD 165 695 [l0, l1, l2, l3] (.int i :: .ref a :: r) h = zD 165 696 [l0, l1, l2, l3] (.int (ziv (h.2.2 a) i) :: r) h) ∧
  (∀ (l1 l2 l3 : Option Value) (x : Nat) (S : List Value) (h : zH), zD 165 696 [some (.ref x), l1, l2, l3] S h = zD 165 697 [some (.ref x), l1, l2, l3] (.ref x :: S) h) ∧
  (∀ (l0 l1 l2 : Option Value) (x : Int32) (S : List Value) (h : zH), zD 165 697 [l0, l1, l2, some (.int x)] S h = zD 165 698 [l0, l1, l2, some (.int x)] (.int x :: S) h) ∧
  (∀ (l0 l1 l2 l3 : Option Value) (S : List Value) (h : zH), zD 165 698 [l0, l1, l2, l3] S h = zD 165 699 [l0, l1, l2, l3] (.int (2 : Int32) :: S) h) ∧
  (∀ (l0 l1 l2 l3 : Option Value) (x y : Int32) (r : List Value) (h : zH), zD 165 699 [l0, l1, l2, l3] (.int y :: .int x :: r) h = zD 165 700 [l0, l1, l2, l3] (.int (x + y) :: r) h) ∧
  (∀ (l0 l1 l2 l3 : Option Value) (i : Int32) (a : Nat) (r : List Value) (h : zH) (hx : ziok a (h.2.2 a) i = true), zD 165 700 [l0, l1, l2, l3] (.int i :: .ref a :: r) h = zD 165 701 [l0, l1, l2, l3] (.int (ziv (h.2.2 a) i) :: r) h) ∧
  (∀ (l1 l2 l3 : Option Value) (x : Nat) (S : List Value) (h : zH), zD 165 701 [some (.ref x), l1, l2, l3] S h = zD 165 702 [some (.ref x), l1, l2, l3] (.ref x :: S) h) ∧
  (∀ (l0 l1 l2 : Option Value) (x : Int32) (S : List Value) (h : zH), zD 165 702 [l0, l1, l2, some (.int x)] S h = zD 165 703 [l0, l1, l2, some (.int x)] (.int x :: S) h) ∧
  (∀ (l0 l1 l2 l3 : Option Value) (S : List Value) (h : zH), zD 165 703 [l0, l1, l2, l3] S h = zD 165 704 [l0, l1, l2, l3] (.int (3 : Int32) :: S) h) ∧
  (∀ (l0 l1 l2 l3 : Option Value) (x y : Int32) (r : List Value) (h : zH), zD 165 704 [l0, l1, l2, l3] (.int y :: .int x :: r) h = zD 165 705 [l0, l1, l2, l3] (.int (x + y) :: r) h) ∧
  (∀ (l0 l1 l2 l3 : Option Value) (i : Int32) (a : Nat) (r : List Value) (h : zH) (hx : ziok a (h.2.2 a) i = true), zD 165 705 [l0, l1, l2, l3] (.int i :: .ref a :: r) h = zD 165 706 [l0, l1, l2, l3] (.int (ziv (h.2.2 a) i) :: r) h) ∧
  (∀ (l0 l1 l2 l3 : Option Value) (p0 : Int32) (p1 : Int32) (p2 : Int32) (a : Nat) (r : List Value) (h : zH) (hcat : zcat r ≤ 8) (hr : zis (h.2.2 a) 8 = true) (hC : (zC 71 (.ref a :: [.int p0, .int p1, .int p2]) h).isSome = true), zD 165 706 [l0, l1, l2, l3] (.int p2 :: .int p1 :: .int p0 :: .ref a :: r) h = zD 165 709 [l0, l1, l2, l3] (zgv (zC 71 (.ref a :: [.int p0, .int p1, .int p2]) h) ++ r) (zgh h (zC 71 (.ref a :: [.int p0, .int p1, .int p2]) h))) ∧
  (∀ (l0 l1 l3 : Option Value) (x : Nat) (S : List Value) (h : zH), zD 165 709 [l0, l1, some (.ref x), l3] S h = zD 165 710 [l0, l1, some (.ref x), l3] (.ref x :: S) h) ∧
  (∀ (l0 l1 l3 : Option Value) (S : List Value) (h : zH), zD 165 709 [l0, l1, some .null, l3] S h = zD 165 710 [l0, l1, some .null, l3] (.null :: S) h) ∧
  (∀ (l1 l2 l3 : Option Value) (x : Nat) (S : List Value) (h : zH), zD 165 710 [some (.ref x), l1, l2, l3] S h = zD 165 711 [some (.ref x), l1, l2, l3] (.ref x :: S) h) ∧
  (∀ (l0 l1 l2 : Option Value) (x : Int32) (S : List Value) (h : zH), zD 165 711 [l0, l1, l2, some (.int x)] S h = zD 165 712 [l0, l1, l2, some (.int x)] (.int x :: S) h) ∧
  (∀ (l0 l1 l2 l3 : Option Value) (S : List Value) (h : zH), zD 165 712 [l0, l1, l2, l3] S h = zD 165 713 [l0, l1, l2, l3] (.int (1 : Int32) :: S) h) ∧
  (∀ (l0 l1 l2 l3 : Option Value) (x y : Int32) (r : List Value) (h : zH), zD 165 713 [l0, l1, l2, l3] (.int y :: .int x :: r) h = zD 165 714 [l0, l1, l2, l3] (.int (x + y) :: r) h) ∧
  (∀ (l0 l1 l2 l3 : Option Value) (i : Int32) (a : Nat) (r : List Value) (h : zH) (hx : ziok a (h.2.2 a) i = true), zD 165 714 [l0, l1, l2, l3] (.int i :: .ref a :: r) h = zD 165 715 [l0, l1, l2, l3] (.int (ziv (h.2.2 a) i) :: r) h) ∧
  (∀ (l1 l2 l3 : Option Value) (x : Nat) (S : List Value) (h : zH), zD 165 715 [some (.ref x), l1, l2, l3] S h = zD 165 716 [some (.ref x), l1, l2, l3] (.ref x :: S) h) ∧
  (∀ (l0 l1 l2 : Option Value) (x : Int32) (S : List Value) (h : zH), zD 165 716 [l0, l1, l2, some (.int x)] S h = zD 165 717 [l0, l1, l2, some (.int x)] (.int x :: S) h) ∧
  (∀ (l0 l1 l2 l3 : Option Value) (S : List Value) (h : zH), zD 165 717 [l0, l1, l2, l3] S h = zD 165 718 [l0, l1, l2, l3] (.int (2 : Int32) :: S) h) ∧
  (∀ (l0 l1 l2 l3 : Option Value) (x y : Int32) (r : List Value) (h : zH), zD 165 718 [l0, l1, l2, l3] (.int y :: .int x :: r) h = zD 165 719 [l0, l1, l2, l3] (.int (x + y) :: r) h) ∧
  (∀ (l0 l1 l2 l3 : Option Value) (i : Int32) (a : Nat) (r : List Value) (h : zH) (hx : ziok a (h.2.2 a) i = true), zD 165 719 [l0, l1, l2, l3] (.int i :: .ref a :: r) h = zD 165 720 [l0, l1, l2, l3] (.int (ziv (h.2.2 a) i) :: r) h) ∧
  (∀ (l1 l2 l3 : Option Value) (x : Nat) (S : List Value) (h : zH), zD 165 720 [some (.ref x), l1, l2, l3] S h = zD 165 721 [some (.ref x), l1, l2, l3] (.ref x :: S) h) ∧
  (∀ (l0 l1 l2 : Option Value) (x : Int32) (S : List Value) (h : zH), zD 165 721 [l0, l1, l2, some (.int x)] S h = zD 165 722 [l0, l1, l2, some (.int x)] (.int x :: S) h) ∧
  (∀ (l0 l1 l2 l3 : Option Value) (S : List Value) (h : zH), zD 165 722 [l0, l1, l2, l3] S h = zD 165 723 [l0, l1, l2, l3] (.int (3 : Int32) :: S) h) ∧
  (∀ (l0 l1 l2 l3 : Option Value) (x y : Int32) (r : List Value) (h : zH), zD 165 723 [l0, l1, l2, l3] (.int y :: .int x :: r) h = zD 165 724 [l0, l1, l2, l3] (.int (x + y) :: r) h) ∧
  (∀ (l0 l1 l2 l3 : Option Value) (i : Int32) (a : Nat) (r : List Value) (h : zH) (hx : ziok a (h.2.2 a) i = true), zD 165 724 [l0, l1, l2, l3] (.int i :: .ref a :: r) h = zD 165 725 [l0, l1, l2, l3] (.int (ziv (h.2.2 a) i) :: r) h) ∧
  (∀ (l0 l1 l2 l3 : Option Value) (p0 : Int32) (p1 : Int32) (p2 : Int32) (a : Nat) (r : List Value) (h : zH) (hcat : zcat r ≤ 8) (hr : zis (h.2.2 a) 9 = true) (hC : (zC 84 (.ref a :: [.int p0, .int p1, .int p2]) h).isSome = true), zD 165 725 [l0, l1, l2, l3] (.int p2 :: .int p1 :: .int p0 :: .ref a :: r) h = zD 165 728 [l0, l1, l2, l3] (zgv (zC 84 (.ref a :: [.int p0, .int p1, .int p2]) h) ++ r) (zgh h (zC 84 (.ref a :: [.int p0, .int p1, .int p2]) h))) ∧
  (∀ (l0 l1 l2 l3 : Option Value) (x y : Int32) (r : List Value) (h : zH), zD 165 728 [l0, l1, l2, l3] (.int y :: .int x :: r) h = if x = y then zD 165 905 [l0, l1, l2, l3] r h else zD 165 731 [l0, l1, l2, l3] r h) ∧
  (∀ (l0 l1 l2 l3 : Option Value) (S : List Value) (h : zH), zD 165 731 [l0, l1, l2, l3] S h = zD 165 732 [l0, l1, l2, l3] (.int (0 : Int32) :: S) h) ∧
  (∀ (l0 l1 l2 l3 : Option Value) (v : Int32) (h : zH) (hv : zbv v), zD 165 732 [l0, l1, l2, l3] [.int v] h = some (some (.int v), h)) ∧
  (∀ (l0 l2 l3 : Option Value) (x : Nat) (S : List Value) (h : zH), zD 165 733 [l0, some (.ref x), l2, l3] S h = zD 165 734 [l0, some (.ref x), l2, l3] (.ref x :: S) h) ∧
  (∀ (l0 l2 l3 : Option Value) (S : List Value) (h : zH), zD 165 733 [l0, some .null, l2, l3] S h = zD 165 734 [l0, some .null, l2, l3] (.null :: S) h) ∧
  (∀ (l0 l1 l2 l3 : Option Value) (a : Nat) (r : List Value) (h : zH) (hcat : zcat r ≤ 8) (hr : zis (h.2.2 a) 8 = true) (hC : (zC 21 [.ref a] h).isSome = true), zD 165 734 [l0, l1, l2, l3] (.ref a :: r) h = zD 165 737 [l0, l1, l2, l3] (zgv (zC 21 [.ref a] h) ++ r) (zgh h (zC 21 [.ref a] h))) ∧
  (∀ (l0 l1 l3 : Option Value) (x : Nat) (S : List Value) (h : zH), zD 165 737 [l0, l1, some (.ref x), l3] S h = zD 165 738 [l0, l1, some (.ref x), l3] (.ref x :: S) h) ∧
  (∀ (l0 l1 l3 : Option Value) (S : List Value) (h : zH), zD 165 737 [l0, l1, some .null, l3] S h = zD 165 738 [l0, l1, some .null, l3] (.null :: S) h) ∧
  (∀ (l0 l1 l2 l3 : Option Value) (a : Nat) (r : List Value) (h : zH) (hcat : zcat r ≤ 8) (hr : zis (h.2.2 a) 9 = true) (hC : (zC 35 [.ref a] h).isSome = true), zD 165 738 [l0, l1, l2, l3] (.ref a :: r) h = zD 165 741 [l0, l1, l2, l3] (zgv (zC 35 [.ref a] h) ++ r) (zgh h (zC 35 [.ref a] h))) ∧
  (∀ (l0 l1 l2 l3 : Option Value) (x y : Int32) (r : List Value) (h : zH), zD 165 741 [l0, l1, l2, l3] (.int y :: .int x :: r) h = if x = y then zD 165 905 [l0, l1, l2, l3] r h else zD 165 744 [l0, l1, l2, l3] r h) ∧
  (∀ (l0 l1 l2 l3 : Option Value) (S : List Value) (h : zH), zD 165 744 [l0, l1, l2, l3] S h = zD 165 745 [l0, l1, l2, l3] (.int (0 : Int32) :: S) h) ∧
  (∀ (l0 l1 l2 l3 : Option Value) (v : Int32) (h : zH) (hv : zbv v), zD 165 745 [l0, l1, l2, l3] [.int v] h = some (some (.int v), h)) ∧
  (∀ (l0 l2 l3 : Option Value) (x : Nat) (S : List Value) (h : zH), zD 165 746 [l0, some (.ref x), l2, l3] S h = zD 165 747 [l0, some (.ref x), l2, l3] (.ref x :: S) h) ∧
  (∀ (l0 l2 l3 : Option Value) (S : List Value) (h : zH), zD 165 746 [l0, some .null, l2, l3] S h = zD 165 747 [l0, some .null, l2, l3] (.null :: S) h) ∧
  (∀ (l1 l2 l3 : Option Value) (x : Nat) (S : List Value) (h : zH), zD 165 747 [some (.ref x), l1, l2, l3] S h = zD 165 748 [some (.ref x), l1, l2, l3] (.ref x :: S) h) ∧
  (∀ (l0 l1 l2 : Option Value) (x : Int32) (S : List Value) (h : zH), zD 165 748 [l0, l1, l2, some (.int x)] S h = zD 165 749 [l0, l1, l2, some (.int x)] (.int x :: S) h) ∧
  (∀ (l0 l1 l2 l3 : Option Value) (S : List Value) (h : zH), zD 165 749 [l0, l1, l2, l3] S h = zD 165 750 [l0, l1, l2, l3] (.int (1 : Int32) :: S) h) ∧
  (∀ (l0 l1 l2 l3 : Option Value) (x y : Int32) (r : List Value) (h : zH), zD 165 750 [l0, l1, l2, l3] (.int y :: .int x :: r) h = zD 165 751 [l0, l1, l2, l3] (.int (x + y) :: r) h) ∧
  (∀ (l0 l1 l2 l3 : Option Value) (i : Int32) (a : Nat) (r : List Value) (h : zH) (hx : ziok a (h.2.2 a) i = true), zD 165 751 [l0, l1, l2, l3] (.int i :: .ref a :: r) h = zD 165 752 [l0, l1, l2, l3] (.int (ziv (h.2.2 a) i) :: r) h) ∧
  (∀ (l0 l1 l2 l3 : Option Value) (p0 : Int32) (a : Nat) (r : List Value) (h : zH) (hcat : zcat r ≤ 8) (hr : zis (h.2.2 a) 8 = true) (hC : (zC 163 (.ref a :: [.int p0]) h).isSome = true), zD 165 752 [l0, l1, l2, l3] (.int p0 :: .ref a :: r) h = zD 165 755 [l0, l1, l2, l3] (zgv (zC 163 (.ref a :: [.int p0]) h) ++ r) (zgh h (zC 163 (.ref a :: [.int p0]) h))) ∧
  (∀ (l0 l1 l3 : Option Value) (x : Nat) (S : List Value) (h : zH), zD 165 755 [l0, l1, some (.ref x), l3] S h = zD 165 756 [l0, l1, some (.ref x), l3] (.ref x :: S) h) ∧
  (∀ (l0 l1 l3 : Option Value) (S : List Value) (h : zH), zD 165 755 [l0, l1, some .null, l3] S h = zD 165 756 [l0, l1, some .null, l3] (.null :: S) h) ∧
  (∀ (l1 l2 l3 : Option Value) (x : Nat) (S : List Value) (h : zH), zD 165 756 [some (.ref x), l1, l2, l3] S h = zD 165 757 [some (.ref x), l1, l2, l3] (.ref x :: S) h) ∧
  (∀ (l0 l1 l2 : Option Value) (x : Int32) (S : List Value) (h : zH), zD 165 757 [l0, l1, l2, some (.int x)] S h = zD 165 758 [l0, l1, l2, some (.int x)] (.int x :: S) h) ∧
  (∀ (l0 l1 l2 l3 : Option Value) (S : List Value) (h : zH), zD 165 758 [l0, l1, l2, l3] S h = zD 165 759 [l0, l1, l2, l3] (.int (1 : Int32) :: S) h) ∧
  (∀ (l0 l1 l2 l3 : Option Value) (x y : Int32) (r : List Value) (h : zH), zD 165 759 [l0, l1, l2, l3] (.int y :: .int x :: r) h = zD 165 760 [l0, l1, l2, l3] (.int (x + y) :: r) h) ∧
  (∀ (l0 l1 l2 l3 : Option Value) (i : Int32) (a : Nat) (r : List Value) (h : zH) (hx : ziok a (h.2.2 a) i = true), zD 165 760 [l0, l1, l2, l3] (.int i :: .ref a :: r) h = zD 165 761 [l0, l1, l2, l3] (.int (ziv (h.2.2 a) i) :: r) h) ∧
  (∀ (l0 l1 l2 l3 : Option Value) (p0 : Int32) (a : Nat) (r : List Value) (h : zH) (hcat : zcat r ≤ 8) (hr : zis (h.2.2 a) 9 = true) (hC : (zC 146 (.ref a :: [.int p0]) h).isSome = true), zD 165 761 [l0, l1, l2, l3] (.int p0 :: .ref a :: r) h = zD 165 764 [l0, l1, l2, l3] (zgv (zC 146 (.ref a :: [.int p0]) h) ++ r) (zgh h (zC 146 (.ref a :: [.int p0]) h))) ∧
  (∀ (l0 l1 l2 l3 : Option Value) (x y : Int32) (r : List Value) (h : zH), zD 165 764 [l0, l1, l2, l3] (.int y :: .int x :: r) h = if x = y then zD 165 905 [l0, l1, l2, l3] r h else zD 165 767 [l0, l1, l2, l3] r h) ∧
  (∀ (l0 l1 l2 l3 : Option Value) (S : List Value) (h : zH), zD 165 767 [l0, l1, l2, l3] S h = zD 165 768 [l0, l1, l2, l3] (.int (0 : Int32) :: S) h) ∧
  (∀ (l0 l1 l2 l3 : Option Value) (v : Int32) (h : zH) (hv : zbv v), zD 165 768 [l0, l1, l2, l3] [.int v] h = some (some (.int v), h)) ∧
  (∀ (l0 l2 l3 : Option Value) (x : Nat) (S : List Value) (h : zH), zD 165 769 [l0, some (.ref x), l2, l3] S h = zD 165 770 [l0, some (.ref x), l2, l3] (.ref x :: S) h) ∧
  (∀ (l0 l2 l3 : Option Value) (S : List Value) (h : zH), zD 165 769 [l0, some .null, l2, l3] S h = zD 165 770 [l0, some .null, l2, l3] (.null :: S) h) ∧
  (∀ (l1 l2 l3 : Option Value) (x : Nat) (S : List Value) (h : zH), zD 165 770 [some (.ref x), l1, l2, l3] S h = zD 165 771 [some (.ref x), l1, l2, l3] (.ref x :: S) h) ∧
  (∀ (l0 l1 l2 : Option Value) (x : Int32) (S : List Value) (h : zH), zD 165 771 [l0, l1, l2, some (.int x)] S h = zD 165 772 [l0, l1, l2, some (.int x)] (.int x :: S) h) ∧
  (∀ (l0 l1 l2 l3 : Option Value) (S : List Value) (h : zH), zD 165 772 [l0, l1, l2, l3] S h = zD 165 773 [l0, l1, l2, l3] (.int (1 : Int32) :: S) h) ∧
  (∀ (l0 l1 l2 l3 : Option Value) (x y : Int32) (r : List Value) (h : zH), zD 165 773 [l0, l1, l2, l3] (.int y :: .int x :: r) h = zD 165 774 [l0, l1, l2, l3] (.int (x + y) :: r) h) ∧
  (∀ (l0 l1 l2 l3 : Option Value) (i : Int32) (a : Nat) (r : List Value) (h : zH) (hx : ziok a (h.2.2 a) i = true), zD 165 774 [l0, l1, l2, l3] (.int i :: .ref a :: r) h = zD 165 775 [l0, l1, l2, l3] (.int (ziv (h.2.2 a) i) :: r) h) ∧
  (∀ (l1 l2 l3 : Option Value) (x : Nat) (S : List Value) (h : zH), zD 165 775 [some (.ref x), l1, l2, l3] S h = zD 165 776 [some (.ref x), l1, l2, l3] (.ref x :: S) h) ∧
  (∀ (l0 l1 l2 : Option Value) (x : Int32) (S : List Value) (h : zH), zD 165 776 [l0, l1, l2, some (.int x)] S h = zD 165 777 [l0, l1, l2, some (.int x)] (.int x :: S) h) ∧
  (∀ (l0 l1 l2 l3 : Option Value) (S : List Value) (h : zH), zD 165 777 [l0, l1, l2, l3] S h = zD 165 778 [l0, l1, l2, l3] (.int (2 : Int32) :: S) h) ∧
  (∀ (l0 l1 l2 l3 : Option Value) (x y : Int32) (r : List Value) (h : zH), zD 165 778 [l0, l1, l2, l3] (.int y :: .int x :: r) h = zD 165 779 [l0, l1, l2, l3] (.int (x + y) :: r) h) ∧
  (∀ (l0 l1 l2 l3 : Option Value) (i : Int32) (a : Nat) (r : List Value) (h : zH) (hx : ziok a (h.2.2 a) i = true), zD 165 779 [l0, l1, l2, l3] (.int i :: .ref a :: r) h = zD 165 780 [l0, l1, l2, l3] (.int (ziv (h.2.2 a) i) :: r) h) ∧
  (∀ (l0 l1 l2 l3 : Option Value) (p0 : Int32) (p1 : Int32) (a : Nat) (r : List Value) (h : zH) (hcat : zcat r ≤ 8) (hr : zis (h.2.2 a) 8 = true) (hC : (zC 164 (.ref a :: [.int p0, .int p1]) h).isSome = true), zD 165 780 [l0, l1, l2, l3] (.int p1 :: .int p0 :: .ref a :: r) h = zD 165 783 [l0, l1, l2, l3] (zgv (zC 164 (.ref a :: [.int p0, .int p1]) h) ++ r) (zgh h (zC 164 (.ref a :: [.int p0, .int p1]) h))) ∧
  (∀ (l0 l1 l3 : Option Value) (x : Nat) (S : List Value) (h : zH), zD 165 783 [l0, l1, some (.ref x), l3] S h = zD 165 784 [l0, l1, some (.ref x), l3] (.ref x :: S) h) ∧
  (∀ (l0 l1 l3 : Option Value) (S : List Value) (h : zH), zD 165 783 [l0, l1, some .null, l3] S h = zD 165 784 [l0, l1, some .null, l3] (.null :: S) h) ∧
  (∀ (l1 l2 l3 : Option Value) (x : Nat) (S : List Value) (h : zH), zD 165 784 [some (.ref x), l1, l2, l3] S h = zD 165 785 [some (.ref x), l1, l2, l3] (.ref x :: S) h) ∧
  (∀ (l0 l1 l2 : Option Value) (x : Int32) (S : List Value) (h : zH), zD 165 785 [l0, l1, l2, some (.int x)] S h = zD 165 786 [l0, l1, l2, some (.int x)] (.int x :: S) h) ∧
  (∀ (l0 l1 l2 l3 : Option Value) (S : List Value) (h : zH), zD 165 786 [l0, l1, l2, l3] S h = zD 165 787 [l0, l1, l2, l3] (.int (1 : Int32) :: S) h) ∧
  (∀ (l0 l1 l2 l3 : Option Value) (x y : Int32) (r : List Value) (h : zH), zD 165 787 [l0, l1, l2, l3] (.int y :: .int x :: r) h = zD 165 788 [l0, l1, l2, l3] (.int (x + y) :: r) h) ∧
  (∀ (l0 l1 l2 l3 : Option Value) (i : Int32) (a : Nat) (r : List Value) (h : zH) (hx : ziok a (h.2.2 a) i = true), zD 165 788 [l0, l1, l2, l3] (.int i :: .ref a :: r) h = zD 165 789 [l0, l1, l2, l3] (.int (ziv (h.2.2 a) i) :: r) h) ∧
  (∀ (l1 l2 l3 : Option Value) (x : Nat) (S : List Value) (h : zH), zD 165 789 [some (.ref x), l1, l2, l3] S h = zD 165 790 [some (.ref x), l1, l2, l3] (.ref x :: S) h) ∧
  (∀ (l0 l1 l2 : Option Value) (x : Int32) (S : List Value) (h : zH), zD 165 790 [l0, l1, l2, some (.int x)] S h = zD 165 791 [l0, l1, l2, some (.int x)] (.int x :: S) h) ∧
  (∀ (l0 l1 l2 l3 : Option Value) (S : List Value) (h : zH), zD 165 791 [l0, l1, l2, l3] S h = zD 165 792 [l0, l1, l2, l3] (.int (2 : Int32) :: S) h) ∧
  (∀ (l0 l1 l2 l3 : Option Value) (x y : Int32) (r : List Value) (h : zH), zD 165 792 [l0, l1, l2, l3] (.int y :: .int x :: r) h = zD 165 793 [l0, l1, l2, l3] (.int (x + y) :: r) h) ∧
  (∀ (l0 l1 l2 l3 : Option Value) (i : Int32) (a : Nat) (r : List Value) (h : zH) (hx : ziok a (h.2.2 a) i = true), zD 165 793 [l0, l1, l2, l3] (.int i :: .ref a :: r) h = zD 165 794 [l0, l1, l2, l3] (.int (ziv (h.2.2 a) i) :: r) h) ∧
  (∀ (l0 l1 l2 l3 : Option Value) (p0 : Int32) (p1 : Int32) (a : Nat) (r : List Value) (h : zH) (hcat : zcat r ≤ 8) (hr : zis (h.2.2 a) 9 = true) (hC : (zC 147 (.ref a :: [.int p0, .int p1]) h).isSome = true), zD 165 794 [l0, l1, l2, l3] (.int p1 :: .int p0 :: .ref a :: r) h = zD 165 797 [l0, l1, l2, l3] (zgv (zC 147 (.ref a :: [.int p0, .int p1]) h) ++ r) (zgh h (zC 147 (.ref a :: [.int p0, .int p1]) h))) ∧
  (∀ (l0 l1 l2 l3 : Option Value) (x y : Int32) (r : List Value) (h : zH), zD 165 797 [l0, l1, l2, l3] (.int y :: .int x :: r) h = if x = y then zD 165 905 [l0, l1, l2, l3] r h else zD 165 800 [l0, l1, l2, l3] r h) ∧
  (∀ (l0 l1 l2 l3 : Option Value) (S : List Value) (h : zH), zD 165 800 [l0, l1, l2, l3] S h = zD 165 801 [l0, l1, l2, l3] (.int (0 : Int32) :: S) h) ∧
  (∀ (l0 l1 l2 l3 : Option Value) (v : Int32) (h : zH) (hv : zbv v), zD 165 801 [l0, l1, l2, l3] [.int v] h = some (some (.int v), h)) ∧
  (∀ (l0 l2 l3 : Option Value) (x : Nat) (S : List Value) (h : zH), zD 165 802 [l0, some (.ref x), l2, l3] S h = zD 165 803 [l0, some (.ref x), l2, l3] (.ref x :: S) h) ∧
  (∀ (l0 l2 l3 : Option Value) (S : List Value) (h : zH), zD 165 802 [l0, some .null, l2, l3] S h = zD 165 803 [l0, some .null, l2, l3] (.null :: S) h) ∧
  (∀ (l1 l2 l3 : Option Value) (x : Nat) (S : List Value) (h : zH), zD 165 803 [some (.ref x), l1, l2, l3] S h = zD 165 804 [some (.ref x), l1, l2, l3] (.ref x :: S) h) ∧
  (∀ (l0 l1 l2 : Option Value) (x : Int32) (S : List Value) (h : zH), zD 165 804 [l0, l1, l2, some (.int x)] S h = zD 165 805 [l0, l1, l2, some (.int x)] (.int x :: S) h) ∧
  (∀ (l0 l1 l2 l3 : Option Value) (S : List Value) (h : zH), zD 165 805 [l0, l1, l2, l3] S h = zD 165 806 [l0, l1, l2, l3] (.int (1 : Int32) :: S) h) ∧
  (∀ (l0 l1 l2 l3 : Option Value) (x y : Int32) (r : List Value) (h : zH), zD 165 806 [l0, l1, l2, l3] (.int y :: .int x :: r) h = zD 165 807 [l0, l1, l2, l3] (.int (x + y) :: r) h) ∧
  (∀ (l0 l1 l2 l3 : Option Value) (i : Int32) (a : Nat) (r : List Value) (h : zH) (hx : ziok a (h.2.2 a) i = true), zD 165 807 [l0, l1, l2, l3] (.int i :: .ref a :: r) h = zD 165 808 [l0, l1, l2, l3] (.int (ziv (h.2.2 a) i) :: r) h) ∧
  (∀ (l1 l2 l3 : Option Value) (x : Nat) (S : List Value) (h : zH), zD 165 808 [some (.ref x), l1, l2, l3] S h = zD 165 809 [some (.ref x), l1, l2, l3] (.ref x :: S) h) ∧
  (∀ (l0 l1 l2 : Option Value) (x : Int32) (S : List Value) (h : zH), zD 165 809 [l0, l1, l2, some (.int x)] S h = zD 165 810 [l0, l1, l2, some (.int x)] (.int x :: S) h) ∧
  (∀ (l0 l1 l2 l3 : Option Value) (S : List Value) (h : zH), zD 165 810 [l0, l1, l2, l3] S h = zD 165 811 [l0, l1, l2, l3] (.int (2 : Int32) :: S) h) ∧
  (∀ (l0 l1 l2 l3 : Option Value) (x y : Int32) (r : List Value) (h : zH), zD 165 811 [l0, l1, l2, l3] (.int y :: .int x :: r) h = zD 165 812 [l0, l1, l2, l3] (.int (x + y) :: r) h) ∧
  (∀ (l0 l1 l2 l3 : Option Value) (i : Int32) (a : Nat) (r : List Value) (h : zH) (hx : ziok a (h.2.2 a) i = true), zD 165 812 [l0, l1, l2, l3] (.int i :: .ref a :: r) h = zD 165 813 [l0, l1, l2, l3] (.int (ziv (h.2.2 a) i) :: r) h) ∧
  (∀ (l0 l1 l2 l3 : Option Value) (p0 : Int32) (p1 : Int32) (a : Nat) (r : List Value) (h : zH) (hcat : zcat r ≤ 8) (hr : zis (h.2.2 a) 8 = true) (hC : (zC 157 (.ref a :: [.int p0, .int p1]) h).isSome = true), zD 165 813 [l0, l1, l2, l3] (.int p1 :: .int p0 :: .ref a :: r) h = zD 165 816 [l0, l1, l2, l3] (zgv (zC 157 (.ref a :: [.int p0, .int p1]) h) ++ r) (zgh h (zC 157 (.ref a :: [.int p0, .int p1]) h))) ∧
  (∀ (l0 l1 l3 : Option Value) (x : Nat) (S : List Value) (h : zH), zD 165 816 [l0, l1, some (.ref x), l3] S h = zD 165 817 [l0, l1, some (.ref x), l3] (.ref x :: S) h) ∧
  (∀ (l0 l1 l3 : Option Value) (S : List Value) (h : zH), zD 165 816 [l0, l1, some .null, l3] S h = zD 165 817 [l0, l1, some .null, l3] (.null :: S) h) ∧
  (∀ (l1 l2 l3 : Option Value) (x : Nat) (S : List Value) (h : zH), zD 165 817 [some (.ref x), l1, l2, l3] S h = zD 165 818 [some (.ref x), l1, l2, l3] (.ref x :: S) h) ∧
  (∀ (l0 l1 l2 : Option Value) (x : Int32) (S : List Value) (h : zH), zD 165 818 [l0, l1, l2, some (.int x)] S h = zD 165 819 [l0, l1, l2, some (.int x)] (.int x :: S) h) ∧
  (∀ (l0 l1 l2 l3 : Option Value) (S : List Value) (h : zH), zD 165 819 [l0, l1, l2, l3] S h = zD 165 820 [l0, l1, l2, l3] (.int (1 : Int32) :: S) h) ∧
  (∀ (l0 l1 l2 l3 : Option Value) (x y : Int32) (r : List Value) (h : zH), zD 165 820 [l0, l1, l2, l3] (.int y :: .int x :: r) h = zD 165 821 [l0, l1, l2, l3] (.int (x + y) :: r) h) ∧
  (∀ (l0 l1 l2 l3 : Option Value) (i : Int32) (a : Nat) (r : List Value) (h : zH) (hx : ziok a (h.2.2 a) i = true), zD 165 821 [l0, l1, l2, l3] (.int i :: .ref a :: r) h = zD 165 822 [l0, l1, l2, l3] (.int (ziv (h.2.2 a) i) :: r) h) ∧
  (∀ (l1 l2 l3 : Option Value) (x : Nat) (S : List Value) (h : zH), zD 165 822 [some (.ref x), l1, l2, l3] S h = zD 165 823 [some (.ref x), l1, l2, l3] (.ref x :: S) h) ∧
  (∀ (l0 l1 l2 : Option Value) (x : Int32) (S : List Value) (h : zH), zD 165 823 [l0, l1, l2, some (.int x)] S h = zD 165 824 [l0, l1, l2, some (.int x)] (.int x :: S) h) ∧
  (∀ (l0 l1 l2 l3 : Option Value) (S : List Value) (h : zH), zD 165 824 [l0, l1, l2, l3] S h = zD 165 825 [l0, l1, l2, l3] (.int (2 : Int32) :: S) h) ∧
  (∀ (l0 l1 l2 l3 : Option Value) (x y : Int32) (r : List Value) (h : zH), zD 165 825 [l0, l1, l2, l3] (.int y :: .int x :: r) h = zD 165 826 [l0, l1, l2, l3] (.int (x + y) :: r) h) ∧
  (∀ (l0 l1 l2 l3 : Option Value) (i : Int32) (a : Nat) (r : List Value) (h : zH) (hx : ziok a (h.2.2 a) i = true), zD 165 826 [l0, l1, l2, l3] (.int i :: .ref a :: r) h = zD 165 827 [l0, l1, l2, l3] (.int (ziv (h.2.2 a) i) :: r) h) ∧
  (∀ (l0 l1 l2 l3 : Option Value) (p0 : Int32) (p1 : Int32) (a : Nat) (r : List Value) (h : zH) (hcat : zcat r ≤ 8) (hr : zis (h.2.2 a) 9 = true) (hC : (zC 148 (.ref a :: [.int p0, .int p1]) h).isSome = true), zD 165 827 [l0, l1, l2, l3] (.int p1 :: .int p0 :: .ref a :: r) h = zD 165 830 [l0, l1, l2, l3] (zgv (zC 148 (.ref a :: [.int p0, .int p1]) h) ++ r) (zgh h (zC 148 (.ref a :: [.int p0, .int p1]) h))) ∧
  (∀ (l0 l1 l2 l3 : Option Value) (x y : Int32) (r : List Value) (h : zH), zD 165 830 [l0, l1, l2, l3] (.int y :: .int x :: r) h = if x = y then zD 165 905 [l0, l1, l2, l3] r h else zD 165 833 [l0, l1, l2, l3] r h) ∧
  (∀ (l0 l1 l2 l3 : Option Value) (S : List Value) (h : zH), zD 165 833 [l0, l1, l2, l3] S h = zD 165 834 [l0, l1, l2, l3] (.int (0 : Int32) :: S) h) ∧
  (∀ (l0 l1 l2 l3 : Option Value) (v : Int32) (h : zH) (hv : zbv v), zD 165 834 [l0, l1, l2, l3] [.int v] h = some (some (.int v), h)) ∧
  (∀ (l0 l2 l3 : Option Value) (x : Nat) (S : List Value) (h : zH), zD 165 835 [l0, some (.ref x), l2, l3] S h = zD 165 836 [l0, some (.ref x), l2, l3] (.ref x :: S) h) ∧
  (∀ (l0 l2 l3 : Option Value) (S : List Value) (h : zH), zD 165 835 [l0, some .null, l2, l3] S h = zD 165 836 [l0, some .null, l2, l3] (.null :: S) h) ∧
  (∀ (l1 l2 l3 : Option Value) (x : Nat) (S : List Value) (h : zH), zD 165 836 [some (.ref x), l1, l2, l3] S h = zD 165 837 [some (.ref x), l1, l2, l3] (.ref x :: S) h) ∧
  (∀ (l0 l1 l2 : Option Value) (x : Int32) (S : List Value) (h : zH), zD 165 837 [l0, l1, l2, some (.int x)] S h = zD 165 838 [l0, l1, l2, some (.int x)] (.int x :: S) h) ∧
  (∀ (l0 l1 l2 l3 : Option Value) (S : List Value) (h : zH), zD 165 838 [l0, l1, l2, l3] S h = zD 165 839 [l0, l1, l2, l3] (.int (1 : Int32) :: S) h) ∧
  (∀ (l0 l1 l2 l3 : Option Value) (x y : Int32) (r : List Value) (h : zH), zD 165 839 [l0, l1, l2, l3] (.int y :: .int x :: r) h = zD 165 840 [l0, l1, l2, l3] (.int (x + y) :: r) h) ∧
  (∀ (l0 l1 l2 l3 : Option Value) (i : Int32) (a : Nat) (r : List Value) (h : zH) (hx : ziok a (h.2.2 a) i = true), zD 165 840 [l0, l1, l2, l3] (.int i :: .ref a :: r) h = zD 165 841 [l0, l1, l2, l3] (.int (ziv (h.2.2 a) i) :: r) h) ∧
  (∀ (l1 l2 l3 : Option Value) (x : Nat) (S : List Value) (h : zH), zD 165 841 [some (.ref x), l1, l2, l3] S h = zD 165 842 [some (.ref x), l1, l2, l3] (.ref x :: S) h) ∧
  (∀ (l0 l1 l2 : Option Value) (x : Int32) (S : List Value) (h : zH), zD 165 842 [l0, l1, l2, some (.int x)] S h = zD 165 843 [l0, l1, l2, some (.int x)] (.int x :: S) h) ∧
  (∀ (l0 l1 l2 l3 : Option Value) (S : List Value) (h : zH), zD 165 843 [l0, l1, l2, l3] S h = zD 165 844 [l0, l1, l2, l3] (.int (2 : Int32) :: S) h) ∧
  (∀ (l0 l1 l2 l3 : Option Value) (x y : Int32) (r : List Value) (h : zH), zD 165 844 [l0, l1, l2, l3] (.int y :: .int x :: r) h = zD 165 845 [l0, l1, l2, l3] (.int (x + y) :: r) h) ∧
  (∀ (l0 l1 l2 l3 : Option Value) (i : Int32) (a : Nat) (r : List Value) (h : zH) (hx : ziok a (h.2.2 a) i = true), zD 165 845 [l0, l1, l2, l3] (.int i :: .ref a :: r) h = zD 165 846 [l0, l1, l2, l3] (.int (ziv (h.2.2 a) i) :: r) h) ∧
  (∀ (l0 l1 l2 l3 : Option Value) (p0 : Int32) (p1 : Int32) (a : Nat) (r : List Value) (h : zH) (hcat : zcat r ≤ 8) (hr : zis (h.2.2 a) 8 = true) (hC : (zC 158 (.ref a :: [.int p0, .int p1]) h).isSome = true), zD 165 846 [l0, l1, l2, l3] (.int p1 :: .int p0 :: .ref a :: r) h = zD 165 849 [l0, l1, l2, l3] (zgv (zC 158 (.ref a :: [.int p0, .int p1]) h) ++ r) (zgh h (zC 158 (.ref a :: [.int p0, .int p1]) h))) ∧
  (∀ (l0 l1 l3 : Option Value) (x : Nat) (S : List Value) (h : zH), zD 165 849 [l0, l1, some (.ref x), l3] S h = zD 165 850 [l0, l1, some (.ref x), l3] (.ref x :: S) h) ∧
  (∀ (l0 l1 l3 : Option Value) (S : List Value) (h : zH), zD 165 849 [l0, l1, some .null, l3] S h = zD 165 850 [l0, l1, some .null, l3] (.null :: S) h) ∧
  (∀ (l1 l2 l3 : Option Value) (x : Nat) (S : List Value) (h : zH), zD 165 850 [some (.ref x), l1, l2, l3] S h = zD 165 851 [some (.ref x), l1, l2, l3] (.ref x :: S) h) ∧
  (∀ (l0 l1 l2 : Option Value) (x : Int32) (S : List Value) (h : zH), zD 165 851 [l0, l1, l2, some (.int x)] S h = zD 165 852 [l0, l1, l2, some (.int x)] (.int x :: S) h) ∧
  (∀ (l0 l1 l2 l3 : Option Value) (S : List Value) (h : zH), zD 165 852 [l0, l1, l2, l3] S h = zD 165 853 [l0, l1, l2, l3] (.int (1 : Int32) :: S) h) ∧
  (∀ (l0 l1 l2 l3 : Option Value) (x y : Int32) (r : List Value) (h : zH), zD 165 853 [l0, l1, l2, l3] (.int y :: .int x :: r) h = zD 165 854 [l0, l1, l2, l3] (.int (x + y) :: r) h) ∧
  (∀ (l0 l1 l2 l3 : Option Value) (i : Int32) (a : Nat) (r : List Value) (h : zH) (hx : ziok a (h.2.2 a) i = true), zD 165 854 [l0, l1, l2, l3] (.int i :: .ref a :: r) h = zD 165 855 [l0, l1, l2, l3] (.int (ziv (h.2.2 a) i) :: r) h) ∧
  (∀ (l1 l2 l3 : Option Value) (x : Nat) (S : List Value) (h : zH), zD 165 855 [some (.ref x), l1, l2, l3] S h = zD 165 856 [some (.ref x), l1, l2, l3] (.ref x :: S) h) ∧
  (∀ (l0 l1 l2 : Option Value) (x : Int32) (S : List Value) (h : zH), zD 165 856 [l0, l1, l2, some (.int x)] S h = zD 165 857 [l0, l1, l2, some (.int x)] (.int x :: S) h) ∧
  (∀ (l0 l1 l2 l3 : Option Value) (S : List Value) (h : zH), zD 165 857 [l0, l1, l2, l3] S h = zD 165 858 [l0, l1, l2, l3] (.int (2 : Int32) :: S) h) ∧
  (∀ (l0 l1 l2 l3 : Option Value) (x y : Int32) (r : List Value) (h : zH), zD 165 858 [l0, l1, l2, l3] (.int y :: .int x :: r) h = zD 165 859 [l0, l1, l2, l3] (.int (x + y) :: r) h) ∧
  (∀ (l0 l1 l2 l3 : Option Value) (i : Int32) (a : Nat) (r : List Value) (h : zH) (hx : ziok a (h.2.2 a) i = true), zD 165 859 [l0, l1, l2, l3] (.int i :: .ref a :: r) h = zD 165 860 [l0, l1, l2, l3] (.int (ziv (h.2.2 a) i) :: r) h) ∧
  (∀ (l0 l1 l2 l3 : Option Value) (p0 : Int32) (p1 : Int32) (a : Nat) (r : List Value) (h : zH) (hcat : zcat r ≤ 8) (hr : zis (h.2.2 a) 9 = true) (hC : (zC 149 (.ref a :: [.int p0, .int p1]) h).isSome = true), zD 165 860 [l0, l1, l2, l3] (.int p1 :: .int p0 :: .ref a :: r) h = zD 165 863 [l0, l1, l2, l3] (zgv (zC 149 (.ref a :: [.int p0, .int p1]) h) ++ r) (zgh h (zC 149 (.ref a :: [.int p0, .int p1]) h))) ∧
  (∀ (l0 l1 l2 l3 : Option Value) (x y : Int32) (r : List Value) (h : zH), zD 165 863 [l0, l1, l2, l3] (.int y :: .int x :: r) h = if x = y then zD 165 905 [l0, l1, l2, l3] r h else zD 165 866 [l0, l1, l2, l3] r h) ∧
  (∀ (l0 l1 l2 l3 : Option Value) (S : List Value) (h : zH), zD 165 866 [l0, l1, l2, l3] S h = zD 165 867 [l0, l1, l2, l3] (.int (0 : Int32) :: S) h) ∧
  (∀ (l0 l1 l2 l3 : Option Value) (v : Int32) (h : zH) (hv : zbv v), zD 165 867 [l0, l1, l2, l3] [.int v] h = some (some (.int v), h)) ∧
  (∀ (l0 l2 l3 : Option Value) (x : Nat) (S : List Value) (h : zH), zD 165 868 [l0, some (.ref x), l2, l3] S h = zD 165 869 [l0, some (.ref x), l2, l3] (.ref x :: S) h) ∧
  (∀ (l0 l2 l3 : Option Value) (S : List Value) (h : zH), zD 165 868 [l0, some .null, l2, l3] S h = zD 165 869 [l0, some .null, l2, l3] (.null :: S) h) ∧
  (∀ (l1 l2 l3 : Option Value) (x : Nat) (S : List Value) (h : zH), zD 165 869 [some (.ref x), l1, l2, l3] S h = zD 165 870 [some (.ref x), l1, l2, l3] (.ref x :: S) h) ∧
  (∀ (l0 l1 l2 : Option Value) (x : Int32) (S : List Value) (h : zH), zD 165 870 [l0, l1, l2, some (.int x)] S h = zD 165 871 [l0, l1, l2, some (.int x)] (.int x :: S) h) ∧
  (∀ (l0 l1 l2 l3 : Option Value) (S : List Value) (h : zH), zD 165 871 [l0, l1, l2, l3] S h = zD 165 872 [l0, l1, l2, l3] (.int (1 : Int32) :: S) h) ∧
  (∀ (l0 l1 l2 l3 : Option Value) (x y : Int32) (r : List Value) (h : zH), zD 165 872 [l0, l1, l2, l3] (.int y :: .int x :: r) h = zD 165 873 [l0, l1, l2, l3] (.int (x + y) :: r) h) ∧
  (∀ (l0 l1 l2 l3 : Option Value) (i : Int32) (a : Nat) (r : List Value) (h : zH) (hx : ziok a (h.2.2 a) i = true), zD 165 873 [l0, l1, l2, l3] (.int i :: .ref a :: r) h = zD 165 874 [l0, l1, l2, l3] (.int (ziv (h.2.2 a) i) :: r) h) ∧
  (∀ (l0 l1 l2 l3 : Option Value) (p0 : Int32) (a : Nat) (r : List Value) (h : zH) (hcat : zcat r ≤ 8) (hr : zis (h.2.2 a) 8 = true) (hC : (zC 73 (.ref a :: [.int p0]) h).isSome = true), zD 165 874 [l0, l1, l2, l3] (.int p0 :: .ref a :: r) h = zD 165 877 [l0, l1, l2, l3] (zgv (zC 73 (.ref a :: [.int p0]) h) ++ r) (zgh h (zC 73 (.ref a :: [.int p0]) h))) ∧
  (∀ (l0 l1 l3 : Option Value) (x : Nat) (S : List Value) (h : zH), zD 165 877 [l0, l1, some (.ref x), l3] S h = zD 165 878 [l0, l1, some (.ref x), l3] (.ref x :: S) h) ∧
  (∀ (l0 l1 l3 : Option Value) (S : List Value) (h : zH), zD 165 877 [l0, l1, some .null, l3] S h = zD 165 878 [l0, l1, some .null, l3] (.null :: S) h) ∧
  (∀ (l1 l2 l3 : Option Value) (x : Nat) (S : List Value) (h : zH), zD 165 878 [some (.ref x), l1, l2, l3] S h = zD 165 879 [some (.ref x), l1, l2, l3] (.ref x :: S) h) ∧
  (∀ (l0 l1 l2 : Option Value) (x : Int32) (S : List Value) (h : zH), zD 165 879 [l0, l1, l2, some (.int x)] S h = zD 165 880 [l0, l1, l2, some (.int x)] (.int x :: S) h) ∧
  (∀ (l0 l1 l2 l3 : Option Value) (S : List Value) (h : zH), zD 165 880 [l0, l1, l2, l3] S h = zD 165 881 [l0, l1, l2, l3] (.int (1 : Int32) :: S) h) ∧
  (∀ (l0 l1 l2 l3 : Option Value) (x y : Int32) (r : List Value) (h : zH), zD 165 881 [l0, l1, l2, l3] (.int y :: .int x :: r) h = zD 165 882 [l0, l1, l2, l3] (.int (x + y) :: r) h) ∧
  (∀ (l0 l1 l2 l3 : Option Value) (i : Int32) (a : Nat) (r : List Value) (h : zH) (hx : ziok a (h.2.2 a) i = true), zD 165 882 [l0, l1, l2, l3] (.int i :: .ref a :: r) h = zD 165 883 [l0, l1, l2, l3] (.int (ziv (h.2.2 a) i) :: r) h) ∧
  (∀ (l0 l1 l2 l3 : Option Value) (p0 : Int32) (a : Nat) (r : List Value) (h : zH) (hcat : zcat r ≤ 8) (hr : zis (h.2.2 a) 9 = true) (hC : (zC 38 (.ref a :: [.int p0]) h).isSome = true), zD 165 883 [l0, l1, l2, l3] (.int p0 :: .ref a :: r) h = zD 165 886 [l0, l1, l2, l3] (zgv (zC 38 (.ref a :: [.int p0]) h) ++ r) (zgh h (zC 38 (.ref a :: [.int p0]) h))) ∧
  (∀ (l0 l1 l2 l3 : Option Value) (x y : Int32) (r : List Value) (h : zH), zD 165 886 [l0, l1, l2, l3] (.int y :: .int x :: r) h = if x = y then zD 165 905 [l0, l1, l2, l3] r h else zD 165 889 [l0, l1, l2, l3] r h) ∧
  (∀ (l0 l1 l2 l3 : Option Value) (S : List Value) (h : zH), zD 165 889 [l0, l1, l2, l3] S h = zD 165 890 [l0, l1, l2, l3] (.int (0 : Int32) :: S) h) ∧
  (∀ (l0 l1 l2 l3 : Option Value) (v : Int32) (h : zH) (hv : zbv v), zD 165 890 [l0, l1, l2, l3] [.int v] h = some (some (.int v), h)) ∧
  (∀ (l0 l2 l3 : Option Value) (x : Nat) (S : List Value) (h : zH), zD 165 891 [l0, some (.ref x), l2, l3] S h = zD 165 892 [l0, some (.ref x), l2, l3] (.ref x :: S) h) ∧
  (∀ (l0 l2 l3 : Option Value) (S : List Value) (h : zH), zD 165 891 [l0, some .null, l2, l3] S h = zD 165 892 [l0, some .null, l2, l3] (.null :: S) h) ∧
  (∀ (l0 l1 l2 l3 : Option Value) (a : Nat) (r : List Value) (h : zH) (hcat : zcat r ≤ 8) (hr : zis (h.2.2 a) 8 = true) (hC : (zC 112 [.ref a] h).isSome = true), zD 165 892 [l0, l1, l2, l3] (.ref a :: r) h = zD 165 895 [l0, l1, l2, l3] (zgv (zC 112 [.ref a] h) ++ r) (zgh h (zC 112 [.ref a] h))) ∧
  (∀ (l0 l1 l3 : Option Value) (x : Nat) (S : List Value) (h : zH), zD 165 895 [l0, l1, some (.ref x), l3] S h = zD 165 896 [l0, l1, some (.ref x), l3] (.ref x :: S) h) ∧
  (∀ (l0 l1 l3 : Option Value) (S : List Value) (h : zH), zD 165 895 [l0, l1, some .null, l3] S h = zD 165 896 [l0, l1, some .null, l3] (.null :: S) h) ∧
  (∀ (l0 l1 l2 l3 : Option Value) (a : Nat) (r : List Value) (h : zH) (hcat : zcat r ≤ 8) (hr : zis (h.2.2 a) 9 = true) (hC : (zC 86 [.ref a] h).isSome = true), zD 165 896 [l0, l1, l2, l3] (.ref a :: r) h = zD 165 899 [l0, l1, l2, l3] (zgv (zC 86 [.ref a] h) ++ r) (zgh h (zC 86 [.ref a] h))) ∧
  (∀ (l0 l1 l2 l3 : Option Value) (x y : Int64) (r : List Value) (h : zH), zD 165 899 [l0, l1, l2, l3] (.long y :: .long x :: r) h = zD 165 900 [l0, l1, l2, l3] (.int (lg_cmp x y) :: r) h) ∧
  (∀ (l0 l1 l2 l3 : Option Value) (x : Int32) (r : List Value) (h : zH), zD 165 900 [l0, l1, l2, l3] (.int x :: r) h = if x = 0 then zD 165 905 [l0, l1, l2, l3] r h else zD 165 903 [l0, l1, l2, l3] r h) ∧
  (∀ (l0 l1 l2 l3 : Option Value) (S : List Value) (h : zH), zD 165 903 [l0, l1, l2, l3] S h = zD 165 904 [l0, l1, l2, l3] (.int (0 : Int32) :: S) h) ∧
  (∀ (l0 l1 l2 l3 : Option Value) (v : Int32) (h : zH) (hv : zbv v), zD 165 904 [l0, l1, l2, l3] [.int v] h = some (some (.int v), h)) ∧
  (∀ (l0 l1 l2 : Option Value) (x : Int32) (S : List Value) (h : zH), zD 165 905 [l0, l1, l2, some (.int x)] S h = zD 165 908 [l0, l1, zclr l2, some (.int (x + (4 : Int32)))] S h) ∧
  (∀ (l0 l1 l2 l3 : Option Value) (S : List Value) (h : zH), zD 165 908 [l0, l1, l2, l3] S h = zD 165 18 [l0, l1, l2, l3] S h) ∧
  (∀ (l0 l1 l2 l3 : Option Value) (S : List Value) (h : zH), zD 165 911 [l0, l1, l2, l3] S h = zD 165 912 [l0, l1, l2, l3] (.int (1 : Int32) :: S) h) ∧
  (∀ (l0 l1 l2 l3 : Option Value) (v : Int32) (h : zH) (hv : zbv v), zD 165 912 [l0, l1, l2, l3] [.int v] h = some (some (.int v), h)) :=
  ⟨fun l0 l1 l2 l3 S h => zD_new (i := 7) (ci := 8) (q := (56, 57, 41)) (by decide +kernel) (by decide +kernel) rfl rfl,
  fun l0 l1 l2 l3 x r h => zD_op (ins := .dup) (len := 1) (c := (4, [l0, l1, l2, l3], (.int x :: .int x :: r), h)) (by decide +kernel) rfl rfl rfl rfl,
  fun l0 l1 l2 l3 x r h => zD_op (ins := .dup) (len := 1) (c := (4, [l0, l1, l2, l3], (.ref x :: .ref x :: r), h)) (by decide +kernel) rfl rfl rfl rfl,
  fun l0 l1 l2 l3 a r h hcat hC => zD_calli (i := 9) (y := 153) (n := 0) (as := []) (by decide +kernel) (by decide +kernel) rfl (by decide +kernel) (Nat.le_of_ble_eq_true rfl) hcat hC,
  fun l0 l1 l2 l3 x r h => zD_st1 (k := 1) (ins := .astore_n 1) (len := 1) (by decide +kernel) rfl rfl rfl (by decide +kernel) rfl rfl,
  fun l0 l1 l2 l3 r h => zD_st1 (k := 1) (ins := .astore_n 1) (len := 1) (by decide +kernel) rfl rfl rfl (by decide +kernel) rfl rfl,
  fun l0 l1 l2 l3 S h => zD_new (i := 10) (ci := 9) (q := (705, 706, 52)) (by decide +kernel) (by decide +kernel) rfl rfl,
  fun l0 l1 l2 l3 x r h => zD_op (ins := .dup) (len := 1) (c := (12, [l0, l1, l2, l3], (.int x :: .int x :: r), h)) (by decide +kernel) rfl rfl rfl rfl,
  fun l0 l1 l2 l3 x r h => zD_op (ins := .dup) (len := 1) (c := (12, [l0, l1, l2, l3], (.ref x :: .ref x :: r), h)) (by decide +kernel) rfl rfl rfl rfl,
  fun l0 l1 l2 l3 a r h hcat hC => zD_calli (i := 12) (y := 76) (n := 0) (as := []) (by decide +kernel) (by decide +kernel) rfl (by decide +kernel) (Nat.le_of_ble_eq_true rfl) hcat hC,
  fun l0 l1 l2 l3 x r h => zD_st1 (k := 2) (ins := .astore_n 2) (len := 1) (by decide +kernel) rfl rfl rfl (by decide +kernel) rfl rfl,
  fun l0 l1 l2 l3 r h => zD_st1 (k := 2) (ins := .astore_n 2) (len := 1) (by decide +kernel) rfl rfl rfl (by decide +kernel) rfl rfl,
  fun l0 l1 l2 l3 S h => zD_icst (n := 0) (by decide +kernel) (by decide +kernel),
  fun l0 l1 l2 l3 x r h => zD_st1 (k := 3) (ins := .istore_n 3) (len := 1) (by decide +kernel) rfl rfl rfl (by decide +kernel) rfl rfl,
  fun l1 l2 l3 x S h => zD_op (ins := .aload_n 0) (len := 1) (c := (20, [some (.ref x), l1, l2, l3], (.ref x :: S), h)) (by decide +kernel) rfl rfl rfl rfl,
  fun l0 l1 l2 l3 a r h hx => zD_alen (by decide +kernel) hx,
  fun l0 l1 l2 l3 S h => zD_icst (n := 4) (by decide +kernel) (by decide +kernel),
  fun l0 l1 l2 l3 x y r h => zD_op (ins := .isub) (len := 1) (c := (23, [l0, l1, l2, l3], (.int (x - y) :: r), h)) (by decide +kernel) rfl rfl rfl rfl,
  fun l0 l1 l2 l3 x y r h => zD_if (cnd := .gt) (off := 888) (by decide +kernel) (by decide) rfl,
  fun l1 l2 l3 x S h => zD_op (ins := .aload_n 0) (len := 1) (c := (27, [some (.ref x), l1, l2, l3], (.ref x :: S), h)) (by decide +kernel) rfl rfl rfl rfl,
  fun l0 l1 l2 x S h => zD_op (ins := .iload_n 3) (len := 1) (c := (28, [l0, l1, l2, some (.int x)], (.int x :: S), h)) (by decide +kernel) rfl rfl rfl rfl,
  fun l0 l1 l2 l3 i a r h hx => zD_iald (by decide +kernel) hx,
  fun l0 l1 l2 l3 S h => zD_bip (n := 31) (by decide +kernel) (by decide +kernel),
  fun l0 l1 l2 l3 x y r h => zD_op (ins := .iand) (len := 1) (c := (32, [l0, l1, l2, l3], (.int (x &&& y) :: r), h)) (by decide +kernel) rfl rfl rfl rfl,
  fun l0 l1 l2 l3 x t r h hx => zD_sw (len := 124) (by decide +kernel) hx,
  fun l0 l2 l3 x S h => zD_op (ins := .aload_n 1) (len := 1) (c := (157, [l0, some (.ref x), l2, l3], (.ref x :: S), h)) (by decide +kernel) rfl rfl rfl rfl,
  fun l0 l2 l3 S h => zD_op (ins := .aload_n 1) (len := 1) (c := (157, [l0, some .null, l2, l3], (.null :: S), h)) (by decide +kernel) rfl rfl rfl rfl,
  fun l1 l2 l3 x S h => zD_op (ins := .aload_n 0) (len := 1) (c := (158, [some (.ref x), l1, l2, l3], (.ref x :: S), h)) (by decide +kernel) rfl rfl rfl rfl,
  fun l0 l1 l2 x S h => zD_op (ins := .iload_n 3) (len := 1) (c := (159, [l0, l1, l2, some (.int x)], (.int x :: S), h)) (by decide +kernel) rfl rfl rfl rfl,
  fun l0 l1 l2 l3 S h => zD_icst (n := 1) (by decide +kernel) (by decide +kernel),
  fun l0 l1 l2 l3 x y r h => zD_op (ins := .iadd) (len := 1) (c := (161, [l0, l1, l2, l3], (.int (x + y) :: r), h)) (by decide +kernel) rfl rfl rfl rfl,
  fun l0 l1 l2 l3 i a r h hx => zD_iald (by decide +kernel) hx,
  fun l0 l1 l2 l3 p0 a r h hcat hr hC => zD_callv (i := 13) (y := 104) (n := 1) (as := [.int p0]) (ci := 8) (by decide +kernel) (by decide +kernel) rfl (by decide +kernel) (Nat.le_of_ble_eq_true rfl) (by decide +kernel) hcat hr hC,
  fun l0 l1 l3 x S h => zD_op (ins := .aload_n 2) (len := 1) (c := (166, [l0, l1, some (.ref x), l3], (.ref x :: S), h)) (by decide +kernel) rfl rfl rfl rfl,
  fun l0 l1 l3 S h => zD_op (ins := .aload_n 2) (len := 1) (c := (166, [l0, l1, some .null, l3], (.null :: S), h)) (by decide +kernel) rfl rfl rfl rfl,
  fun l1 l2 l3 x S h => zD_op (ins := .aload_n 0) (len := 1) (c := (167, [some (.ref x), l1, l2, l3], (.ref x :: S), h)) (by decide +kernel) rfl rfl rfl rfl,
  fun l0 l1 l2 x S h => zD_op (ins := .iload_n 3) (len := 1) (c := (168, [l0, l1, l2, some (.int x)], (.int x :: S), h)) (by decide +kernel) rfl rfl rfl rfl,
  fun l0 l1 l2 l3 S h => zD_icst (n := 1) (by decide +kernel) (by decide +kernel),
  fun l0 l1 l2 l3 x y r h => zD_op (ins := .iadd) (len := 1) (c := (170, [l0, l1, l2, l3], (.int (x + y) :: r), h)) (by decide +kernel) rfl rfl rfl rfl,
  fun l0 l1 l2 l3 i a r h hx => zD_iald (by decide +kernel) hx,
  fun l0 l1 l2 l3 p0 a r h hcat hr hC => zD_callv (i := 17) (y := 77) (n := 1) (as := [.int p0]) (ci := 9) (by decide +kernel) (by decide +kernel) rfl (by decide +kernel) (Nat.le_of_ble_eq_true rfl) (by decide +kernel) hcat hr hC,
  fun l0 l1 l2 l3 x y r h => zD_if (cnd := .eq) (off := 731) (by decide +kernel) (by decide) rfl,
  fun l0 l1 l2 l3 S h => zD_icst (n := 0) (by decide +kernel) (by decide +kernel),
  fun l0 l1 l2 l3 v h hv => zD_iretz (by decide +kernel) rfl hv,
  fun l0 l2 l3 x S h => zD_op (ins := .aload_n 1) (len := 1) (c := (180, [l0, some (.ref x), l2, l3], (.ref x :: S), h)) (by decide +kernel) rfl rfl rfl rfl,
  fun l0 l2 l3 S h => zD_op (ins := .aload_n 1) (len := 1) (c := (180, [l0, some .null, l2, l3], (.null :: S), h)) (by decide +kernel) rfl rfl rfl rfl,
  fun l1 l2 l3 x S h => zD_op (ins := .aload_n 0) (len := 1) (c := (181, [some (.ref x), l1, l2, l3], (.ref x :: S), h)) (by decide +kernel) rfl rfl rfl rfl,
  fun l0 l1 l2 x S h => zD_op (ins := .iload_n 3) (len := 1) (c := (182, [l0, l1, l2, some (.int x)], (.int x :: S), h)) (by decide +kernel) rfl rfl rfl rfl,
  fun l0 l1 l2 l3 S h => zD_icst (n := 1) (by decide +kernel) (by decide +kernel),
  fun l0 l1 l2 l3 x y r h => zD_op (ins := .iadd) (len := 1) (c := (184, [l0, l1, l2, l3], (.int (x + y) :: r), h)) (by decide +kernel) rfl rfl rfl rfl,
  fun l0 l1 l2 l3 i a r h hx => zD_iald (by decide +kernel) hx,
  fun l1 l2 l3 x S h => zD_op (ins := .aload_n 0) (len := 1) (c := (186, [some (.ref x), l1, l2, l3], (.ref x :: S), h)) (by decide +kernel) rfl rfl rfl rfl,
  fun l0 l1 l2 x S h => zD_op (ins := .iload_n 3) (len := 1) (c := (187, [l0, l1, l2, some (.int x)], (.int x :: S), h)) (by decide +kernel) rfl rfl rfl rfl,
  fun l0 l1 l2 l3 S h => zD_icst (n := 2) (by decide +kernel) (by decide +kernel),
  fun l0 l1 l2 l3 x y r h => zD_op (ins := .iadd) (len := 1) (c := (189, [l0, l1, l2, l3], (.int (x + y) :: r), h)) (by decide +kernel) rfl rfl rfl rfl,
  fun l0 l1 l2 l3 i a r h hx => zD_iald (by decide +kernel) hx,
  fun l0 l1 l2 l3 p0 p1 a r h hcat hr hC => zD_callv (i := 18) (y := 68) (n := 2) (as := [.int p0, .int p1]) (ci := 8) (by decide +kernel) (by decide +kernel) rfl (by decide +kernel) (Nat.le_of_ble_eq_true rfl) (by decide +kernel) hcat hr hC,
  fun l0 l1 l3 x S h => zD_op (ins := .aload_n 2) (len := 1) (c := (194, [l0, l1, some (.ref x), l3], (.ref x :: S), h)) (by decide +kernel) rfl rfl rfl rfl,
  fun l0 l1 l3 S h => zD_op (ins := .aload_n 2) (len := 1) (c := (194, [l0, l1, some .null, l3], (.null :: S), h)) (by decide +kernel) rfl rfl rfl rfl,
  fun l1 l2 l3 x S h => zD_op (ins := .aload_n 0) (len := 1) (c := (195, [some (.ref x), l1, l2, l3], (.ref x :: S), h)) (by decide +kernel) rfl rfl rfl rfl,
  fun l0 l1 l2 x S h => zD_op (ins := .iload_n 3) (len := 1) (c := (196, [l0, l1, l2, some (.int x)], (.int x :: S), h)) (by decide +kernel) rfl rfl rfl rfl,
  fun l0 l1 l2 l3 S h => zD_icst (n := 1) (by decide +kernel) (by decide +kernel),
  fun l0 l1 l2 l3 x y r h => zD_op (ins := .iadd) (len := 1) (c := (198, [l0, l1, l2, l3], (.int (x + y) :: r), h)) (by decide +kernel) rfl rfl rfl rfl,
  fun l0 l1 l2 l3 i a r h hx => zD_iald (by decide +kernel) hx,
  fun l1 l2 l3 x S h => zD_op (ins := .aload_n 0) (len := 1) (c := (200, [some (.ref x), l1, l2, l3], (.ref x :: S), h)) (by decide +kernel) rfl rfl rfl rfl,
  fun l0 l1 l2 x S h => zD_op (ins := .iload_n 3) (len := 1) (c := (201, [l0, l1, l2, some (.int x)], (.int x :: S), h)) (by decide +kernel) rfl rfl rfl rfl,
  fun l0 l1 l2 l3 S h => zD_icst (n := 2) (by decide +kernel) (by decide +kernel),
  fun l0 l1 l2 l3 x y r h => zD_op (ins := .iadd) (len := 1) (c := (203, [l0, l1, l2, l3], (.int (x + y) :: r), h)) (by decide +kernel) rfl rfl rfl rfl,
  fun l0 l1 l2 l3 i a r h hx => zD_iald (by decide +kernel) hx,
  fun l0 l1 l2 l3 p0 p1 a r h hcat hr hC => zD_callv (i := 22) (y := 114) (n := 2) (as := [.int p0, .int p1]) (ci := 9) (by decide +kernel) (by decide +kernel) rfl (by decide +kernel) (Nat.le_of_ble_eq_true rfl) (by decide +kernel) hcat hr hC,
  fun l0 l1 l2 l3 x y r h => zD_if (cnd := .eq) (off := 698) (by decide +kernel) (by decide) rfl,
  fun l0 l1 l2 l3 S h => zD_icst (n := 0) (by decide +kernel) (by decide +kernel),
  fun l0 l1 l2 l3 v h hv => zD_iretz (by decide +kernel) rfl hv,
  fun l0 l2 l3 x S h => zD_op (ins := .aload_n 1) (len := 1) (c := (213, [l0, some (.ref x), l2, l3], (.ref x :: S), h)) (by decide +kernel) rfl rfl rfl rfl,
  fun l0 l2 l3 S h => zD_op (ins := .aload_n 1) (len := 1) (c := (213, [l0, some .null, l2, l3], (.null :: S), h)) (by decide +kernel) rfl rfl rfl rfl,
  fun l1 l2 l3 x S h => zD_op (ins := .aload_n 0) (len := 1) (c := (214, [some (.ref x), l1, l2, l3], (.ref x :: S), h)) (by decide +kernel) rfl rfl rfl rfl,
  fun l0 l1 l2 x S h => zD_op (ins := .iload_n 3) (len := 1) (c := (215, [l0, l1, l2, some (.int x)], (.int x :: S), h)) (by decide +kernel) rfl rfl rfl rfl,
  fun l0 l1 l2 l3 S h => zD_icst (n := 1) (by decide +kernel) (by decide +kernel),
  fun l0 l1 l2 l3 x y r h => zD_op (ins := .iadd) (len := 1) (c := (217, [l0, l1, l2, l3], (.int (x + y) :: r), h)) (by decide +kernel) rfl rfl rfl rfl,
  fun l0 l1 l2 l3 i a r h hx => zD_iald (by decide +kernel) hx,
  fun l1 l2 l3 x S h => zD_op (ins := .aload_n 0) (len := 1) (c := (219, [some (.ref x), l1, l2, l3], (.ref x :: S), h)) (by decide +kernel) rfl rfl rfl rfl,
  fun l0 l1 l2 x S h => zD_op (ins := .iload_n 3) (len := 1) (c := (220, [l0, l1, l2, some (.int x)], (.int x :: S), h)) (by decide +kernel) rfl rfl rfl rfl,
  fun l0 l1 l2 l3 S h => zD_icst (n := 2) (by decide +kernel) (by decide +kernel),
  fun l0 l1 l2 l3 x y r h => zD_op (ins := .iadd) (len := 1) (c := (222, [l0, l1, l2, l3], (.int (x + y) :: r), h)) (by decide +kernel) rfl rfl rfl rfl,
  fun l0 l1 l2 l3 i a r h hx => zD_iald (by decide +kernel) hx,
  fun l1 l2 l3 x S h => zD_op (ins := .aload_n 0) (len := 1) (c := (224, [some (.ref x), l1, l2, l3], (.ref x :: S), h)) (by decide +kernel) rfl rfl rfl rfl,
  fun l0 l1 l2 x S h => zD_op (ins := .iload_n 3) (len := 1) (c := (225, [l0, l1, l2, some (.int x)], (.int x :: S), h)) (by decide +kernel) rfl rfl rfl rfl,
  fun l0 l1 l2 l3 S h => zD_icst (n := 3) (by decide +kernel) (by decide +kernel),
  fun l0 l1 l2 l3 x y r h => zD_op (ins := .iadd) (len := 1) (c := (227, [l0, l1, l2, l3], (.int (x + y) :: r), h)) (by decide +kernel) rfl rfl rfl rfl,
  fun l0 l1 l2 l3 i a r h hx => zD_iald (by decide +kernel) hx,
  fun l0 l1 l2 l3 p0 p1 p2 a r h hcat hr hC => zD_callv (i := 23) (y := 105) (n := 3) (as := [.int p0, .int p1, .int p2]) (ci := 8) (by decide +kernel) (by decide +kernel) rfl (by decide +kernel) (Nat.le_of_ble_eq_true rfl) (by decide +kernel) hcat hr hC,
  fun l0 l1 l3 x S h => zD_op (ins := .aload_n 2) (len := 1) (c := (232, [l0, l1, some (.ref x), l3], (.ref x :: S), h)) (by decide +kernel) rfl rfl rfl rfl,
  fun l0 l1 l3 S h => zD_op (ins := .aload_n 2) (len := 1) (c := (232, [l0, l1, some .null, l3], (.null :: S), h)) (by decide +kernel) rfl rfl rfl rfl,
  fun l1 l2 l3 x S h => zD_op (ins := .aload_n 0) (len := 1) (c := (233, [some (.ref x), l1, l2, l3], (.ref x :: S), h)) (by decide +kernel) rfl rfl rfl rfl,
  fun l0 l1 l2 x S h => zD_op (ins := .iload_n 3) (len := 1) (c := (234, [l0, l1, l2, some (.int x)], (.int x :: S), h)) (by decide +kernel) rfl rfl rfl rfl,
  fun l0 l1 l2 l3 S h => zD_icst (n := 1) (by decide +kernel) (by decide +kernel),
  fun l0 l1 l2 l3 x y r h => zD_op (ins := .iadd) (len := 1) (c := (236, [l0, l1, l2, l3], (.int (x + y) :: r), h)) (by decide +kernel) rfl rfl rfl rfl,
  fun l0 l1 l2 l3 i a r h hx => zD_iald (by decide +kernel) hx,
  fun l1 l2 l3 x S h => zD_op (ins := .aload_n 0) (len := 1) (c := (238, [some (.ref x), l1, l2, l3], (.ref x :: S), h)) (by decide +kernel) rfl rfl rfl rfl,
  fun l0 l1 l2 x S h => zD_op (ins := .iload_n 3) (len := 1) (c := (239, [l0, l1, l2, some (.int x)], (.int x :: S), h)) (by decide +kernel) rfl rfl rfl rfl,
  fun l0 l1 l2 l3 S h => zD_icst (n := 2) (by decide +kernel) (by decide +kernel),
  fun l0 l1 l2 l3 x y r h => zD_op (ins := .iadd) (len := 1) (c := (241, [l0, l1, l2, l3], (.int (x + y) :: r), h)) (by decide +kernel) rfl rfl rfl rfl,
  fun l0 l1 l2 l3 i a r h hx => zD_iald (by decide +kernel) hx,
  fun l1 l2 l3 x S h => zD_op (ins := .aload_n 0) (len := 1) (c := (243, [some (.ref x), l1, l2, l3], (.ref x :: S), h)) (by decide +kernel) rfl rfl rfl rfl,
  fun l0 l1 l2 x S h => zD_op (ins := .iload_n 3) (len := 1) (c := (244, [l0, l1, l2, some (.int x)], (.int x :: S), h)) (by decide +kernel) rfl rfl rfl rfl,
  fun l0 l1 l2 l3 S h => zD_icst (n := 3) (by decide +kernel) (by decide +kernel),
  fun l0 l1 l2 l3 x y r h => zD_op (ins := .iadd) (len := 1) (c := (246, [l0, l1, l2, l3], (.int (x + y) :: r), h)) (by decide +kernel) rfl rfl rfl rfl,
  fun l0 l1 l2 l3 i a r h hx => zD_iald (by decide +kernel) hx,
  fun l0 l1 l2 l3 p0 p1 p2 a r h hcat hr hC => zD_callv (i := 27) (y := 139) (n := 3) (as := [.int p0, .int p1, .int p2]) (ci := 9) (by decide +kernel) (by decide +kernel) rfl (by decide +kernel) (Nat.le_of_ble_eq_true rfl) (by decide +kernel) hcat hr hC,
  fun l0 l1 l2 l3 x y r h => zD_if (cnd := .eq) (off := 655) (by decide +kernel) (by decide) rfl,
  fun l0 l1 l2 l3 S h => zD_icst (n := 0) (by decide +kernel) (by decide +kernel),
  fun l0 l1 l2 l3 v h hv => zD_iretz (by decide +kernel) rfl hv,
  fun l0 l2 l3 x S h => zD_op (ins := .aload_n 1) (len := 1) (c := (256, [l0, some (.ref x), l2, l3], (.ref x :: S), h)) (by decide +kernel) rfl rfl rfl rfl,
  fun l0 l2 l3 S h => zD_op (ins := .aload_n 1) (len := 1) (c := (256, [l0, some .null, l2, l3], (.null :: S), h)) (by decide +kernel) rfl rfl rfl rfl,
  fun l1 l2 l3 x S h => zD_op (ins := .aload_n 0) (len := 1) (c := (257, [some (.ref x), l1, l2, l3], (.ref x :: S), h)) (by decide +kernel) rfl rfl rfl rfl,
  fun l0 l1 l2 x S h => zD_op (ins := .iload_n 3) (len := 1) (c := (258, [l0, l1, l2, some (.int x)], (.int x :: S), h)) (by decide +kernel) rfl rfl rfl rfl,
  fun l0 l1 l2 l3 S h => zD_icst (n := 1) (by decide +kernel) (by decide +kernel),
  fun l0 l1 l2 l3 x y r h => zD_op (ins := .iadd) (len := 1) (c := (260, [l0, l1, l2, l3], (.int (x + y) :: r), h)) (by decide +kernel) rfl rfl rfl rfl,
  fun l0 l1 l2 l3 i a r h hx => zD_iald (by decide +kernel) hx,
  fun l1 l2 l3 x S h => zD_op (ins := .aload_n 0) (len := 1) (c := (262, [some (.ref x), l1, l2, l3], (.ref x :: S), h)) (by decide +kernel) rfl rfl rfl rfl,
  fun l0 l1 l2 x S h => zD_op (ins := .iload_n 3) (len := 1) (c := (263, [l0, l1, l2, some (.int x)], (.int x :: S), h)) (by decide +kernel) rfl rfl rfl rfl,
  fun l0 l1 l2 l3 S h => zD_icst (n := 2) (by decide +kernel) (by decide +kernel),
  fun l0 l1 l2 l3 x y r h => zD_op (ins := .iadd) (len := 1) (c := (265, [l0, l1, l2, l3], (.int (x + y) :: r), h)) (by decide +kernel) rfl rfl rfl rfl,
  fun l0 l1 l2 l3 i a r h hx => zD_iald (by decide +kernel) hx,
  fun l1 l2 l3 x S h => zD_op (ins := .aload_n 0) (len := 1) (c := (267, [some (.ref x), l1, l2, l3], (.ref x :: S), h)) (by decide +kernel) rfl rfl rfl rfl,
  fun l0 l1 l2 x S h => zD_op (ins := .iload_n 3) (len := 1) (c := (268, [l0, l1, l2, some (.int x)], (.int x :: S), h)) (by decide +kernel) rfl rfl rfl rfl,
  fun l0 l1 l2 l3 S h => zD_icst (n := 3) (by decide +kernel) (by decide +kernel),
  fun l0 l1 l2 l3 x y r h => zD_op (ins := .iadd) (len := 1) (c := (270, [l0, l1, l2, l3], (.int (x + y) :: r), h)) (by decide +kernel) rfl rfl rfl rfl,
  fun l0 l1 l2 l3 i a r h hx => zD_iald (by decide +kernel) hx,
  fun l0 l1 l2 l3 x r h => zD_if0 (cnd := .eq) (off := 7) (by decide +kernel) (by decide) rfl,
  fun l0 l1 l2 l3 S h => zD_icst (n := 1) (by decide +kernel) (by decide +kernel),
  fun l0 l1 l2 l3 S h => zD_goto (off := 4) (by decide +kernel) (by decide),
  fun l0 l1 l2 l3 S h => zD_icst (n := 0) (by decide +kernel) (by decide +kernel),
  fun l0 l1 l2 l3 p0 p1 p2 a r h hcat hr hC => zD_callv (i := 28) (y := 106) (n := 3) (as := [.int p0, .int p1, .int p2]) (ci := 8) (by decide +kernel) (by decide +kernel) rfl (by decide +kernel) (Nat.le_of_ble_eq_true rfl) (by decide +kernel) hcat hr hC,
  fun l0 l1 l3 x S h => zD_op (ins := .aload_n 2) (len := 1) (c := (283, [l0, l1, some (.ref x), l3], (.ref x :: S), h)) (by decide +kernel) rfl rfl rfl rfl,
  fun l0 l1 l3 S h => zD_op (ins := .aload_n 2) (len := 1) (c := (283, [l0, l1, some .null, l3], (.null :: S), h)) (by decide +kernel) rfl rfl rfl rfl,
  fun l1 l2 l3 x S h => zD_op (ins := .aload_n 0) (len := 1) (c := (284, [some (.ref x), l1, l2, l3], (.ref x :: S), h)) (by decide +kernel) rfl rfl rfl rfl,
  fun l0 l1 l2 x S h => zD_op (ins := .iload_n 3) (len := 1) (c := (285, [l0, l1, l2, some (.int x)], (.int x :: S), h)) (by decide +kernel) rfl rfl rfl rfl,
  fun l0 l1 l2 l3 S h => zD_icst (n := 1) (by decide +kernel) (by decide +kernel),
  fun l0 l1 l2 l3 x y r h => zD_op (ins := .iadd) (len := 1) (c := (287, [l0, l1, l2, l3], (.int (x + y) :: r), h)) (by decide +kernel) rfl rfl rfl rfl,
  fun l0 l1 l2 l3 i a r h hx => zD_iald (by decide +kernel) hx,
  fun l1 l2 l3 x S h => zD_op (ins := .aload_n 0) (len := 1) (c := (289, [some (.ref x), l1, l2, l3], (.ref x :: S), h)) (by decide +kernel) rfl rfl rfl rfl,
  fun l0 l1 l2 x S h => zD_op (ins := .iload_n 3) (len := 1) (c := (290, [l0, l1, l2, some (.int x)], (.int x :: S), h)) (by decide +kernel) rfl rfl rfl rfl,
  fun l0 l1 l2 l3 S h => zD_icst (n := 2) (by decide +kernel) (by decide +kernel),
  fun l0 l1 l2 l3 x y r h => zD_op (ins := .iadd) (len := 1) (c := (292, [l0, l1, l2, l3], (.int (x + y) :: r), h)) (by decide +kernel) rfl rfl rfl rfl,
  fun l0 l1 l2 l3 i a r h hx => zD_iald (by decide +kernel) hx,
  fun l1 l2 l3 x S h => zD_op (ins := .aload_n 0) (len := 1) (c := (294, [some (.ref x), l1, l2, l3], (.ref x :: S), h)) (by decide +kernel) rfl rfl rfl rfl,
  fun l0 l1 l2 x S h => zD_op (ins := .iload_n 3) (len := 1) (c := (295, [l0, l1, l2, some (.int x)], (.int x :: S), h)) (by decide +kernel) rfl rfl rfl rfl,
  fun l0 l1 l2 l3 S h => zD_icst (n := 3) (by decide +kernel) (by decide +kernel),
  fun l0 l1 l2 l3 x y r h => zD_op (ins := .iadd) (len := 1) (c := (297, [l0, l1, l2, l3], (.int (x + y) :: r), h)) (by decide +kernel) rfl rfl rfl rfl,
  fun l0 l1 l2 l3 i a r h hx => zD_iald (by decide +kernel) hx,
  fun l0 l1 l2 l3 x r h => zD_if0 (cnd := .eq) (off := 7) (by decide +kernel) (by decide) rfl,
  fun l0 l1 l2 l3 S h => zD_icst (n := 1) (by decide +kernel) (by decide +kernel),
  fun l0 l1 l2 l3 S h => zD_goto (off := 4) (by decide +kernel) (by decide),
  fun l0 l1 l2 l3 S h => zD_icst (n := 0) (by decide +kernel) (by decide +kernel),
  fun l0 l1 l2 l3 p0 p1 p2 a r h hcat hr hC => zD_callv (i := 32) (y := 140) (n := 3) (as := [.int p0, .int p1, .int p2]) (ci := 9) (by decide +kernel) (by decide +kernel) rfl (by decide +kernel) (Nat.le_of_ble_eq_true rfl) (by decide +kernel) hcat hr hC,
  fun l0 l1 l2 l3 x y r h => zD_if (cnd := .eq) (off := 596) (by decide +kernel) (by decide) rfl,
  fun l0 l1 l2 l3 S h => zD_icst (n := 0) (by decide +kernel) (by decide +kernel),
  fun l0 l1 l2 l3 v h hv => zD_iretz (by decide +kernel) rfl hv,
  fun l0 l2 l3 x S h => zD_op (ins := .aload_n 1) (len := 1) (c := (315, [l0, some (.ref x), l2, l3], (.ref x :: S), h)) (by decide +kernel) rfl rfl rfl rfl,
  fun l0 l2 l3 S h => zD_op (ins := .aload_n 1) (len := 1) (c := (315, [l0, some .null, l2, l3], (.null :: S), h)) (by decide +kernel) rfl rfl rfl rfl,
  fun l1 l2 l3 x S h => zD_op (ins := .aload_n 0) (len := 1) (c := (316, [some (.ref x), l1, l2, l3], (.ref x :: S), h)) (by decide +kernel) rfl rfl rfl rfl,
  fun l0 l1 l2 x S h => zD_op (ins := .iload_n 3) (len := 1) (c := (317, [l0, l1, l2, some (.int x)], (.int x :: S), h)) (by decide +kernel) rfl rfl rfl rfl,
  fun l0 l1 l2 l3 S h => zD_icst (n := 1) (by decide +kernel) (by decide +kernel),
  fun l0 l1 l2 l3 x y r h => zD_op (ins := .iadd) (len := 1) (c := (319, [l0, l1, l2, l3], (.int (x + y) :: r), h)) (by decide +kernel) rfl rfl rfl rfl,
  fun l0 l1 l2 l3 i a r h hx => zD_iald (by decide +kernel) hx,
  fun l1 l2 l3 x S h => zD_op (ins := .aload_n 0) (len := 1) (c := (321, [some (.ref x), l1, l2, l3], (.ref x :: S), h)) (by decide +kernel) rfl rfl rfl rfl,
  fun l0 l1 l2 x S h => zD_op (ins := .iload_n 3) (len := 1) (c := (322, [l0, l1, l2, some (.int x)], (.int x :: S), h)) (by decide +kernel) rfl rfl rfl rfl,
  fun l0 l1 l2 l3 S h => zD_icst (n := 2) (by decide +kernel) (by decide +kernel),
  fun l0 l1 l2 l3 x y r h => zD_op (ins := .iadd) (len := 1) (c := (324, [l0, l1, l2, l3], (.int (x + y) :: r), h)) (by decide +kernel) rfl rfl rfl rfl,
  fun l0 l1 l2 l3 i a r h hx => zD_iald (by decide +kernel) hx,
  fun l0 l1 l2 l3 p0 p1 a r h hcat hr hC => zD_callv (i := 33) (y := 107) (n := 2) (as := [.int p0, .int p1]) (ci := 8) (by decide +kernel) (by decide +kernel) rfl (by decide +kernel) (Nat.le_of_ble_eq_true rfl) (by decide +kernel) hcat hr hC,
  fun l0 l1 l3 x S h => zD_op (ins := .aload_n 2) (len := 1) (c := (329, [l0, l1, some (.ref x), l3], (.ref x :: S), h)) (by decide +kernel) rfl rfl rfl rfl,
  fun l0 l1 l3 S h => zD_op (ins := .aload_n 2) (len := 1) (c := (329, [l0, l1, some .null, l3], (.null :: S), h)) (by decide +kernel) rfl rfl rfl rfl,
  fun l1 l2 l3 x S h => zD_op (ins := .aload_n 0) (len := 1) (c := (330, [some (.ref x), l1, l2, l3], (.ref x :: S), h)) (by decide +kernel) rfl rfl rfl rfl,
  fun l0 l1 l2 x S h => zD_op (ins := .iload_n 3) (len := 1) (c := (331, [l0, l1, l2, some (.int x)], (.int x :: S), h)) (by decide +kernel) rfl rfl rfl rfl,
  fun l0 l1 l2 l3 S h => zD_icst (n := 1) (by decide +kernel) (by decide +kernel),
  fun l0 l1 l2 l3 x y r h => zD_op (ins := .iadd) (len := 1) (c := (333, [l0, l1, l2, l3], (.int (x + y) :: r), h)) (by decide +kernel) rfl rfl rfl rfl,
  fun l0 l1 l2 l3 i a r h hx => zD_iald (by decide +kernel) hx,
  fun l1 l2 l3 x S h => zD_op (ins := .aload_n 0) (len := 1) (c := (335, [some (.ref x), l1, l2, l3], (.ref x :: S), h)) (by decide +kernel) rfl rfl rfl rfl,
  fun l0 l1 l2 x S h => zD_op (ins := .iload_n 3) (len := 1) (c := (336, [l0, l1, l2, some (.int x)], (.int x :: S), h)) (by decide +kernel) rfl rfl rfl rfl,
  fun l0 l1 l2 l3 S h => zD_icst (n := 2) (by decide +kernel) (by decide +kernel),
  fun l0 l1 l2 l3 x y r h => zD_op (ins := .iadd) (len := 1) (c := (338, [l0, l1, l2, l3], (.int (x + y) :: r), h)) (by decide +kernel) rfl rfl rfl rfl,
  fun l0 l1 l2 l3 i a r h hx => zD_iald (by decide +kernel) hx,
  fun l0 l1 l2 l3 p0 p1 a r h hcat hr hC => zD_callv (i := 36) (y := 141) (n := 2) (as := [.int p0, .int p1]) (ci := 9) (by decide +kernel) (by decide +kernel) rfl (by decide +kernel) (Nat.le_of_ble_eq_true rfl) (by decide +kernel) hcat hr hC,
  fun l0 l1 l2 l3 x y r h => zD_if (cnd := .eq) (off := 563) (by decide +kernel) (by decide) rfl,
  fun l0 l1 l2 l3 S h => zD_icst (n := 0) (by decide +kernel) (by decide +kernel),
  fun l0 l1 l2 l3 v h hv => zD_iretz (by decide +kernel) rfl hv,
  fun l0 l2 l3 x S h => zD_op (ins := .aload_n 1) (len := 1) (c := (348, [l0, some (.ref x), l2, l3], (.ref x :: S), h)) (by decide +kernel) rfl rfl rfl rfl,
  fun l0 l2 l3 S h => zD_op (ins := .aload_n 1) (len := 1) (c := (348, [l0, some .null, l2, l3], (.null :: S), h)) (by decide +kernel) rfl rfl rfl rfl,
  fun l1 l2 l3 x S h => zD_op (ins := .aload_n 0) (len := 1) (c := (349, [some (.ref x), l1, l2, l3], (.ref x :: S), h)) (by decide +kernel) rfl rfl rfl rfl,
  fun l0 l1 l2 x S h => zD_op (ins := .iload_n 3) (len := 1) (c := (350, [l0, l1, l2, some (.int x)], (.int x :: S), h)) (by decide +kernel) rfl rfl rfl rfl,
  fun l0 l1 l2 l3 S h => zD_icst (n := 1) (by decide +kernel) (by decide +kernel),
  fun l0 l1 l2 l3 x y r h => zD_op (ins := .iadd) (len := 1) (c := (352, [l0, l1, l2, l3], (.int (x + y) :: r), h)) (by decide +kernel) rfl rfl rfl rfl,
  fun l0 l1 l2 l3 i a r h hx => zD_iald (by decide +kernel) hx,
  fun l1 l2 l3 x S h => zD_op (ins := .aload_n 0) (len := 1) (c := (354, [some (.ref x), l1, l2, l3], (.ref x :: S), h)) (by decide +kernel) rfl rfl rfl rfl,
  fun l0 l1 l2 x S h => zD_op (ins := .iload_n 3) (len := 1) (c := (355, [l0, l1, l2, some (.int x)], (.int x :: S), h)) (by decide +kernel) rfl rfl rfl rfl,
  fun l0 l1 l2 l3 S h => zD_icst (n := 2) (by decide +kernel) (by decide +kernel),
  fun l0 l1 l2 l3 x y r h => zD_op (ins := .iadd) (len := 1) (c := (357, [l0, l1, l2, l3], (.int (x + y) :: r), h)) (by decide +kernel) rfl rfl rfl rfl,
  fun l0 l1 l2 l3 i a r h hx => zD_iald (by decide +kernel) hx,
  fun l0 l1 l2 l3 p0 p1 a r h hcat hr hC => zD_callv (i := 37) (y := 108) (n := 2) (as := [.int p0, .int p1]) (ci := 8) (by decide +kernel) (by decide +kernel) rfl (by decide +kernel) (Nat.le_of_ble_eq_true rfl) (by decide +kernel) hcat hr hC,
  fun l0 l1 l3 x S h => zD_op (ins := .aload_n 2) (len := 1) (c := (362, [l0, l1, some (.ref x), l3], (.ref x :: S), h)) (by decide +kernel) rfl rfl rfl rfl,
  fun l0 l1 l3 S h => zD_op (ins := .aload_n 2) (len := 1) (c := (362, [l0, l1, some .null, l3], (.null :: S), h)) (by decide +kernel) rfl rfl rfl rfl,
  fun l1 l2 l3 x S h => zD_op (ins := .aload_n 0) (len := 1) (c := (363, [some (.ref x), l1, l2, l3], (.ref x :: S), h)) (by decide +kernel) rfl rfl rfl rfl,
  fun l0 l1 l2 x S h => zD_op (ins := .iload_n 3) (len := 1) (c := (364, [l0, l1, l2, some (.int x)], (.int x :: S), h)) (by decide +kernel) rfl rfl rfl rfl,
  fun l0 l1 l2 l3 S h => zD_icst (n := 1) (by decide +kernel) (by decide +kernel),
  fun l0 l1 l2 l3 x y r h => zD_op (ins := .iadd) (len := 1) (c := (366, [l0, l1, l2, l3], (.int (x + y) :: r), h)) (by decide +kernel) rfl rfl rfl rfl,
  fun l0 l1 l2 l3 i a r h hx => zD_iald (by decide +kernel) hx,
  fun l1 l2 l3 x S h => zD_op (ins := .aload_n 0) (len := 1) (c := (368, [some (.ref x), l1, l2, l3], (.ref x :: S), h)) (by decide +kernel) rfl rfl rfl rfl,
  fun l0 l1 l2 x S h => zD_op (ins := .iload_n 3) (len := 1) (c := (369, [l0, l1, l2, some (.int x)], (.int x :: S), h)) (by decide +kernel) rfl rfl rfl rfl,
  fun l0 l1 l2 l3 S h => zD_icst (n := 2) (by decide +kernel) (by decide +kernel),
  fun l0 l1 l2 l3 x y r h => zD_op (ins := .iadd) (len := 1) (c := (371, [l0, l1, l2, l3], (.int (x + y) :: r), h)) (by decide +kernel) rfl rfl rfl rfl,
  fun l0 l1 l2 l3 i a r h hx => zD_iald (by decide +kernel) hx,
  fun l0 l1 l2 l3 p0 p1 a r h hcat hr hC => zD_callv (i := 40) (y := 142) (n := 2) (as := [.int p0, .int p1]) (ci := 9) (by decide +kernel) (by decide +kernel) rfl (by decide +kernel) (Nat.le_of_ble_eq_true rfl) (by decide +kernel) hcat hr hC,
  fun l0 l1 l2 l3 x y r h => zD_if (cnd := .eq) (off := 530) (by decide +kernel) (by decide) rfl,
  fun l0 l1 l2 l3 S h => zD_icst (n := 0) (by decide +kernel) (by decide +kernel),
  fun l0 l1 l2 l3 v h hv => zD_iretz (by decide +kernel) rfl hv,
  fun l0 l2 l3 x S h => zD_op (ins := .aload_n 1) (len := 1) (c := (381, [l0, some (.ref x), l2, l3], (.ref x :: S), h)) (by decide +kernel) rfl rfl rfl rfl,
  fun l0 l2 l3 S h => zD_op (ins := .aload_n 1) (len := 1) (c := (381, [l0, some .null, l2, l3], (.null :: S), h)) (by decide +kernel) rfl rfl rfl rfl,
  fun l1 l2 l3 x S h => zD_op (ins := .aload_n 0) (len := 1) (c := (382, [some (.ref x), l1, l2, l3], (.ref x :: S), h)) (by decide +kernel) rfl rfl rfl rfl,
  fun l0 l1 l2 x S h => zD_op (ins := .iload_n 3) (len := 1) (c := (383, [l0, l1, l2, some (.int x)], (.int x :: S), h)) (by decide +kernel) rfl rfl rfl rfl,
  fun l0 l1 l2 l3 S h => zD_icst (n := 1) (by decide +kernel) (by decide +kernel),
  fun l0 l1 l2 l3 x y r h => zD_op (ins := .iadd) (len := 1) (c := (385, [l0, l1, l2, l3], (.int (x + y) :: r), h)) (by decide +kernel) rfl rfl rfl rfl,
  fun l0 l1 l2 l3 i a r h hx => zD_iald (by decide +kernel) hx,
  fun l0 l1 l2 l3 p0 a r h hcat hr hC => zD_callv (i := 41) (y := 69) (n := 1) (as := [.int p0]) (ci := 8) (by decide +kernel) (by decide +kernel) rfl (by decide +kernel) (Nat.le_of_ble_eq_true rfl) (by decide +kernel) hcat hr hC,
  fun l0 l1 l3 x S h => zD_op (ins := .aload_n 2) (len := 1) (c := (390, [l0, l1, some (.ref x), l3], (.ref x :: S), h)) (by decide +kernel) rfl rfl rfl rfl,
  fun l0 l1 l3 S h => zD_op (ins := .aload_n 2) (len := 1) (c := (390, [l0, l1, some .null, l3], (.null :: S), h)) (by decide +kernel) rfl rfl rfl rfl,
  fun l1 l2 l3 x S h => zD_op (ins := .aload_n 0) (len := 1) (c := (391, [some (.ref x), l1, l2, l3], (.ref x :: S), h)) (by decide +kernel) rfl rfl rfl rfl,
  fun l0 l1 l2 x S h => zD_op (ins := .iload_n 3) (len := 1) (c := (392, [l0, l1, l2, some (.int x)], (.int x :: S), h)) (by decide +kernel) rfl rfl rfl rfl,
  fun l0 l1 l2 l3 S h => zD_icst (n := 1) (by decide +kernel) (by decide +kernel),
  fun l0 l1 l2 l3 x y r h => zD_op (ins := .iadd) (len := 1) (c := (394, [l0, l1, l2, l3], (.int (x + y) :: r), h)) (by decide +kernel) rfl rfl rfl rfl,
  fun l0 l1 l2 l3 i a r h hx => zD_iald (by decide +kernel) hx,
  fun l0 l1 l2 l3 p0 a r h hcat hr hC => zD_callv (i := 44) (y := 115) (n := 1) (as := [.int p0]) (ci := 9) (by decide +kernel) (by decide +kernel) rfl (by decide +kernel) (Nat.le_of_ble_eq_true rfl) (by decide +kernel) hcat hr hC,
  fun l0 l1 l2 l3 x y r h => zD_if (cnd := .eq) (off := 507) (by decide +kernel) (by decide) rfl,
  fun l0 l1 l2 l3 S h => zD_icst (n := 0) (by decide +kernel) (by decide +kernel),
  fun l0 l1 l2 l3 v h hv => zD_iretz (by decide +kernel) rfl hv,
  fun l0 l2 l3 x S h => zD_op (ins := .aload_n 1) (len := 1) (c := (404, [l0, some (.ref x), l2, l3], (.ref x :: S), h)) (by decide +kernel) rfl rfl rfl rfl,
  fun l0 l2 l3 S h => zD_op (ins := .aload_n 1) (len := 1) (c := (404, [l0, some .null, l2, l3], (.null :: S), h)) (by decide +kernel) rfl rfl rfl rfl,
  fun l0 l1 l2 l3 a r h hcat hr hC => zD_callv (i := 45) (y := 135) (n := 0) (as := []) (ci := 8) (by decide +kernel) (by decide +kernel) rfl (by decide +kernel) (Nat.le_of_ble_eq_true rfl) (by decide +kernel) hcat hr hC,
  fun l0 l1 l3 x S h => zD_op (ins := .aload_n 2) (len := 1) (c := (408, [l0, l1, some (.ref x), l3], (.ref x :: S), h)) (by decide +kernel) rfl rfl rfl rfl,
  fun l0 l1 l3 S h => zD_op (ins := .aload_n 2) (len := 1) (c := (408, [l0, l1, some .null, l3], (.null :: S), h)) (by decide +kernel) rfl rfl rfl rfl,
  fun l0 l1 l2 l3 a r h hcat hr hC => zD_callv (i := 49) (y := 116) (n := 0) (as := []) (ci := 9) (by decide +kernel) (by decide +kernel) rfl (by decide +kernel) (Nat.le_of_ble_eq_true rfl) (by decide +kernel) hcat hr hC,
  fun l0 l1 l2 l3 x y r h => zD_if (cnd := .eq) (off := 494) (by decide +kernel) (by decide) rfl,
  fun l0 l1 l2 l3 S h => zD_icst (n := 0) (by decide +kernel) (by decide +kernel),
  fun l0 l1 l2 l3 v h hv => zD_iretz (by decide +kernel) rfl hv,
  fun l0 l2 l3 x S h => zD_op (ins := .aload_n 1) (len := 1) (c := (417, [l0, some (.ref x), l2, l3], (.ref x :: S), h)) (by decide +kernel) rfl rfl rfl rfl,
  fun l0 l2 l3 S h => zD_op (ins := .aload_n 1) (len := 1) (c := (417, [l0, some .null, l2, l3], (.null :: S), h)) (by decide +kernel) rfl rfl rfl rfl,
  fun l0 l1 l2 l3 a r h hcat hr hC => zD_callv (i := 50) (y := 154) (n := 0) (as := []) (ci := 8) (by decide +kernel) (by decide +kernel) rfl (by decide +kernel) (Nat.le_of_ble_eq_true rfl) (by decide +kernel) hcat hr hC,
  fun l0 l1 l3 x S h => zD_op (ins := .aload_n 2) (len := 1) (c := (421, [l0, l1, some (.ref x), l3], (.ref x :: S), h)) (by decide +kernel) rfl rfl rfl rfl,
  fun l0 l1 l3 S h => zD_op (ins := .aload_n 2) (len := 1) (c := (421, [l0, l1, some .null, l3], (.null :: S), h)) (by decide +kernel) rfl rfl rfl rfl,
  fun l0 l1 l2 l3 a r h hcat hr hC => zD_callv (i := 53) (y := 31) (n := 0) (as := []) (ci := 9) (by decide +kernel) (by decide +kernel) rfl (by decide +kernel) (Nat.le_of_ble_eq_true rfl) (by decide +kernel) hcat hr hC,
  fun l0 l1 l2 l3 x y r h => zD_if (cnd := .eq) (off := 481) (by decide +kernel) (by decide) rfl,
  fun l0 l1 l2 l3 S h => zD_icst (n := 0) (by decide +kernel) (by decide +kernel),
  fun l0 l1 l2 l3 v h hv => zD_iretz (by decide +kernel) rfl hv,
  fun l0 l2 l3 x S h => zD_op (ins := .aload_n 1) (len := 1) (c := (430, [l0, some (.ref x), l2, l3], (.ref x :: S), h)) (by decide +kernel) rfl rfl rfl rfl,
  fun l0 l2 l3 S h => zD_op (ins := .aload_n 1) (len := 1) (c := (430, [l0, some .null, l2, l3], (.null :: S), h)) (by decide +kernel) rfl rfl rfl rfl,
  fun l1 l2 l3 x S h => zD_op (ins := .aload_n 0) (len := 1) (c := (431, [some (.ref x), l1, l2, l3], (.ref x :: S), h)) (by decide +kernel) rfl rfl rfl rfl,
  fun l0 l1 l2 x S h => zD_op (ins := .iload_n 3) (len := 1) (c := (432, [l0, l1, l2, some (.int x)], (.int x :: S), h)) (by decide +kernel) rfl rfl rfl rfl,
  fun l0 l1 l2 l3 S h => zD_icst (n := 1) (by decide +kernel) (by decide +kernel),
  fun l0 l1 l2 l3 x y r h => zD_op (ins := .iadd) (len := 1) (c := (434, [l0, l1, l2, l3], (.int (x + y) :: r), h)) (by decide +kernel) rfl rfl rfl rfl,
  fun l0 l1 l2 l3 i a r h hx => zD_iald (by decide +kernel) hx,
  fun l1 l2 l3 x S h => zD_op (ins := .aload_n 0) (len := 1) (c := (436, [some (.ref x), l1, l2, l3], (.ref x :: S), h)) (by decide +kernel) rfl rfl rfl rfl,
  fun l0 l1 l2 x S h => zD_op (ins := .iload_n 3) (len := 1) (c := (437, [l0, l1, l2, some (.int x)], (.int x :: S), h)) (by decide +kernel) rfl rfl rfl rfl,
  fun l0 l1 l2 l3 S h => zD_icst (n := 2) (by decide +kernel) (by decide +kernel),
  fun l0 l1 l2 l3 x y r h => zD_op (ins := .iadd) (len := 1) (c := (439, [l0, l1, l2, l3], (.int (x + y) :: r), h)) (by decide +kernel) rfl rfl rfl rfl,
  fun l0 l1 l2 l3 i a r h hx => zD_iald (by decide +kernel) hx,
  fun l0 l1 l2 l3 p0 p1 a r h hcat hr hC => zD_callv (i := 54) (y := 136) (n := 2) (as := [.int p0, .int p1]) (ci := 8) (by decide +kernel) (by decide +kernel) rfl (by decide +kernel) (Nat.le_of_ble_eq_true rfl) (by decide +kernel) hcat hr hC,
  fun l0 l1 l3 x S h => zD_op (ins := .aload_n 2) (len := 1) (c := (444, [l0, l1, some (.ref x), l3], (.ref x :: S), h)) (by decide +kernel) rfl rfl rfl rfl,
  fun l0 l1 l3 S h => zD_op (ins := .aload_n 2) (len := 1) (c := (444, [l0, l1, some .null, l3], (.null :: S), h)) (by decide +kernel) rfl rfl rfl rfl,
  fun l1 l2 l3 x S h => zD_op (ins := .aload_n 0) (len := 1) (c := (445, [some (.ref x), l1, l2, l3], (.ref x :: S), h)) (by decide +kernel) rfl rfl rfl rfl,
  fun l0 l1 l2 x S h => zD_op (ins := .iload_n 3) (len := 1) (c := (446, [l0, l1, l2, some (.int x)], (.int x :: S), h)) (by decide +kernel) rfl rfl rfl rfl,
  fun l0 l1 l2 l3 S h => zD_icst (n := 1) (by decide +kernel) (by decide +kernel),
  fun l0 l1 l2 l3 x y r h => zD_op (ins := .iadd) (len := 1) (c := (448, [l0, l1, l2, l3], (.int (x + y) :: r), h)) (by decide +kernel) rfl rfl rfl rfl,
  fun l0 l1 l2 l3 i a r h hx => zD_iald (by decide +kernel) hx,
  fun l1 l2 l3 x S h => zD_op (ins := .aload_n 0) (len := 1) (c := (450, [some (.ref x), l1, l2, l3], (.ref x :: S), h)) (by decide +kernel) rfl rfl rfl rfl,
  fun l0 l1 l2 x S h => zD_op (ins := .iload_n 3) (len := 1) (c := (451, [l0, l1, l2, some (.int x)], (.int x :: S), h)) (by decide +kernel) rfl rfl rfl rfl,
  fun l0 l1 l2 l3 S h => zD_icst (n := 2) (by decide +kernel) (by decide +kernel),
  fun l0 l1 l2 l3 x y r h => zD_op (ins := .iadd) (len := 1) (c := (453, [l0, l1, l2, l3], (.int (x + y) :: r), h)) (by decide +kernel) rfl rfl rfl rfl,
  fun l0 l1 l2 l3 i a r h hx => zD_iald (by decide +kernel) hx,
  fun l0 l1 l2 l3 p0 p1 a r h hcat hr hC => zD_callv (i := 57) (y := 117) (n := 2) (as := [.int p0, .int p1]) (ci := 9) (by decide +kernel) (by decide +kernel) rfl (by decide +kernel) (Nat.le_of_ble_eq_true rfl) (by decide +kernel) hcat hr hC,
  fun l0 l1 l2 l3 x y r h => zD_if (cnd := .eq) (off := 448) (by decide +kernel) (by decide) rfl,
  fun l0 l1 l2 l3 S h => zD_icst (n := 0) (by decide +kernel) (by decide +kernel),
  fun l0 l1 l2 l3 v h hv => zD_iretz (by decide +kernel) rfl hv,
  fun l0 l2 l3 x S h => zD_op (ins := .aload_n 1) (len := 1) (c := (463, [l0, some (.ref x), l2, l3], (.ref x :: S), h)) (by decide +kernel) rfl rfl rfl rfl,
  fun l0 l2 l3 S h => zD_op (ins := .aload_n 1) (len := 1) (c := (463, [l0, some .null, l2, l3], (.null :: S), h)) (by decide +kernel) rfl rfl rfl rfl,
  fun l1 l2 l3 x S h => zD_op (ins := .aload_n 0) (len := 1) (c := (464, [some (.ref x), l1, l2, l3], (.ref x :: S), h)) (by decide +kernel) rfl rfl rfl rfl,
  fun l0 l1 l2 x S h => zD_op (ins := .iload_n 3) (len := 1) (c := (465, [l0, l1, l2, some (.int x)], (.int x :: S), h)) (by decide +kernel) rfl rfl rfl rfl,
  fun l0 l1 l2 l3 S h => zD_icst (n := 1) (by decide +kernel) (by decide +kernel),
  fun l0 l1 l2 l3 x y r h => zD_op (ins := .iadd) (len := 1) (c := (467, [l0, l1, l2, l3], (.int (x + y) :: r), h)) (by decide +kernel) rfl rfl rfl rfl,
  fun l0 l1 l2 l3 i a r h hx => zD_iald (by decide +kernel) hx,
  fun l1 l2 l3 x S h => zD_op (ins := .aload_n 0) (len := 1) (c := (469, [some (.ref x), l1, l2, l3], (.ref x :: S), h)) (by decide +kernel) rfl rfl rfl rfl,
  fun l0 l1 l2 x S h => zD_op (ins := .iload_n 3) (len := 1) (c := (470, [l0, l1, l2, some (.int x)], (.int x :: S), h)) (by decide +kernel) rfl rfl rfl rfl,
  fun l0 l1 l2 l3 S h => zD_icst (n := 2) (by decide +kernel) (by decide +kernel),
  fun l0 l1 l2 l3 x y r h => zD_op (ins := .iadd) (len := 1) (c := (472, [l0, l1, l2, l3], (.int (x + y) :: r), h)) (by decide +kernel) rfl rfl rfl rfl,
  fun l0 l1 l2 l3 i a r h hx => zD_iald (by decide +kernel) hx,
  fun l0 l1 l2 l3 p0 p1 a r h hcat hr hC => zD_callv (i := 58) (y := 137) (n := 2) (as := [.int p0, .int p1]) (ci := 8) (by decide +kernel) (by decide +kernel) rfl (by decide +kernel) (Nat.le_of_ble_eq_true rfl) (by decide +kernel) hcat hr hC,
  fun l0 l1 l3 x S h => zD_op (ins := .aload_n 2) (len := 1) (c := (477, [l0, l1, some (.ref x), l3], (.ref x :: S), h)) (by decide +kernel) rfl rfl rfl rfl,
  fun l0 l1 l3 S h => zD_op (ins := .aload_n 2) (len := 1) (c := (477, [l0, l1, some .null, l3], (.null :: S), h)) (by decide +kernel) rfl rfl rfl rfl,
  fun l1 l2 l3 x S h => zD_op (ins := .aload_n 0) (len := 1) (c := (478, [some (.ref x), l1, l2, l3], (.ref x :: S), h)) (by decide +kernel) rfl rfl rfl rfl,
  fun l0 l1 l2 x S h => zD_op (ins := .iload_n 3) (len := 1) (c := (479, [l0, l1, l2, some (.int x)], (.int x :: S), h)) (by decide +kernel) rfl rfl rfl rfl,
  fun l0 l1 l2 l3 S h => zD_icst (n := 1) (by decide +kernel) (by decide +kernel),
  fun l0 l1 l2 l3 x y r h => zD_op (ins := .iadd) (len := 1) (c := (481, [l0, l1, l2, l3], (.int (x + y) :: r), h)) (by decide +kernel) rfl rfl rfl rfl,
  fun l0 l1 l2 l3 i a r h hx => zD_iald (by decide +kernel) hx,
  fun l1 l2 l3 x S h => zD_op (ins := .aload_n 0) (len := 1) (c := (483, [some (.ref x), l1, l2, l3], (.ref x :: S), h)) (by decide +kernel) rfl rfl rfl rfl,
  fun l0 l1 l2 x S h => zD_op (ins := .iload_n 3) (len := 1) (c := (484, [l0, l1, l2, some (.int x)], (.int x :: S), h)) (by decide +kernel) rfl rfl rfl rfl,
  fun l0 l1 l2 l3 S h => zD_icst (n := 2) (by decide +kernel) (by decide +kernel),
  fun l0 l1 l2 l3 x y r h => zD_op (ins := .iadd) (len := 1) (c := (486, [l0, l1, l2, l3], (.int (x + y) :: r), h)) (by decide +kernel) rfl rfl rfl rfl,
  fun l0 l1 l2 l3 i a r h hx => zD_iald (by decide +kernel) hx,
  fun l0 l1 l2 l3 p0 p1 a r h hcat hr hC => zD_callv (i := 61) (y := 118) (n := 2) (as := [.int p0, .int p1]) (ci := 9) (by decide +kernel) (by decide +kernel) rfl (by decide +kernel) (Nat.le_of_ble_eq_true rfl) (by decide +kernel) hcat hr hC,
  fun l0 l1 l2 l3 x y r h => zD_if (cnd := .eq) (off := 415) (by decide +kernel) (by decide) rfl,
  fun l0 l1 l2 l3 S h => zD_icst (n := 0) (by decide +kernel) (by decide +kernel),
  fun l0 l1 l2 l3 v h hv => zD_iretz (by decide +kernel) rfl hv,
  fun l0 l2 l3 x S h => zD_op (ins := .aload_n 1) (len := 1) (c := (496, [l0, some (.ref x), l2, l3], (.ref x :: S), h)) (by decide +kernel) rfl rfl rfl rfl,
  fun l0 l2 l3 S h => zD_op (ins := .aload_n 1) (len := 1) (c := (496, [l0, some .null, l2, l3], (.null :: S), h)) (by decide +kernel) rfl rfl rfl rfl,
  fun l1 l2 l3 x S h => zD_op (ins := .aload_n 0) (len := 1) (c := (497, [some (.ref x), l1, l2, l3], (.ref x :: S), h)) (by decide +kernel) rfl rfl rfl rfl,
  fun l0 l1 l2 x S h => zD_op (ins := .iload_n 3) (len := 1) (c := (498, [l0, l1, l2, some (.int x)], (.int x :: S), h)) (by decide +kernel) rfl rfl rfl rfl,
  fun l0 l1 l2 l3 S h => zD_icst (n := 1) (by decide +kernel) (by decide +kernel),
  fun l0 l1 l2 l3 x y r h => zD_op (ins := .iadd) (len := 1) (c := (500, [l0, l1, l2, l3], (.int (x + y) :: r), h)) (by decide +kernel) rfl rfl rfl rfl,
  fun l0 l1 l2 l3 i a r h hx => zD_iald (by decide +kernel) hx,
  fun l1 l2 l3 x S h => zD_op (ins := .aload_n 0) (len := 1) (c := (502, [some (.ref x), l1, l2, l3], (.ref x :: S), h)) (by decide +kernel) rfl rfl rfl rfl,
  fun l0 l1 l2 x S h => zD_op (ins := .iload_n 3) (len := 1) (c := (503, [l0, l1, l2, some (.int x)], (.int x :: S), h)) (by decide +kernel) rfl rfl rfl rfl,
  fun l0 l1 l2 l3 S h => zD_icst (n := 2) (by decide +kernel) (by decide +kernel),
  fun l0 l1 l2 l3 x y r h => zD_op (ins := .iadd) (len := 1) (c := (505, [l0, l1, l2, l3], (.int (x + y) :: r), h)) (by decide +kernel) rfl rfl rfl rfl,
  fun l0 l1 l2 l3 i a r h hx => zD_iald (by decide +kernel) hx,
  fun l0 l1 l2 l3 p0 p1 a r h hcat hr hC => zD_callv (i := 62) (y := 161) (n := 2) (as := [.int p0, .int p1]) (ci := 8) (by decide +kernel) (by decide +kernel) rfl (by decide +kernel) (Nat.le_of_ble_eq_true rfl) (by decide +kernel) hcat hr hC,
  fun l0 l1 l3 x S h => zD_op (ins := .aload_n 2) (len := 1) (c := (510, [l0, l1, some (.ref x), l3], (.ref x :: S), h)) (by decide +kernel) rfl rfl rfl rfl,
  fun l0 l1 l3 S h => zD_op (ins := .aload_n 2) (len := 1) (c := (510, [l0, l1, some .null, l3], (.null :: S), h)) (by decide +kernel) rfl rfl rfl rfl,
  fun l1 l2 l3 x S h => zD_op (ins := .aload_n 0) (len := 1) (c := (511, [some (.ref x), l1, l2, l3], (.ref x :: S), h)) (by decide +kernel) rfl rfl rfl rfl,
  fun l0 l1 l2 x S h => zD_op (ins := .iload_n 3) (len := 1) (c := (512, [l0, l1, l2, some (.int x)], (.int x :: S), h)) (by decide +kernel) rfl rfl rfl rfl,
  fun l0 l1 l2 l3 S h => zD_icst (n := 1) (by decide +kernel) (by decide +kernel),
  fun l0 l1 l2 l3 x y r h => zD_op (ins := .iadd) (len := 1) (c := (514, [l0, l1, l2, l3], (.int (x + y) :: r), h)) (by decide +kernel) rfl rfl rfl rfl,
  fun l0 l1 l2 l3 i a r h hx => zD_iald (by decide +kernel) hx,
  fun l1 l2 l3 x S h => zD_op (ins := .aload_n 0) (len := 1) (c := (516, [some (.ref x), l1, l2, l3], (.ref x :: S), h)) (by decide +kernel) rfl rfl rfl rfl,
  fun l0 l1 l2 x S h => zD_op (ins := .iload_n 3) (len := 1) (c := (517, [l0, l1, l2, some (.int x)], (.int x :: S), h)) (by decide +kernel) rfl rfl rfl rfl,
  fun l0 l1 l2 l3 S h => zD_icst (n := 2) (by decide +kernel) (by decide +kernel),
  fun l0 l1 l2 l3 x y r h => zD_op (ins := .iadd) (len := 1) (c := (519, [l0, l1, l2, l3], (.int (x + y) :: r), h)) (by decide +kernel) rfl rfl rfl rfl,
  fun l0 l1 l2 l3 i a r h hx => zD_iald (by decide +kernel) hx,
  fun l0 l1 l2 l3 p0 p1 a r h hcat hr hC => zD_callv (i := 65) (y := 143) (n := 2) (as := [.int p0, .int p1]) (ci := 9) (by decide +kernel) (by decide +kernel) rfl (by decide +kernel) (Nat.le_of_ble_eq_true rfl) (by decide +kernel) hcat hr hC,
  fun l0 l1 l2 l3 x y r h => zD_if (cnd := .eq) (off := 382) (by decide +kernel) (by decide) rfl,
  fun l0 l1 l2 l3 S h => zD_icst (n := 0) (by decide +kernel) (by decide +kernel),
  fun l0 l1 l2 l3 v h hv => zD_iretz (by decide +kernel) rfl hv,
  fun l0 l2 l3 x S h => zD_op (ins := .aload_n 1) (len := 1) (c := (529, [l0, some (.ref x), l2, l3], (.ref x :: S), h)) (by decide +kernel) rfl rfl rfl rfl,
  fun l0 l2 l3 S h => zD_op (ins := .aload_n 1) (len := 1) (c := (529, [l0, some .null, l2, l3], (.null :: S), h)) (by decide +kernel) rfl rfl rfl rfl,
  fun l1 l2 l3 x S h => zD_op (ins := .aload_n 0) (len := 1) (c := (530, [some (.ref x), l1, l2, l3], (.ref x :: S), h)) (by decide +kernel) rfl rfl rfl rfl,
  fun l0 l1 l2 x S h => zD_op (ins := .iload_n 3) (len := 1) (c := (531, [l0, l1, l2, some (.int x)], (.int x :: S), h)) (by decide +kernel) rfl rfl rfl rfl,
  fun l0 l1 l2 l3 S h => zD_icst (n := 1) (by decide +kernel) (by decide +kernel),
  fun l0 l1 l2 l3 x y r h => zD_op (ins := .iadd) (len := 1) (c := (533, [l0, l1, l2, l3], (.int (x + y) :: r), h)) (by decide +kernel) rfl rfl rfl rfl,
  fun l0 l1 l2 l3 i a r h hx => zD_iald (by decide +kernel) hx,
  fun l0 l1 l2 l3 p0 a r h hcat hr hC => zD_callv (i := 66) (y := 155) (n := 1) (as := [.int p0]) (ci := 8) (by decide +kernel) (by decide +kernel) rfl (by decide +kernel) (Nat.le_of_ble_eq_true rfl) (by decide +kernel) hcat hr hC,
  fun l0 l1 l3 x S h => zD_op (ins := .aload_n 2) (len := 1) (c := (538, [l0, l1, some (.ref x), l3], (.ref x :: S), h)) (by decide +kernel) rfl rfl rfl rfl,
  fun l0 l1 l3 S h => zD_op (ins := .aload_n 2) (len := 1) (c := (538, [l0, l1, some .null, l3], (.null :: S), h)) (by decide +kernel) rfl rfl rfl rfl,
  fun l1 l2 l3 x S h => zD_op (ins := .aload_n 0) (len := 1) (c := (539, [some (.ref x), l1, l2, l3], (.ref x :: S), h)) (by decide +kernel) rfl rfl rfl rfl,
  fun l0 l1 l2 x S h => zD_op (ins := .iload_n 3) (len := 1) (c := (540, [l0, l1, l2, some (.int x)], (.int x :: S), h)) (by decide +kernel) rfl rfl rfl rfl,
  fun l0 l1 l2 l3 S h => zD_icst (n := 1) (by decide +kernel) (by decide +kernel),
  fun l0 l1 l2 l3 x y r h => zD_op (ins := .iadd) (len := 1) (c := (542, [l0, l1, l2, l3], (.int (x + y) :: r), h)) (by decide +kernel) rfl rfl rfl rfl,
  fun l0 l1 l2 l3 i a r h hx => zD_iald (by decide +kernel) hx,
  fun l0 l1 l2 l3 p0 a r h hcat hr hC => zD_callv (i := 70) (y := 144) (n := 1) (as := [.int p0]) (ci := 9) (by decide +kernel) (by decide +kernel) rfl (by decide +kernel) (Nat.le_of_ble_eq_true rfl) (by decide +kernel) hcat hr hC,
  fun l0 l1 l2 l3 x y r h => zD_op (ins := .lcmp) (len := 1) (c := (547, [l0, l1, l2, l3], (.int (lg_cmp x y) :: r), h)) (by decide +kernel) rfl rfl rfl rfl,
  fun l0 l1 l2 l3 x r h => zD_if0 (cnd := .eq) (off := 358) (by decide +kernel) (by decide) rfl,
  fun l0 l1 l2 l3 S h => zD_icst (n := 0) (by decide +kernel) (by decide +kernel),
  fun l0 l1 l2 l3 v h hv => zD_iretz (by decide +kernel) rfl hv,
  fun l0 l2 l3 x S h => zD_op (ins := .aload_n 1) (len := 1) (c := (553, [l0, some (.ref x), l2, l3], (.ref x :: S), h)) (by decide +kernel) rfl rfl rfl rfl,
  fun l0 l2 l3 S h => zD_op (ins := .aload_n 1) (len := 1) (c := (553, [l0, some .null, l2, l3], (.null :: S), h)) (by decide +kernel) rfl rfl rfl rfl,
  fun l1 l2 l3 x S h => zD_op (ins := .aload_n 0) (len := 1) (c := (554, [some (.ref x), l1, l2, l3], (.ref x :: S), h)) (by decide +kernel) rfl rfl rfl rfl,
  fun l0 l1 l2 x S h => zD_op (ins := .iload_n 3) (len := 1) (c := (555, [l0, l1, l2, some (.int x)], (.int x :: S), h)) (by decide +kernel) rfl rfl rfl rfl,
  fun l0 l1 l2 l3 S h => zD_icst (n := 1) (by decide +kernel) (by decide +kernel),
  fun l0 l1 l2 l3 x y r h => zD_op (ins := .iadd) (len := 1) (c := (557, [l0, l1, l2, l3], (.int (x + y) :: r), h)) (by decide +kernel) rfl rfl rfl rfl,
  fun l0 l1 l2 l3 i a r h hx => zD_iald (by decide +kernel) hx,
  fun l0 l1 l2 l3 p0 a r h hcat hr hC => zD_callv (i := 71) (y := 162) (n := 1) (as := [.int p0]) (ci := 8) (by decide +kernel) (by decide +kernel) rfl (by decide +kernel) (Nat.le_of_ble_eq_true rfl) (by decide +kernel) hcat hr hC,
  fun l0 l1 l3 x S h => zD_op (ins := .aload_n 2) (len := 1) (c := (562, [l0, l1, some (.ref x), l3], (.ref x :: S), h)) (by decide +kernel) rfl rfl rfl rfl,
  fun l0 l1 l3 S h => zD_op (ins := .aload_n 2) (len := 1) (c := (562, [l0, l1, some .null, l3], (.null :: S), h)) (by decide +kernel) rfl rfl rfl rfl,
  fun l1 l2 l3 x S h => zD_op (ins := .aload_n 0) (len := 1) (c := (563, [some (.ref x), l1, l2, l3], (.ref x :: S), h)) (by decide +kernel) rfl rfl rfl rfl,
  fun l0 l1 l2 x S h => zD_op (ins := .iload_n 3) (len := 1) (c := (564, [l0, l1, l2, some (.int x)], (.int x :: S), h)) (by decide +kernel) rfl rfl rfl rfl,
  fun l0 l1 l2 l3 S h => zD_icst (n := 1) (by decide +kernel) (by decide +kernel),
  fun l0 l1 l2 l3 x y r h => zD_op (ins := .iadd) (len := 1) (c := (566, [l0, l1, l2, l3], (.int (x + y) :: r), h)) (by decide +kernel) rfl rfl rfl rfl,
  fun l0 l1 l2 l3 i a r h hx => zD_iald (by decide +kernel) hx,
  fun l0 l1 l2 l3 p0 a r h hcat hr hC => zD_callv (i := 74) (y := 145) (n := 1) (as := [.int p0]) (ci := 9) (by decide +kernel) (by decide +kernel) rfl (by decide +kernel) (Nat.le_of_ble_eq_true rfl) (by decide +kernel) hcat hr hC,
  fun l0 l1 l2 l3 x y r h => zD_if (cnd := .eq) (off := 335) (by decide +kernel) (by decide) rfl,
  fun l0 l1 l2 l3 S h => zD_icst (n := 0) (by decide +kernel) (by decide +kernel),
  fun l0 l1 l2 l3 v h hv => zD_iretz (by decide +kernel) rfl hv,
  fun l0 l2 l3 x S h => zD_op (ins := .aload_n 1) (len := 1) (c := (576, [l0, some (.ref x), l2, l3], (.ref x :: S), h)) (by decide +kernel) rfl rfl rfl rfl,
  fun l0 l2 l3 S h => zD_op (ins := .aload_n 1) (len := 1) (c := (576, [l0, some .null, l2, l3], (.null :: S), h)) (by decide +kernel) rfl rfl rfl rfl,
  fun l0 l1 l2 l3 a r h hcat hr hC => zD_callv (i := 75) (y := 156) (n := 0) (as := []) (ci := 8) (by decide +kernel) (by decide +kernel) rfl (by decide +kernel) (Nat.le_of_ble_eq_true rfl) (by decide +kernel) hcat hr hC,
  fun l0 l1 l3 x S h => zD_op (ins := .aload_n 2) (len := 1) (c := (580, [l0, l1, some (.ref x), l3], (.ref x :: S), h)) (by decide +kernel) rfl rfl rfl rfl,
  fun l0 l1 l3 S h => zD_op (ins := .aload_n 2) (len := 1) (c := (580, [l0, l1, some .null, l3], (.null :: S), h)) (by decide +kernel) rfl rfl rfl rfl,
  fun l0 l1 l2 l3 a r h hcat hr hC => zD_callv (i := 78) (y := 120) (n := 0) (as := []) (ci := 9) (by decide +kernel) (by decide +kernel) rfl (by decide +kernel) (Nat.le_of_ble_eq_true rfl) (by decide +kernel) hcat hr hC,
  fun l0 l1 l2 l3 x y r h => zD_if (cnd := .eq) (off := 322) (by decide +kernel) (by decide) rfl,
  fun l0 l1 l2 l3 S h => zD_icst (n := 0) (by decide +kernel) (by decide +kernel),
  fun l0 l1 l2 l3 v h hv => zD_iretz (by decide +kernel) rfl hv,
  fun l0 l2 l3 x S h => zD_op (ins := .aload_n 1) (len := 1) (c := (589, [l0, some (.ref x), l2, l3], (.ref x :: S), h)) (by decide +kernel) rfl rfl rfl rfl,
  fun l0 l2 l3 S h => zD_op (ins := .aload_n 1) (len := 1) (c := (589, [l0, some .null, l2, l3], (.null :: S), h)) (by decide +kernel) rfl rfl rfl rfl,
  fun l1 l2 l3 x S h => zD_op (ins := .aload_n 0) (len := 1) (c := (590, [some (.ref x), l1, l2, l3], (.ref x :: S), h)) (by decide +kernel) rfl rfl rfl rfl,
  fun l0 l1 l2 x S h => zD_op (ins := .iload_n 3) (len := 1) (c := (591, [l0, l1, l2, some (.int x)], (.int x :: S), h)) (by decide +kernel) rfl rfl rfl rfl,
  fun l0 l1 l2 l3 S h => zD_icst (n := 1) (by decide +kernel) (by decide +kernel),
  fun l0 l1 l2 l3 x y r h => zD_op (ins := .iadd) (len := 1) (c := (593, [l0, l1, l2, l3], (.int (x + y) :: r), h)) (by decide +kernel) rfl rfl rfl rfl,
  fun l0 l1 l2 l3 i a r h hx => zD_iald (by decide +kernel) hx,
  fun l0 l1 l2 l3 p0 a r h hcat hr hC => zD_callv (i := 79) (y := 109) (n := 1) (as := [.int p0]) (ci := 8) (by decide +kernel) (by decide +kernel) rfl (by decide +kernel) (Nat.le_of_ble_eq_true rfl) (by decide +kernel) hcat hr hC,
  fun l0 l1 l3 x S h => zD_op (ins := .aload_n 2) (len := 1) (c := (598, [l0, l1, some (.ref x), l3], (.ref x :: S), h)) (by decide +kernel) rfl rfl rfl rfl,
  fun l0 l1 l3 S h => zD_op (ins := .aload_n 2) (len := 1) (c := (598, [l0, l1, some .null, l3], (.null :: S), h)) (by decide +kernel) rfl rfl rfl rfl,
  fun l1 l2 l3 x S h => zD_op (ins := .aload_n 0) (len := 1) (c := (599, [some (.ref x), l1, l2, l3], (.ref x :: S), h)) (by decide +kernel) rfl rfl rfl rfl,
  fun l0 l1 l2 x S h => zD_op (ins := .iload_n 3) (len := 1) (c := (600, [l0, l1, l2, some (.int x)], (.int x :: S), h)) (by decide +kernel) rfl rfl rfl rfl,
  fun l0 l1 l2 l3 S h => zD_icst (n := 1) (by decide +kernel) (by decide +kernel),
  fun l0 l1 l2 l3 x y r h => zD_op (ins := .iadd) (len := 1) (c := (602, [l0, l1, l2, l3], (.int (x + y) :: r), h)) (by decide +kernel) rfl rfl rfl rfl,
  fun l0 l1 l2 l3 i a r h hx => zD_iald (by decide +kernel) hx,
  fun l0 l1 l2 l3 p0 a r h hcat hr hC => zD_callv (i := 82) (y := 121) (n := 1) (as := [.int p0]) (ci := 9) (by decide +kernel) (by decide +kernel) rfl (by decide +kernel) (Nat.le_of_ble_eq_true rfl) (by decide +kernel) hcat hr hC,
  fun l0 l1 l2 l3 x y r h => zD_if (cnd := .eq) (off := 299) (by decide +kernel) (by decide) rfl,
  fun l0 l1 l2 l3 S h => zD_icst (n := 0) (by decide +kernel) (by decide +kernel),
  fun l0 l1 l2 l3 v h hv => zD_iretz (by decide +kernel) rfl hv,
  fun l0 l2 l3 x S h => zD_op (ins := .aload_n 1) (len := 1) (c := (612, [l0, some (.ref x), l2, l3], (.ref x :: S), h)) (by decide +kernel) rfl rfl rfl rfl,
  fun l0 l2 l3 S h => zD_op (ins := .aload_n 1) (len := 1) (c := (612, [l0, some .null, l2, l3], (.null :: S), h)) (by decide +kernel) rfl rfl rfl rfl,
  fun l1 l2 l3 x S h => zD_op (ins := .aload_n 0) (len := 1) (c := (613, [some (.ref x), l1, l2, l3], (.ref x :: S), h)) (by decide +kernel) rfl rfl rfl rfl,
  fun l0 l1 l2 x S h => zD_op (ins := .iload_n 3) (len := 1) (c := (614, [l0, l1, l2, some (.int x)], (.int x :: S), h)) (by decide +kernel) rfl rfl rfl rfl,
  fun l0 l1 l2 l3 S h => zD_icst (n := 1) (by decide +kernel) (by decide +kernel),
  fun l0 l1 l2 l3 x y r h => zD_op (ins := .iadd) (len := 1) (c := (616, [l0, l1, l2, l3], (.int (x + y) :: r), h)) (by decide +kernel) rfl rfl rfl rfl,
  fun l0 l1 l2 l3 i a r h hx => zD_iald (by decide +kernel) hx,
  fun l0 l1 l2 l3 p0 a r h hcat hr hC => zD_callv (i := 83) (y := 110) (n := 1) (as := [.int p0]) (ci := 8) (by decide +kernel) (by decide +kernel) rfl (by decide +kernel) (Nat.le_of_ble_eq_true rfl) (by decide +kernel) hcat hr hC,
  fun l0 l1 l3 x S h => zD_op (ins := .aload_n 2) (len := 1) (c := (621, [l0, l1, some (.ref x), l3], (.ref x :: S), h)) (by decide +kernel) rfl rfl rfl rfl,
  fun l0 l1 l3 S h => zD_op (ins := .aload_n 2) (len := 1) (c := (621, [l0, l1, some .null, l3], (.null :: S), h)) (by decide +kernel) rfl rfl rfl rfl,
  fun l1 l2 l3 x S h => zD_op (ins := .aload_n 0) (len := 1) (c := (622, [some (.ref x), l1, l2, l3], (.ref x :: S), h)) (by decide +kernel) rfl rfl rfl rfl,
  fun l0 l1 l2 x S h => zD_op (ins := .iload_n 3) (len := 1) (c := (623, [l0, l1, l2, some (.int x)], (.int x :: S), h)) (by decide +kernel) rfl rfl rfl rfl,
  fun l0 l1 l2 l3 S h => zD_icst (n := 1) (by decide +kernel) (by decide +kernel),
  fun l0 l1 l2 l3 x y r h => zD_op (ins := .iadd) (len := 1) (c := (625, [l0, l1, l2, l3], (.int (x + y) :: r), h)) (by decide +kernel) rfl rfl rfl rfl,
  fun l0 l1 l2 l3 i a r h hx => zD_iald (by decide +kernel) hx,
  fun l0 l1 l2 l3 p0 a r h hcat hr hC => zD_callv (i := 86) (y := 122) (n := 1) (as := [.int p0]) (ci := 9) (by decide +kernel) (by decide +kernel) rfl (by decide +kernel) (Nat.le_of_ble_eq_true rfl) (by decide +kernel) hcat hr hC,
  fun l0 l1 l2 l3 x y r h => zD_if (cnd := .eq) (off := 276) (by decide +kernel) (by decide) rfl,
  fun l0 l1 l2 l3 S h => zD_icst (n := 0) (by decide +kernel) (by decide +kernel),
  fun l0 l1 l2 l3 v h hv => zD_iretz (by decide +kernel) rfl hv,
  fun l0 l2 l3 x S h => zD_op (ins := .aload_n 1) (len := 1) (c := (635, [l0, some (.ref x), l2, l3], (.ref x :: S), h)) (by decide +kernel) rfl rfl rfl rfl,
  fun l0 l2 l3 S h => zD_op (ins := .aload_n 1) (len := 1) (c := (635, [l0, some .null, l2, l3], (.null :: S), h)) (by decide +kernel) rfl rfl rfl rfl,
  fun l1 l2 l3 x S h => zD_op (ins := .aload_n 0) (len := 1) (c := (636, [some (.ref x), l1, l2, l3], (.ref x :: S), h)) (by decide +kernel) rfl rfl rfl rfl,
  fun l0 l1 l2 x S h => zD_op (ins := .iload_n 3) (len := 1) (c := (637, [l0, l1, l2, some (.int x)], (.int x :: S), h)) (by decide +kernel) rfl rfl rfl rfl,
  fun l0 l1 l2 l3 S h => zD_icst (n := 1) (by decide +kernel) (by decide +kernel),
  fun l0 l1 l2 l3 x y r h => zD_op (ins := .iadd) (len := 1) (c := (639, [l0, l1, l2, l3], (.int (x + y) :: r), h)) (by decide +kernel) rfl rfl rfl rfl,
  fun l0 l1 l2 l3 i a r h hx => zD_iald (by decide +kernel) hx,
  fun l1 l2 l3 x S h => zD_op (ins := .aload_n 0) (len := 1) (c := (641, [some (.ref x), l1, l2, l3], (.ref x :: S), h)) (by decide +kernel) rfl rfl rfl rfl,
  fun l0 l1 l2 x S h => zD_op (ins := .iload_n 3) (len := 1) (c := (642, [l0, l1, l2, some (.int x)], (.int x :: S), h)) (by decide +kernel) rfl rfl rfl rfl,
  fun l0 l1 l2 l3 S h => zD_icst (n := 2) (by decide +kernel) (by decide +kernel),
  fun l0 l1 l2 l3 x y r h => zD_op (ins := .iadd) (len := 1) (c := (644, [l0, l1, l2, l3], (.int (x + y) :: r), h)) (by decide +kernel) rfl rfl rfl rfl,
  fun l0 l1 l2 l3 i a r h hx => zD_iald (by decide +kernel) hx,
  fun l1 l2 l3 x S h => zD_op (ins := .aload_n 0) (len := 1) (c := (646, [some (.ref x), l1, l2, l3], (.ref x :: S), h)) (by decide +kernel) rfl rfl rfl rfl,
  fun l0 l1 l2 x S h => zD_op (ins := .iload_n 3) (len := 1) (c := (647, [l0, l1, l2, some (.int x)], (.int x :: S), h)) (by decide +kernel) rfl rfl rfl rfl,
  fun l0 l1 l2 l3 S h => zD_icst (n := 3) (by decide +kernel) (by decide +kernel),
  fun l0 l1 l2 l3 x y r h => zD_op (ins := .iadd) (len := 1) (c := (649, [l0, l1, l2, l3], (.int (x + y) :: r), h)) (by decide +kernel) rfl rfl rfl rfl,
  fun l0 l1 l2 l3 i a r h hx => zD_iald (by decide +kernel) hx,
  fun l0 l1 l2 l3 p0 p1 p2 a r h hcat hr hC => zD_callv (i := 87) (y := 70) (n := 3) (as := [.int p0, .int p1, .int p2]) (ci := 8) (by decide +kernel) (by decide +kernel) rfl (by decide +kernel) (Nat.le_of_ble_eq_true rfl) (by decide +kernel) hcat hr hC,
  fun l0 l1 l3 x S h => zD_op (ins := .aload_n 2) (len := 1) (c := (654, [l0, l1, some (.ref x), l3], (.ref x :: S), h)) (by decide +kernel) rfl rfl rfl rfl,
  fun l0 l1 l3 S h => zD_op (ins := .aload_n 2) (len := 1) (c := (654, [l0, l1, some .null, l3], (.null :: S), h)) (by decide +kernel) rfl rfl rfl rfl,
  fun l1 l2 l3 x S h => zD_op (ins := .aload_n 0) (len := 1) (c := (655, [some (.ref x), l1, l2, l3], (.ref x :: S), h)) (by decide +kernel) rfl rfl rfl rfl,
  fun l0 l1 l2 x S h => zD_op (ins := .iload_n 3) (len := 1) (c := (656, [l0, l1, l2, some (.int x)], (.int x :: S), h)) (by decide +kernel) rfl rfl rfl rfl,
  fun l0 l1 l2 l3 S h => zD_icst (n := 1) (by decide +kernel) (by decide +kernel),
  fun l0 l1 l2 l3 x y r h => zD_op (ins := .iadd) (len := 1) (c := (658, [l0, l1, l2, l3], (.int (x + y) :: r), h)) (by decide +kernel) rfl rfl rfl rfl,
  fun l0 l1 l2 l3 i a r h hx => zD_iald (by decide +kernel) hx,
  fun l1 l2 l3 x S h => zD_op (ins := .aload_n 0) (len := 1) (c := (660, [some (.ref x), l1, l2, l3], (.ref x :: S), h)) (by decide +kernel) rfl rfl rfl rfl,
  fun l0 l1 l2 x S h => zD_op (ins := .iload_n 3) (len := 1) (c := (661, [l0, l1, l2, some (.int x)], (.int x :: S), h)) (by decide +kernel) rfl rfl rfl rfl,
  fun l0 l1 l2 l3 S h => zD_icst (n := 2) (by decide +kernel) (by decide +kernel),
  fun l0 l1 l2 l3 x y r h => zD_op (ins := .iadd) (len := 1) (c := (663, [l0, l1, l2, l3], (.int (x + y) :: r), h)) (by decide +kernel) rfl rfl rfl rfl,
  fun l0 l1 l2 l3 i a r h hx => zD_iald (by decide +kernel) hx,
  fun l1 l2 l3 x S h => zD_op (ins := .aload_n 0) (len := 1) (c := (665, [some (.ref x), l1, l2, l3], (.ref x :: S), h)) (by decide +kernel) rfl rfl rfl rfl,
  fun l0 l1 l2 x S h => zD_op (ins := .iload_n 3) (len := 1) (c := (666, [l0, l1, l2, some (.int x)], (.int x :: S), h)) (by decide +kernel) rfl rfl rfl rfl,
  fun l0 l1 l2 l3 S h => zD_icst (n := 3) (by decide +kernel) (by decide +kernel),
  fun l0 l1 l2 l3 x y r h => zD_op (ins := .iadd) (len := 1) (c := (668, [l0, l1, l2, l3], (.int (x + y) :: r), h)) (by decide +kernel) rfl rfl rfl rfl,
  fun l0 l1 l2 l3 i a r h hx => zD_iald (by decide +kernel) hx,
  fun l0 l1 l2 l3 p0 p1 p2 a r h hcat hr hC => zD_callv (i := 90) (y := 82) (n := 3) (as := [.int p0, .int p1, .int p2]) (ci := 9) (by decide +kernel) (by decide +kernel) rfl (by decide +kernel) (Nat.le_of_ble_eq_true rfl) (by decide +kernel) hcat hr hC,
  fun l0 l1 l2 l3 x y r h => zD_if (cnd := .eq) (off := 233) (by decide +kernel) (by decide) rfl,
  fun l0 l1 l2 l3 S h => zD_icst (n := 0) (by decide +kernel) (by decide +kernel),
  fun l0 l1 l2 l3 v h hv => zD_iretz (by decide +kernel) rfl hv,
  fun l0 l2 l3 x S h => zD_op (ins := .aload_n 1) (len := 1) (c := (678, [l0, some (.ref x), l2, l3], (.ref x :: S), h)) (by decide +kernel) rfl rfl rfl rfl,
  fun l0 l2 l3 S h => zD_op (ins := .aload_n 1) (len := 1) (c := (678, [l0, some .null, l2, l3], (.null :: S), h)) (by decide +kernel) rfl rfl rfl rfl,
  fun l0 l1 l2 l3 a r h hcat hr hC => zD_callv (i := 91) (y := 111) (n := 0) (as := []) (ci := 8) (by decide +kernel) (by decide +kernel) rfl (by decide +kernel) (Nat.le_of_ble_eq_true rfl) (by decide +kernel) hcat hr hC,
  fun l0 l1 l3 x S h => zD_op (ins := .aload_n 2) (len := 1) (c := (682, [l0, l1, some (.ref x), l3], (.ref x :: S), h)) (by decide +kernel) rfl rfl rfl rfl,
  fun l0 l1 l3 S h => zD_op (ins := .aload_n 2) (len := 1) (c := (682, [l0, l1, some .null, l3], (.null :: S), h)) (by decide +kernel) rfl rfl rfl rfl,
  fun l0 l1 l2 l3 a r h hcat hr hC => zD_callv (i := 94) (y := 83) (n := 0) (as := []) (ci := 9) (by decide +kernel) (by decide +kernel) rfl (by decide +kernel) (Nat.le_of_ble_eq_true rfl) (by decide +kernel) hcat hr hC,
  fun l0 l1 l2 l3 x y r h => zD_if (cnd := .eq) (off := 220) (by decide +kernel) (by decide) rfl,
  fun l0 l1 l2 l3 S h => zD_icst (n := 0) (by decide +kernel) (by decide +kernel),
  fun l0 l1 l2 l3 v h hv => zD_iretz (by decide +kernel) rfl hv,
  fun l0 l2 l3 x S h => zD_op (ins := .aload_n 1) (len := 1) (c := (691, [l0, some (.ref x), l2, l3], (.ref x :: S), h)) (by decide +kernel) rfl rfl rfl rfl,
  fun l0 l2 l3 S h => zD_op (ins := .aload_n 1) (len := 1) (c := (691, [l0, some .null, l2, l3], (.null :: S), h)) (by decide +kernel) rfl rfl rfl rfl,
  fun l1 l2 l3 x S h => zD_op (ins := .aload_n 0) (len := 1) (c := (692, [some (.ref x), l1, l2, l3], (.ref x :: S), h)) (by decide +kernel) rfl rfl rfl rfl,
  fun l0 l1 l2 x S h => zD_op (ins := .iload_n 3) (len := 1) (c := (693, [l0, l1, l2, some (.int x)], (.int x :: S), h)) (by decide +kernel) rfl rfl rfl rfl,
  fun l0 l1 l2 l3 S h => zD_icst (n := 1) (by decide +kernel) (by decide +kernel),
  fun l0 l1 l2 l3 x y r h => zD_op (ins := .iadd) (len := 1) (c := (695, [l0, l1, l2, l3], (.int (x + y) :: r), h)) (by decide +kernel) rfl rfl rfl rfl,
  fun l0 l1 l2 l3 i a r h hx => zD_iald (by decide +kernel) hx,
  fun l1 l2 l3 x S h => zD_op (ins := .aload_n 0) (len := 1) (c := (697, [some (.ref x), l1, l2, l3], (.ref x :: S), h)) (by decide +kernel) rfl rfl rfl rfl,
  fun l0 l1 l2 x S h => zD_op (ins := .iload_n 3) (len := 1) (c := (698, [l0, l1, l2, some (.int x)], (.int x :: S), h)) (by decide +kernel) rfl rfl rfl rfl,
  fun l0 l1 l2 l3 S h => zD_icst (n := 2) (by decide +kernel) (by decide +kernel),
  fun l0 l1 l2 l3 x y r h => zD_op (ins := .iadd) (len := 1) (c := (700, [l0, l1, l2, l3], (.int (x + y) :: r), h)) (by decide +kernel) rfl rfl rfl rfl,
  fun l0 l1 l2 l3 i a r h hx => zD_iald (by decide +kernel) hx,
  fun l1 l2 l3 x S h => zD_op (ins := .aload_n 0) (len := 1) (c := (702, [some (.ref x), l1, l2, l3], (.ref x :: S), h)) (by decide +kernel) rfl rfl rfl rfl,
  fun l0 l1 l2 x S h => zD_op (ins := .iload_n 3) (len := 1) (c := (703, [l0, l1, l2, some (.int x)], (.int x :: S), h)) (by decide +kernel) rfl rfl rfl rfl,
  fun l0 l1 l2 l3 S h => zD_icst (n := 3) (by decide +kernel) (by decide +kernel),
  fun l0 l1 l2 l3 x y r h => zD_op (ins := .iadd) (len := 1) (c := (705, [l0, l1, l2, l3], (.int (x + y) :: r), h)) (by decide +kernel) rfl rfl rfl rfl,
  fun l0 l1 l2 l3 i a r h hx => zD_iald (by decide +kernel) hx,
  fun l0 l1 l2 l3 p0 p1 p2 a r h hcat hr hC => zD_callv (i := 95) (y := 71) (n := 3) (as := [.int p0, .int p1, .int p2]) (ci := 8) (by decide +kernel) (by decide +kernel) rfl (by decide +kernel) (Nat.le_of_ble_eq_true rfl) (by decide +kernel) hcat hr hC,
  fun l0 l1 l3 x S h => zD_op (ins := .aload_n 2) (len := 1) (c := (710, [l0, l1, some (.ref x), l3], (.ref x :: S), h)) (by decide +kernel) rfl rfl rfl rfl,
  fun l0 l1 l3 S h => zD_op (ins := .aload_n 2) (len := 1) (c := (710, [l0, l1, some .null, l3], (.null :: S), h)) (by decide +kernel) rfl rfl rfl rfl,
  fun l1 l2 l3 x S h => zD_op (ins := .aload_n 0) (len := 1) (c := (711, [some (.ref x), l1, l2, l3], (.ref x :: S), h)) (by decide +kernel) rfl rfl rfl rfl,
  fun l0 l1 l2 x S h => zD_op (ins := .iload_n 3) (len := 1) (c := (712, [l0, l1, l2, some (.int x)], (.int x :: S), h)) (by decide +kernel) rfl rfl rfl rfl,
  fun l0 l1 l2 l3 S h => zD_icst (n := 1) (by decide +kernel) (by decide +kernel),
  fun l0 l1 l2 l3 x y r h => zD_op (ins := .iadd) (len := 1) (c := (714, [l0, l1, l2, l3], (.int (x + y) :: r), h)) (by decide +kernel) rfl rfl rfl rfl,
  fun l0 l1 l2 l3 i a r h hx => zD_iald (by decide +kernel) hx,
  fun l1 l2 l3 x S h => zD_op (ins := .aload_n 0) (len := 1) (c := (716, [some (.ref x), l1, l2, l3], (.ref x :: S), h)) (by decide +kernel) rfl rfl rfl rfl,
  fun l0 l1 l2 x S h => zD_op (ins := .iload_n 3) (len := 1) (c := (717, [l0, l1, l2, some (.int x)], (.int x :: S), h)) (by decide +kernel) rfl rfl rfl rfl,
  fun l0 l1 l2 l3 S h => zD_icst (n := 2) (by decide +kernel) (by decide +kernel),
  fun l0 l1 l2 l3 x y r h => zD_op (ins := .iadd) (len := 1) (c := (719, [l0, l1, l2, l3], (.int (x + y) :: r), h)) (by decide +kernel) rfl rfl rfl rfl,
  fun l0 l1 l2 l3 i a r h hx => zD_iald (by decide +kernel) hx,
  fun l1 l2 l3 x S h => zD_op (ins := .aload_n 0) (len := 1) (c := (721, [some (.ref x), l1, l2, l3], (.ref x :: S), h)) (by decide +kernel) rfl rfl rfl rfl,
  fun l0 l1 l2 x S h => zD_op (ins := .iload_n 3) (len := 1) (c := (722, [l0, l1, l2, some (.int x)], (.int x :: S), h)) (by decide +kernel) rfl rfl rfl rfl,
  fun l0 l1 l2 l3 S h => zD_icst (n := 3) (by decide +kernel) (by decide +kernel),
  fun l0 l1 l2 l3 x y r h => zD_op (ins := .iadd) (len := 1) (c := (724, [l0, l1, l2, l3], (.int (x + y) :: r), h)) (by decide +kernel) rfl rfl rfl rfl,
  fun l0 l1 l2 l3 i a r h hx => zD_iald (by decide +kernel) hx,
  fun l0 l1 l2 l3 p0 p1 p2 a r h hcat hr hC => zD_callv (i := 98) (y := 84) (n := 3) (as := [.int p0, .int p1, .int p2]) (ci := 9) (by decide +kernel) (by decide +kernel) rfl (by decide +kernel) (Nat.le_of_ble_eq_true rfl) (by decide +kernel) hcat hr hC,
  fun l0 l1 l2 l3 x y r h => zD_if (cnd := .eq) (off := 177) (by decide +kernel) (by decide) rfl,
  fun l0 l1 l2 l3 S h => zD_icst (n := 0) (by decide +kernel) (by decide +kernel),
  fun l0 l1 l2 l3 v h hv => zD_iretz (by decide +kernel) rfl hv,
  fun l0 l2 l3 x S h => zD_op (ins := .aload_n 1) (len := 1) (c := (734, [l0, some (.ref x), l2, l3], (.ref x :: S), h)) (by decide +kernel) rfl rfl rfl rfl,
  fun l0 l2 l3 S h => zD_op (ins := .aload_n 1) (len := 1) (c := (734, [l0, some .null, l2, l3], (.null :: S), h)) (by decide +kernel) rfl rfl rfl rfl,
  fun l0 l1 l2 l3 a r h hcat hr hC => zD_callv (i := 99) (y := 21) (n := 0) (as := []) (ci := 8) (by decide +kernel) (by decide +kernel) rfl (by decide +kernel) (Nat.le_of_ble_eq_true rfl) (by decide +kernel) hcat hr hC,
  fun l0 l1 l3 x S h => zD_op (ins := .aload_n 2) (len := 1) (c := (738, [l0, l1, some (.ref x), l3], (.ref x :: S), h)) (by decide +kernel) rfl rfl rfl rfl,
  fun l0 l1 l3 S h => zD_op (ins := .aload_n 2) (len := 1) (c := (738, [l0, l1, some .null, l3], (.null :: S), h)) (by decide +kernel) rfl rfl rfl rfl,
  fun l0 l1 l2 l3 a r h hcat hr hC => zD_callv (i := 102) (y := 35) (n := 0) (as := []) (ci := 9) (by decide +kernel) (by decide +kernel) rfl (by decide +kernel) (Nat.le_of_ble_eq_true rfl) (by decide +kernel) hcat hr hC,
  fun l0 l1 l2 l3 x y r h => zD_if (cnd := .eq) (off := 164) (by decide +kernel) (by decide) rfl,
  fun l0 l1 l2 l3 S h => zD_icst (n := 0) (by decide +kernel) (by decide +kernel),
  fun l0 l1 l2 l3 v h hv => zD_iretz (by decide +kernel) rfl hv,
  fun l0 l2 l3 x S h => zD_op (ins := .aload_n 1) (len := 1) (c := (747, [l0, some (.ref x), l2, l3], (.ref x :: S), h)) (by decide +kernel) rfl rfl rfl rfl,
  fun l0 l2 l3 S h => zD_op (ins := .aload_n 1) (len := 1) (c := (747, [l0, some .null, l2, l3], (.null :: S), h)) (by decide +kernel) rfl rfl rfl rfl,
  fun l1 l2 l3 x S h => zD_op (ins := .aload_n 0) (len := 1) (c := (748, [some (.ref x), l1, l2, l3], (.ref x :: S), h)) (by decide +kernel) rfl rfl rfl rfl,
  fun l0 l1 l2 x S h => zD_op (ins := .iload_n 3) (len := 1) (c := (749, [l0, l1, l2, some (.int x)], (.int x :: S), h)) (by decide +kernel) rfl rfl rfl rfl,
  fun l0 l1 l2 l3 S h => zD_icst (n := 1) (by decide +kernel) (by decide +kernel),
  fun l0 l1 l2 l3 x y r h => zD_op (ins := .iadd) (len := 1) (c := (751, [l0, l1, l2, l3], (.int (x + y) :: r), h)) (by decide +kernel) rfl rfl rfl rfl,
  fun l0 l1 l2 l3 i a r h hx => zD_iald (by decide +kernel) hx,
  fun l0 l1 l2 l3 p0 a r h hcat hr hC => zD_callv (i := 103) (y := 163) (n := 1) (as := [.int p0]) (ci := 8) (by decide +kernel) (by decide +kernel) rfl (by decide +kernel) (Nat.le_of_ble_eq_true rfl) (by decide +kernel) hcat hr hC,
  fun l0 l1 l3 x S h => zD_op (ins := .aload_n 2) (len := 1) (c := (756, [l0, l1, some (.ref x), l3], (.ref x :: S), h)) (by decide +kernel) rfl rfl rfl rfl,
  fun l0 l1 l3 S h => zD_op (ins := .aload_n 2) (len := 1) (c := (756, [l0, l1, some .null, l3], (.null :: S), h)) (by decide +kernel) rfl rfl rfl rfl,
  fun l1 l2 l3 x S h => zD_op (ins := .aload_n 0) (len := 1) (c := (757, [some (.ref x), l1, l2, l3], (.ref x :: S), h)) (by decide +kernel) rfl rfl rfl rfl,
  fun l0 l1 l2 x S h => zD_op (ins := .iload_n 3) (len := 1) (c := (758, [l0, l1, l2, some (.int x)], (.int x :: S), h)) (by decide +kernel) rfl rfl rfl rfl,
  fun l0 l1 l2 l3 S h => zD_icst (n := 1) (by decide +kernel) (by decide +kernel),
  fun l0 l1 l2 l3 x y r h => zD_op (ins := .iadd) (len := 1) (c := (760, [l0, l1, l2, l3], (.int (x + y) :: r), h)) (by decide +kernel) rfl rfl rfl rfl,
  fun l0 l1 l2 l3 i a r h hx => zD_iald (by decide +kernel) hx,
  fun l0 l1 l2 l3 p0 a r h hcat hr hC => zD_callv (i := 106) (y := 146) (n := 1) (as := [.int p0]) (ci := 9) (by decide +kernel) (by decide +kernel) rfl (by decide +kernel) (Nat.le_of_ble_eq_true rfl) (by decide +kernel) hcat hr hC,
  fun l0 l1 l2 l3 x y r h => zD_if (cnd := .eq) (off := 141) (by decide +kernel) (by decide) rfl,
  fun l0 l1 l2 l3 S h => zD_icst (n := 0) (by decide +kernel) (by decide +kernel),
  fun l0 l1 l2 l3 v h hv => zD_iretz (by decide +kernel) rfl hv,
  fun l0 l2 l3 x S h => zD_op (ins := .aload_n 1) (len := 1) (c := (770, [l0, some (.ref x), l2, l3], (.ref x :: S), h)) (by decide +kernel) rfl rfl rfl rfl,
  fun l0 l2 l3 S h => zD_op (ins := .aload_n 1) (len := 1) (c := (770, [l0, some .null, l2, l3], (.null :: S), h)) (by decide +kernel) rfl rfl rfl rfl,
  fun l1 l2 l3 x S h => zD_op (ins := .aload_n 0) (len := 1) (c := (771, [some (.ref x), l1, l2, l3], (.ref x :: S), h)) (by decide +kernel) rfl rfl rfl rfl,
  fun l0 l1 l2 x S h => zD_op (ins := .iload_n 3) (len := 1) (c := (772, [l0, l1, l2, some (.int x)], (.int x :: S), h)) (by decide +kernel) rfl rfl rfl rfl,
  fun l0 l1 l2 l3 S h => zD_icst (n := 1) (by decide +kernel) (by decide +kernel),
  fun l0 l1 l2 l3 x y r h => zD_op (ins := .iadd) (len := 1) (c := (774, [l0, l1, l2, l3], (.int (x + y) :: r), h)) (by decide +kernel) rfl rfl rfl rfl,
  fun l0 l1 l2 l3 i a r h hx => zD_iald (by decide +kernel) hx,
  fun l1 l2 l3 x S h => zD_op (ins := .aload_n 0) (len := 1) (c := (776, [some (.ref x), l1, l2, l3], (.ref x :: S), h)) (by decide +kernel) rfl rfl rfl rfl,
  fun l0 l1 l2 x S h => zD_op (ins := .iload_n 3) (len := 1) (c := (777, [l0, l1, l2, some (.int x)], (.int x :: S), h)) (by decide +kernel) rfl rfl rfl rfl,
  fun l0 l1 l2 l3 S h => zD_icst (n := 2) (by decide +kernel) (by decide +kernel),
  fun l0 l1 l2 l3 x y r h => zD_op (ins := .iadd) (len := 1) (c := (779, [l0, l1, l2, l3], (.int (x + y) :: r), h)) (by decide +kernel) rfl rfl rfl rfl,
  fun l0 l1 l2 l3 i a r h hx => zD_iald (by decide +kernel) hx,
  fun l0 l1 l2 l3 p0 p1 a r h hcat hr hC => zD_callv (i := 107) (y := 164) (n := 2) (as := [.int p0, .int p1]) (ci := 8) (by decide +kernel) (by decide +kernel) rfl (by decide +kernel) (Nat.le_of_ble_eq_true rfl) (by decide +kernel) hcat hr hC,
  fun l0 l1 l3 x S h => zD_op (ins := .aload_n 2) (len := 1) (c := (784, [l0, l1, some (.ref x), l3], (.ref x :: S), h)) (by decide +kernel) rfl rfl rfl rfl,
  fun l0 l1 l3 S h => zD_op (ins := .aload_n 2) (len := 1) (c := (784, [l0, l1, some .null, l3], (.null :: S), h)) (by decide +kernel) rfl rfl rfl rfl,
  fun l1 l2 l3 x S h => zD_op (ins := .aload_n 0) (len := 1) (c := (785, [some (.ref x), l1, l2, l3], (.ref x :: S), h)) (by decide +kernel) rfl rfl rfl rfl,
  fun l0 l1 l2 x S h => zD_op (ins := .iload_n 3) (len := 1) (c := (786, [l0, l1, l2, some (.int x)], (.int x :: S), h)) (by decide +kernel) rfl rfl rfl rfl,
  fun l0 l1 l2 l3 S h => zD_icst (n := 1) (by decide +kernel) (by decide +kernel),
  fun l0 l1 l2 l3 x y r h => zD_op (ins := .iadd) (len := 1) (c := (788, [l0, l1, l2, l3], (.int (x + y) :: r), h)) (by decide +kernel) rfl rfl rfl rfl,
  fun l0 l1 l2 l3 i a r h hx => zD_iald (by decide +kernel) hx,
  fun l1 l2 l3 x S h => zD_op (ins := .aload_n 0) (len := 1) (c := (790, [some (.ref x), l1, l2, l3], (.ref x :: S), h)) (by decide +kernel) rfl rfl rfl rfl,
  fun l0 l1 l2 x S h => zD_op (ins := .iload_n 3) (len := 1) (c := (791, [l0, l1, l2, some (.int x)], (.int x :: S), h)) (by decide +kernel) rfl rfl rfl rfl,
  fun l0 l1 l2 l3 S h => zD_icst (n := 2) (by decide +kernel) (by decide +kernel),
  fun l0 l1 l2 l3 x y r h => zD_op (ins := .iadd) (len := 1) (c := (793, [l0, l1, l2, l3], (.int (x + y) :: r), h)) (by decide +kernel) rfl rfl rfl rfl,
  fun l0 l1 l2 l3 i a r h hx => zD_iald (by decide +kernel) hx,
  fun l0 l1 l2 l3 p0 p1 a r h hcat hr hC => zD_callv (i := 110) (y := 147) (n := 2) (as := [.int p0, .int p1]) (ci := 9) (by decide +kernel) (by decide +kernel) rfl (by decide +kernel) (Nat.le_of_ble_eq_true rfl) (by decide +kernel) hcat hr hC,
  fun l0 l1 l2 l3 x y r h => zD_if (cnd := .eq) (off := 108) (by decide +kernel) (by decide) rfl,
  fun l0 l1 l2 l3 S h => zD_icst (n := 0) (by decide +kernel) (by decide +kernel),
  fun l0 l1 l2 l3 v h hv => zD_iretz (by decide +kernel) rfl hv,
  fun l0 l2 l3 x S h => zD_op (ins := .aload_n 1) (len := 1) (c := (803, [l0, some (.ref x), l2, l3], (.ref x :: S), h)) (by decide +kernel) rfl rfl rfl rfl,
  fun l0 l2 l3 S h => zD_op (ins := .aload_n 1) (len := 1) (c := (803, [l0, some .null, l2, l3], (.null :: S), h)) (by decide +kernel) rfl rfl rfl rfl,
  fun l1 l2 l3 x S h => zD_op (ins := .aload_n 0) (len := 1) (c := (804, [some (.ref x), l1, l2, l3], (.ref x :: S), h)) (by decide +kernel) rfl rfl rfl rfl,
  fun l0 l1 l2 x S h => zD_op (ins := .iload_n 3) (len := 1) (c := (805, [l0, l1, l2, some (.int x)], (.int x :: S), h)) (by decide +kernel) rfl rfl rfl rfl,
  fun l0 l1 l2 l3 S h => zD_icst (n := 1) (by decide +kernel) (by decide +kernel),
  fun l0 l1 l2 l3 x y r h => zD_op (ins := .iadd) (len := 1) (c := (807, [l0, l1, l2, l3], (.int (x + y) :: r), h)) (by decide +kernel) rfl rfl rfl rfl,
  fun l0 l1 l2 l3 i a r h hx => zD_iald (by decide +kernel) hx,
  fun l1 l2 l3 x S h => zD_op (ins := .aload_n 0) (len := 1) (c := (809, [some (.ref x), l1, l2, l3], (.ref x :: S), h)) (by decide +kernel) rfl rfl rfl rfl,
  fun l0 l1 l2 x S h => zD_op (ins := .iload_n 3) (len := 1) (c := (810, [l0, l1, l2, some (.int x)], (.int x :: S), h)) (by decide +kernel) rfl rfl rfl rfl,
  fun l0 l1 l2 l3 S h => zD_icst (n := 2) (by decide +kernel) (by decide +kernel),
  fun l0 l1 l2 l3 x y r h => zD_op (ins := .iadd) (len := 1) (c := (812, [l0, l1, l2, l3], (.int (x + y) :: r), h)) (by decide +kernel) rfl rfl rfl rfl,
  fun l0 l1 l2 l3 i a r h hx => zD_iald (by decide +kernel) hx,
  fun l0 l1 l2 l3 p0 p1 a r h hcat hr hC => zD_callv (i := 111) (y := 157) (n := 2) (as := [.int p0, .int p1]) (ci := 8) (by decide +kernel) (by decide +kernel) rfl (by decide +kernel) (Nat.le_of_ble_eq_true rfl) (by decide +kernel) hcat hr hC,
  fun l0 l1 l3 x S h => zD_op (ins := .aload_n 2) (len := 1) (c := (817, [l0, l1, some (.ref x), l3], (.ref x :: S), h)) (by decide +kernel) rfl rfl rfl rfl,
  fun l0 l1 l3 S h => zD_op (ins := .aload_n 2) (len := 1) (c := (817, [l0, l1, some .null, l3], (.null :: S), h)) (by decide +kernel) rfl rfl rfl rfl,
  fun l1 l2 l3 x S h => zD_op (ins := .aload_n 0) (len := 1) (c := (818, [some (.ref x), l1, l2, l3], (.ref x :: S), h)) (by decide +kernel) rfl rfl rfl rfl,
  fun l0 l1 l2 x S h => zD_op (ins := .iload_n 3) (len := 1) (c := (819, [l0, l1, l2, some (.int x)], (.int x :: S), h)) (by decide +kernel) rfl rfl rfl rfl,
  fun l0 l1 l2 l3 S h => zD_icst (n := 1) (by decide +kernel) (by decide +kernel),
  fun l0 l1 l2 l3 x y r h => zD_op (ins := .iadd) (len := 1) (c := (821, [l0, l1, l2, l3], (.int (x + y) :: r), h)) (by decide +kernel) rfl rfl rfl rfl,
  fun l0 l1 l2 l3 i a r h hx => zD_iald (by decide +kernel) hx,
  fun l1 l2 l3 x S h => zD_op (ins := .aload_n 0) (len := 1) (c := (823, [some (.ref x), l1, l2, l3], (.ref x :: S), h)) (by decide +kernel) rfl rfl rfl rfl,
  fun l0 l1 l2 x S h => zD_op (ins := .iload_n 3) (len := 1) (c := (824, [l0, l1, l2, some (.int x)], (.int x :: S), h)) (by decide +kernel) rfl rfl rfl rfl,
  fun l0 l1 l2 l3 S h => zD_icst (n := 2) (by decide +kernel) (by decide +kernel),
  fun l0 l1 l2 l3 x y r h => zD_op (ins := .iadd) (len := 1) (c := (826, [l0, l1, l2, l3], (.int (x + y) :: r), h)) (by decide +kernel) rfl rfl rfl rfl,
  fun l0 l1 l2 l3 i a r h hx => zD_iald (by decide +kernel) hx,
  fun l0 l1 l2 l3 p0 p1 a r h hcat hr hC => zD_callv (i := 114) (y := 148) (n := 2) (as := [.int p0, .int p1]) (ci := 9) (by decide +kernel) (by decide +kernel) rfl (by decide +kernel) (Nat.le_of_ble_eq_true rfl) (by decide +kernel) hcat hr hC,
  fun l0 l1 l2 l3 x y r h => zD_if (cnd := .eq) (off := 75) (by decide +kernel) (by decide) rfl,
  fun l0 l1 l2 l3 S h => zD_icst (n := 0) (by decide +kernel) (by decide +kernel),
  fun l0 l1 l2 l3 v h hv => zD_iretz (by decide +kernel) rfl hv,
  fun l0 l2 l3 x S h => zD_op (ins := .aload_n 1) (len := 1) (c := (836, [l0, some (.ref x), l2, l3], (.ref x :: S), h)) (by decide +kernel) rfl rfl rfl rfl,
  fun l0 l2 l3 S h => zD_op (ins := .aload_n 1) (len := 1) (c := (836, [l0, some .null, l2, l3], (.null :: S), h)) (by decide +kernel) rfl rfl rfl rfl,
  fun l1 l2 l3 x S h => zD_op (ins := .aload_n 0) (len := 1) (c := (837, [some (.ref x), l1, l2, l3], (.ref x :: S), h)) (by decide +kernel) rfl rfl rfl rfl,
  fun l0 l1 l2 x S h => zD_op (ins := .iload_n 3) (len := 1) (c := (838, [l0, l1, l2, some (.int x)], (.int x :: S), h)) (by decide +kernel) rfl rfl rfl rfl,
  fun l0 l1 l2 l3 S h => zD_icst (n := 1) (by decide +kernel) (by decide +kernel),
  fun l0 l1 l2 l3 x y r h => zD_op (ins := .iadd) (len := 1) (c := (840, [l0, l1, l2, l3], (.int (x + y) :: r), h)) (by decide +kernel) rfl rfl rfl rfl,
  fun l0 l1 l2 l3 i a r h hx => zD_iald (by decide +kernel) hx,
  fun l1 l2 l3 x S h => zD_op (ins := .aload_n 0) (len := 1) (c := (842, [some (.ref x), l1, l2, l3], (.ref x :: S), h)) (by decide +kernel) rfl rfl rfl rfl,
  fun l0 l1 l2 x S h => zD_op (ins := .iload_n 3) (len := 1) (c := (843, [l0, l1, l2, some (.int x)], (.int x :: S), h)) (by decide +kernel) rfl rfl rfl rfl,
  fun l0 l1 l2 l3 S h => zD_icst (n := 2) (by decide +kernel) (by decide +kernel),
  fun l0 l1 l2 l3 x y r h => zD_op (ins := .iadd) (len := 1) (c := (845, [l0, l1, l2, l3], (.int (x + y) :: r), h)) (by decide +kernel) rfl rfl rfl rfl,
  fun l0 l1 l2 l3 i a r h hx => zD_iald (by decide +kernel) hx,
  fun l0 l1 l2 l3 p0 p1 a r h hcat hr hC => zD_callv (i := 115) (y := 158) (n := 2) (as := [.int p0, .int p1]) (ci := 8) (by decide +kernel) (by decide +kernel) rfl (by decide +kernel) (Nat.le_of_ble_eq_true rfl) (by decide +kernel) hcat hr hC,
  fun l0 l1 l3 x S h => zD_op (ins := .aload_n 2) (len := 1) (c := (850, [l0, l1, some (.ref x), l3], (.ref x :: S), h)) (by decide +kernel) rfl rfl rfl rfl,
  fun l0 l1 l3 S h => zD_op (ins := .aload_n 2) (len := 1) (c := (850, [l0, l1, some .null, l3], (.null :: S), h)) (by decide +kernel) rfl rfl rfl rfl,
  fun l1 l2 l3 x S h => zD_op (ins := .aload_n 0) (len := 1) (c := (851, [some (.ref x), l1, l2, l3], (.ref x :: S), h)) (by decide +kernel) rfl rfl rfl rfl,
  fun l0 l1 l2 x S h => zD_op (ins := .iload_n 3) (len := 1) (c := (852, [l0, l1, l2, some (.int x)], (.int x :: S), h)) (by decide +kernel) rfl rfl rfl rfl,
  fun l0 l1 l2 l3 S h => zD_icst (n := 1) (by decide +kernel) (by decide +kernel),
  fun l0 l1 l2 l3 x y r h => zD_op (ins := .iadd) (len := 1) (c := (854, [l0, l1, l2, l3], (.int (x + y) :: r), h)) (by decide +kernel) rfl rfl rfl rfl,
  fun l0 l1 l2 l3 i a r h hx => zD_iald (by decide +kernel) hx,
  fun l1 l2 l3 x S h => zD_op (ins := .aload_n 0) (len := 1) (c := (856, [some (.ref x), l1, l2, l3], (.ref x :: S), h)) (by decide +kernel) rfl rfl rfl rfl,
  fun l0 l1 l2 x S h => zD_op (ins := .iload_n 3) (len := 1) (c := (857, [l0, l1, l2, some (.int x)], (.int x :: S), h)) (by decide +kernel) rfl rfl rfl rfl,
  fun l0 l1 l2 l3 S h => zD_icst (n := 2) (by decide +kernel) (by decide +kernel),
  fun l0 l1 l2 l3 x y r h => zD_op (ins := .iadd) (len := 1) (c := (859, [l0, l1, l2, l3], (.int (x + y) :: r), h)) (by decide +kernel) rfl rfl rfl rfl,
  fun l0 l1 l2 l3 i a r h hx => zD_iald (by decide +kernel) hx,
  fun l0 l1 l2 l3 p0 p1 a r h hcat hr hC => zD_callv (i := 118) (y := 149) (n := 2) (as := [.int p0, .int p1]) (ci := 9) (by decide +kernel) (by decide +kernel) rfl (by decide +kernel) (Nat.le_of_ble_eq_true rfl) (by decide +kernel) hcat hr hC,
  fun l0 l1 l2 l3 x y r h => zD_if (cnd := .eq) (off := 42) (by decide +kernel) (by decide) rfl,
  fun l0 l1 l2 l3 S h => zD_icst (n := 0) (by decide +kernel) (by decide +kernel),
  fun l0 l1 l2 l3 v h hv => zD_iretz (by decide +kernel) rfl hv,
  fun l0 l2 l3 x S h => zD_op (ins := .aload_n 1) (len := 1) (c := (869, [l0, some (.ref x), l2, l3], (.ref x :: S), h)) (by decide +kernel) rfl rfl rfl rfl,
  fun l0 l2 l3 S h => zD_op (ins := .aload_n 1) (len := 1) (c := (869, [l0, some .null, l2, l3], (.null :: S), h)) (by decide +kernel) rfl rfl rfl rfl,
  fun l1 l2 l3 x S h => zD_op (ins := .aload_n 0) (len := 1) (c := (870, [some (.ref x), l1, l2, l3], (.ref x :: S), h)) (by decide +kernel) rfl rfl rfl rfl,
  fun l0 l1 l2 x S h => zD_op (ins := .iload_n 3) (len := 1) (c := (871, [l0, l1, l2, some (.int x)], (.int x :: S), h)) (by decide +kernel) rfl rfl rfl rfl,
  fun l0 l1 l2 l3 S h => zD_icst (n := 1) (by decide +kernel) (by decide +kernel),
  fun l0 l1 l2 l3 x y r h => zD_op (ins := .iadd) (len := 1) (c := (873, [l0, l1, l2, l3], (.int (x + y) :: r), h)) (by decide +kernel) rfl rfl rfl rfl,
  fun l0 l1 l2 l3 i a r h hx => zD_iald (by decide +kernel) hx,
  fun l0 l1 l2 l3 p0 a r h hcat hr hC => zD_callv (i := 119) (y := 73) (n := 1) (as := [.int p0]) (ci := 8) (by decide +kernel) (by decide +kernel) rfl (by decide +kernel) (Nat.le_of_ble_eq_true rfl) (by decide +kernel) hcat hr hC,
  fun l0 l1 l3 x S h => zD_op (ins := .aload_n 2) (len := 1) (c := (878, [l0, l1, some (.ref x), l3], (.ref x :: S), h)) (by decide +kernel) rfl rfl rfl rfl,
  fun l0 l1 l3 S h => zD_op (ins := .aload_n 2) (len := 1) (c := (878, [l0, l1, some .null, l3], (.null :: S), h)) (by decide +kernel) rfl rfl rfl rfl,
  fun l1 l2 l3 x S h => zD_op (ins := .aload_n 0) (len := 1) (c := (879, [some (.ref x), l1, l2, l3], (.ref x :: S), h)) (by decide +kernel) rfl rfl rfl rfl,
  fun l0 l1 l2 x S h => zD_op (ins := .iload_n 3) (len := 1) (c := (880, [l0, l1, l2, some (.int x)], (.int x :: S), h)) (by decide +kernel) rfl rfl rfl rfl,
  fun l0 l1 l2 l3 S h => zD_icst (n := 1) (by decide +kernel) (by decide +kernel),
  fun l0 l1 l2 l3 x y r h => zD_op (ins := .iadd) (len := 1) (c := (882, [l0, l1, l2, l3], (.int (x + y) :: r), h)) (by decide +kernel) rfl rfl rfl rfl,
  fun l0 l1 l2 l3 i a r h hx => zD_iald (by decide +kernel) hx,
  fun l0 l1 l2 l3 p0 a r h hcat hr hC => zD_callv (i := 122) (y := 38) (n := 1) (as := [.int p0]) (ci := 9) (by decide +kernel) (by decide +kernel) rfl (by decide +kernel) (Nat.le_of_ble_eq_true rfl) (by decide +kernel) hcat hr hC,
  fun l0 l1 l2 l3 x y r h => zD_if (cnd := .eq) (off := 19) (by decide +kernel) (by decide) rfl,
  fun l0 l1 l2 l3 S h => zD_icst (n := 0) (by decide +kernel) (by decide +kernel),
  fun l0 l1 l2 l3 v h hv => zD_iretz (by decide +kernel) rfl hv,
  fun l0 l2 l3 x S h => zD_op (ins := .aload_n 1) (len := 1) (c := (892, [l0, some (.ref x), l2, l3], (.ref x :: S), h)) (by decide +kernel) rfl rfl rfl rfl,
  fun l0 l2 l3 S h => zD_op (ins := .aload_n 1) (len := 1) (c := (892, [l0, some .null, l2, l3], (.null :: S), h)) (by decide +kernel) rfl rfl rfl rfl,
  fun l0 l1 l2 l3 a r h hcat hr hC => zD_callv (i := 123) (y := 112) (n := 0) (as := []) (ci := 8) (by decide +kernel) (by decide +kernel) rfl (by decide +kernel) (Nat.le_of_ble_eq_true rfl) (by decide +kernel) hcat hr hC,
  fun l0 l1 l3 x S h => zD_op (ins := .aload_n 2) (len := 1) (c := (896, [l0, l1, some (.ref x), l3], (.ref x :: S), h)) (by decide +kernel) rfl rfl rfl rfl,
  fun l0 l1 l3 S h => zD_op (ins := .aload_n 2) (len := 1) (c := (896, [l0, l1, some .null, l3], (.null :: S), h)) (by decide +kernel) rfl rfl rfl rfl,
  fun l0 l1 l2 l3 a r h hcat hr hC => zD_callv (i := 127) (y := 86) (n := 0) (as := []) (ci := 9) (by decide +kernel) (by decide +kernel) rfl (by decide +kernel) (Nat.le_of_ble_eq_true rfl) (by decide +kernel) hcat hr hC,
  fun l0 l1 l2 l3 x y r h => zD_op (ins := .lcmp) (len := 1) (c := (900, [l0, l1, l2, l3], (.int (lg_cmp x y) :: r), h)) (by decide +kernel) rfl rfl rfl rfl,
  fun l0 l1 l2 l3 x r h => zD_if0 (cnd := .eq) (off := 5) (by decide +kernel) (by decide) rfl,
  fun l0 l1 l2 l3 S h => zD_icst (n := 0) (by decide +kernel) (by decide +kernel),
  fun l0 l1 l2 l3 v h hv => zD_iretz (by decide +kernel) rfl hv,
  fun l0 l1 l2 x S h => zD_iinc (k := 3) (x := x) (c := (4 : Int32)) (n := 4) (by decide +kernel) (by decide +kernel) rfl (by decide +kernel) rfl,
  fun l0 l1 l2 l3 S h => zD_goto (off := (-890)) (by decide +kernel) (by decide),
  fun l0 l1 l2 l3 S h => zD_icst (n := 1) (by decide +kernel) (by decide +kernel),
  fun l0 l1 l2 l3 v h hv => zD_iretz (by decide +kernel) rfl hv⟩
set_option maxRecDepth 100000 in
theorem E_L_law_h18 : (∀ (l0 l1 l2 : Option Value) (x : Int32) (S : List Value) (h : zH), zD 165 18 [l0, l1, l2, some (.int x)] S h = zD 165 19 [l0, l1, l2, some (.int x)] (.int x :: S) h) :=
  fun l0 l1 l2 x S h => zD_op (ins := .iload_n 3) (len := 1) (c := (19, [l0, l1, l2, some (.int x)], (.int x :: S), h)) (by decide +kernel) rfl rfl rfl rfl
set_option maxRecDepth 100000 in
theorem I_L_law : (∀ (p0 : Nat) (h : zH), zC 165 [.ref p0] h = zD 165 0 [some (.ref p0), none, none, none] [] h) :=
  fun p0 h => zC_def rfl
