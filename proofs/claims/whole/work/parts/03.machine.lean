/-! a small machine of my own over a heap of cells with relative addresses; what it runs, the real one runs (part 04) -/
/-- a cell: an array (kind 0 int, 1 long, 2 boolean, 3 TopKeys, 4 Drawing, 9 the script) or an object (class, fields) -/
abbrev zA : Type := (Nat × vp_A) ⊕ (Nat × List Value)
/-- next address, slots so far, cells; address 0 is the script -/
abbrev zH : Type := Nat × Nat × (Nat → zA)
abbrev zL : Type := List (Option Value)
def zdead : zA := .inr (99, [])
def zup (f : Nat → zA) (a : Nat) (x : zA) : Nat → zA := fun j => if j = a then x else f j
def zw (h : zH) (a : Nat) (x : zA) : zH := (h.1, h.2.1, zup h.2.2 a x)
def znew (h : zH) (n : Nat) (x : zA) : zH := (h.1 + 1, h.2.1 + n, zup h.2.2 h.1 x)
def zin (i : Int32) (n : Nat) : Bool := !decide (i < 0) && decide (i.toNatClampNeg < n)
def zown (m : Nat) : Nat := (zM m).1
def zb (m : Nat) : ByteArray := (zM m).2.1
def zml (m : Nat) : Nat := (zM m).2.2.1
def zrt (m : Nat) : Option FieldType := (zM m).2.2.2.1
def zy (m : Nat) : MethodName := (zM m).2.2.2.2.1
def zdep (m : Nat) : Nat := (zM m).2.2.2.2.2.1
def zclr : Option Value → Option Value
  | some (.long _) => none
  | some (.double _) => none
  | o => o
def zset1 : zL → Nat → Value → zL
  | [], _, _ => []
  | _ :: t, 0, v => some v :: t
  | o :: t, 1, v => zclr o :: zset1 t 0 v
  | o :: t, i + 2, v => o :: zset1 t (i + 1) v
def zset2 : zL → Nat → Value → zL
  | [], _, _ => []
  | [_], _, _ => [none]
  | _ :: _ :: t, 0, v => some v :: none :: t
  | o :: p :: t, 1, v => zclr o :: zset2 (p :: t) 0 v
  | o :: p :: t, i + 2, v => o :: zset2 (p :: t) (i + 1) v
def zlocs : List Value → zL
  | [] => []
  | v :: t => if v.category = 2 then some v :: none :: zlocs t else some v :: zlocs t
def zent (m : Nat) (args : List Value) : zL := zlocs args ++ List.replicate (zml m - (zlocs args).length) none
def zcat (S : List Value) : Nat := (S.map fun v => v.category).sum
abbrev zR4 : Type := Nat × zL × List Value × zH
def z1i (S : List Value) (k : Int32 → List Value → Option zR4) : Option zR4 := match S with | .int x :: r => k x r | _ => none
def z1l (S : List Value) (k : Int64 → List Value → Option zR4) : Option zR4 := match S with | .long x :: r => k x r | _ => none
def z2i (S : List Value) (k : Int32 → Int32 → List Value → Option zR4) : Option zR4 := match S with | .int y :: .int x :: r => k x y r | _ => none
def z2l (S : List Value) (k : Int64 → Int64 → List Value → Option zR4) : Option zR4 := match S with | .long y :: .long x :: r => k x y r | _ => none
def zli (S : List Value) (k : Int64 → Int32 → List Value → Option zR4) : Option zR4 := match S with | .int y :: .long x :: r => k x y r | _ => none
def z1r (S : List Value) (k : Nat → List Value → Option zR4) : Option zR4 := match S with | .ref a :: r => k a r | _ => none
def zar (S : List Value) (k : Int32 → Nat → List Value → Option zR4) : Option zR4 := match S with | .int i :: .ref a :: r => k i a r | _ => none
def zas (S : List Value) (k : Value → Int32 → Nat → List Value → Option zR4) : Option zR4 := match S with | v :: .int i :: .ref a :: r => k v i a r | _ => none
def zvr (S : List Value) (k : Value → Nat → List Value → Option zR4) : Option zR4 := match S with | v :: .ref a :: r => k v a r | _ => none
def z1v (S : List Value) (k : Value → List Value → Option zR4) : Option zR4 := match S with | v :: r => k v r | _ => none
def z2v (S : List Value) (k : Value → Value → List Value → Option zR4) : Option zR4 := match S with | v :: w :: r => k v w r | _ => none
def zcp (S : List Value) (k : Int32 → Int32 → Nat → Int32 → Nat → List Value → Option zR4) : Option zR4 := match S with | .int n :: .int dp :: .ref a :: .int sp :: .ref a0 :: r => k n dp a sp a0 r | _ => none
def zgo (pc : Nat) (off : Int) : Nat := ((pc : Int) + off).toNat
/-- where a jump of this offset goes, if it stays in the code -/
def zjmp (pc : Nat) (off : Int) (L : zL) (S : List Value) (h : zH) : Option zR4 := if 0 ≤ (pc : Int) + off then some (zgo pc off, L, S, h) else none
def zfget (x : zA) (ci k : Nat) : Option Value := match x with
  | .inr (c, fs) => if c = ci then fs[k]? else none
  | _ => none
def zfput (x : zA) (ci k : Nat) (v : Value) : Option zA := match x with
  | .inr (c, fs) => if c = ci ∧ k < fs.length ∧ fits (zTy ci k) v = true ∧ narrow (zTy ci k) v = v then some (.inr (c, fs.set k v)) else none
  | _ => none
def zgeti (a : Nat) (x : zA) (i : Int32) : Option Int32 := match x with
  | .inl (t, n, .inl f) => if (t = 0 ∨ (t = 9 ∧ a = 0)) ∧ zin i n = true then some (f i.toNatClampNeg) else none
  | _ => none
def zgetb (x : zA) (i : Int32) : Option Int32 := match x with
  | .inl (t, n, .inl f) => if t = 2 ∧ zin i n = true then some (f i.toNatClampNeg) else none
  | _ => none
def zgetl (x : zA) (i : Int32) : Option Int64 := match x with
  | .inl (t, n, .inr (.inl f)) => if t = 1 ∧ zin i n = true then some (f i.toNatClampNeg) else none
  | _ => none
def zgetr (x : zA) (i : Int32) : Option Value := match x with
  | .inl (t, n, .inr (.inr (.inr (.inr f)))) => if (t = 3 ∨ t = 4) ∧ zin i n = true then some (va_rf (f i.toNatClampNeg)) else none
  | _ => none
def zputi (x : zA) (i : Int32) (v : Value) : Option zA := match x, v with
  | .inl (t, n, .inl f), .int y => if t = 0 ∧ zin i n = true then some (.inl (0, n, .inl (upd f i.toNatClampNeg y))) else none
  | _, _ => none
def zputb (x : zA) (i : Int32) (v : Value) : Option zA := match x, v with
  | .inl (t, n, .inl f), .int y => if t = 2 ∧ zin i n = true then some (.inl (2, n, .inl (upd f i.toNatClampNeg (vp_nar .boolean y)))) else none
  | _, _ => none
def zputl (x : zA) (i : Int32) (v : Value) : Option zA := match x, v with
  | .inl (t, n, .inr (.inl f)), .long y => if t = 1 ∧ zin i n = true then some (.inl (1, n, .inr (.inl (vp_updL f i.toNatClampNeg y)))) else none
  | _, _ => none
/-- the class of the objects in an array of references -/
def zel (t : Nat) : Nat := if t = 3 then 7 else 3
def zis (x : zA) (ci : Nat) : Bool := match x with
  | .inr (c, _) => c == ci
  | _ => false
def zputr (h : zH) (x : zA) (i : Int32) (v : Value) : Option zA := match x, v with
  | .inl (t, n, .inr (.inr (.inr (.inr f)))), .ref w => if (t = 3 ∨ t = 4) ∧ zin i n = true ∧ zis (h.2.2 w) (zel t) = true then some (.inl (t, n, .inr (.inr (.inr (.inr (va_up f i.toNatClampNeg (some w))))))) else none
  | .inl (t, n, .inr (.inr (.inr (.inr f)))), .null => if (t = 3 ∨ t = 4) ∧ zin i n = true then some (.inl (t, n, .inr (.inr (.inr (.inr (va_up f i.toNatClampNeg none)))))) else none
  | _, _ => none
def zalen (a : Nat) (x : zA) : Option Int32 := match x with
  | .inl (t, n, _) => if t ≤ 4 ∨ (t = 9 ∧ a = 0) then some (Int32.ofNat n) else none
  | _ => none
def zcopy (x y : zA) (sp dp n : Int32) : Option zA := match x, y with
  | .inl (t, n0, .inl f), .inl (u, n1, .inl g) => if t = 0 ∧ u = 0 ∧ ¬ sp < 0 ∧ ¬ dp < 0 ∧ ¬ n < 0 ∧ sp.toNatClampNeg + n.toNatClampNeg ≤ n0 ∧ dp.toNatClampNeg + n.toNatClampNeg ≤ n1 then some (.inl (0, n1, .inl (va_cpy f g sp.toNatClampNeg dp.toNatClampNeg n.toNatClampNeg))) else none
  | _, _ => none
def znewa (t : ArrayType) (n : Int32) : Option (Nat × zA) :=
  if ¬ n < 0 ∧ n.toNatClampNeg * 8 ≤ 536870912 then
    match t with
    | .int => some (n.toNatClampNeg, .inl (0, n.toNatClampNeg, .inl (fun _ => 0)))
    | .long => some (n.toNatClampNeg, .inl (1, n.toNatClampNeg, .inr (.inl (fun _ => 0))))
    | .boolean => some (n.toNatClampNeg, .inl (2, n.toNatClampNeg, .inl (fun _ => 0)))
    | _ => none
  else none
/-- the array kind of references to a class -/
def zrk (ci : Nat) : Option Nat := if ci = 7 then some 3 else if ci = 3 then some 4 else none
def zfs (ci : Nat) : Nat := match vwCl[ci]? with
  | some q => q.2.2
  | none => 0
def zdef (ci : Nat) : List Value := (List.range (zfs ci)).map (fun k => defaultValue (zTy ci k))
/-- may this method write this field? -/
def zfin (m ci k : Nat) : Bool := match vwCl[ci]? with
  | some q => !(q.2.1 k).2.2.2 || (decide ((zy m).name = "<init>") && decide ((q.2.1 k).1 = zR (zown m)))
  | none => false
def zlen : Instr → Nat
  | .bipush _ => 2
  | .sipush _ => 3
  | .ldc _ => 2
  | .ldc_w _ => 3
  | .ldc2_w _ => 3
  | .iload _ => 2
  | .lload _ => 2
  | .aload _ => 2
  | .istore _ => 2
  | .lstore _ => 2
  | .astore _ => 2
  | .iinc _ _ => 3
  | .ifCond _ _ => 3
  | .if_icmp _ _ => 3
  | .ifnull _ => 3
  | .ifnonnull _ => 3
  | .goto _ => 3
  | .getfield _ => 3
  | .putfield _ => 3
  | .new _ => 3
  | .newarray _ => 2
  | .anewarray _ => 3
  | .invokevirtual _ => 3
  | .invokestatic _ => 3
  | .invokespecial _ => 3
  | _ => 1
/-- an entry of a table of the method's class -/
def zlu {β : Type} (l : List (Nat × β)) (m i : Nat) : Option β := if i < 1000 then l.lookup (zown m * 1000 + i) else none
def zldi (L : zL) (i : Nat) (k : Int32 → Option zR4) : Option zR4 := match L[i]? with | some (some (.int x)) => k x | _ => none
def zldl (L : zL) (i : Nat) (k : Int64 → Option zR4) : Option zR4 := match L[i]? with | some (some (.long x)) => k x | _ => none
def zlda (L : zL) (i : Nat) (k : Value → Option zR4) : Option zR4 := match L[i]? with
  | some (some (.ref a)) => k (.ref a)
  | some (some .null) => k .null
  | _ => none
def zsta (S : List Value) (k : Value → List Value → Option zR4) : Option zR4 := match S with
  | .ref a :: r => k (.ref a) r
  | .null :: r => k .null r
  | _ => none
def zicmp : Jvm.ClassFile.Cond → Int32 → Int32 → Bool
  | .eq, x, y => decide (x = y)
  | .ne, x, y => decide (¬ x = y)
  | .lt, x, y => decide (x < y)
  | .ge, x, y => decide (y ≤ x)
  | .gt, x, y => decide (y < x)
  | .le, x, y => decide (x ≤ y)
def zbr (b : Bool) (pc : Nat) (off : Int) (L : zL) (S : List Value) (h : zH) : Option zR4 := if 0 ≤ (pc : Int) + off then some (if b = true then zgo pc off else pc + 3, L, S, h) else none
def ztab (pc : Nat) (d lo hi : Int) (offs : Array Int) (x : Int32) (L : zL) (S : List Value) (h : zH) : Option zR4 :=
  if x.toInt < lo ∨ hi < x.toInt then zjmp pc d L S h else match offs[(x.toInt - lo).toNat]? with | some off => zjmp pc off L S h | none => none
/-- arraycopy, Math.max, min, abs -/
def zstat (k pc : Nat) (L : zL) (S : List Value) (h : zH) : Option zR4 := match k with
  | 1 => zcp S fun n dp a sp a0 r => if zcat r ≤ 8 then (zcopy (h.2.2 a0) (h.2.2 a) sp dp n).bind fun x => some (pc + 3, L, r, zw h a x) else none
  | 3 => z2i S fun x y r => if zcat r ≤ 8 then some (pc + 3, L, .int (if x < y then y else x) :: r, h) else none
  | 4 => z2i S fun x y r => if zcat r ≤ 8 then some (pc + 3, L, .int (if y < x then y else x) :: r, h) else none
  | 5 => z1i S fun x r => if zcat r ≤ 8 then some (pc + 3, L, .int (if 0 ≤ x then x else 0 - x) :: r, h) else none
  | _ => none
def zop (m : Nat) (ins : Instr) (pc : Nat) (L : zL) (S : List Value) (h : zH) : Option zR4 :=
  match ins with
  | .iconst n => some (pc + 1, L, .int (Int32.ofInt n) :: S, h)
  | .bipush n => some (pc + 2, L, .int (Int8.ofInt n).toInt32 :: S, h)
  | .sipush n => some (pc + 3, L, .int (Int16.ofInt n).toInt32 :: S, h)
  | .lconst n => some (pc + 1, L, .long (Int64.ofNat (n : Nat)) :: S, h)
  | .aconst_null => some (pc + 1, L, .null :: S, h)
  | .ldc i => (zlu zKt m i).bind fun e => some (pc + 2, L, .int e.1 :: S, h)
  | .ldc_w i => (zlu zKt m i).bind fun e => some (pc + 3, L, .int e.1 :: S, h)
  | .ldc2_w i => (zlu zKl m i).bind fun e => some (pc + 3, L, .long e.1 :: S, h)
  | .iload_n k => zldi L k fun x => some (pc + 1, L, .int x :: S, h)
  | .iload k => zldi L k fun x => some (pc + 2, L, .int x :: S, h)
  | .lload_n k => zldl L k fun x => some (pc + 1, L, .long x :: S, h)
  | .lload k => zldl L k fun x => some (pc + 2, L, .long x :: S, h)
  | .aload_n k => zlda L k fun v => some (pc + 1, L, v :: S, h)
  | .aload k => zlda L k fun v => some (pc + 2, L, v :: S, h)
  | .istore_n k => z1i S fun x r => if (k : Nat) < zml m then some (pc + 1, zset1 L k (.int x), r, h) else none
  | .istore k => z1i S fun x r => if k < zml m then some (pc + 2, zset1 L k (.int x), r, h) else none
  | .lstore_n k => z1l S fun x r => if (k : Nat) + 1 < zml m then some (pc + 1, zset2 L k (.long x), r, h) else none
  | .lstore k => z1l S fun x r => if k + 1 < zml m then some (pc + 2, zset2 L k (.long x), r, h) else none
  | .astore_n k => zsta S fun v r => if (k : Nat) < zml m then some (pc + 1, zset1 L k v, r, h) else none
  | .astore k => zsta S fun v r => if k < zml m then some (pc + 2, zset1 L k v, r, h) else none
  | .iinc k n => zldi L k fun x => if k < zml m then some (pc + 3, zset1 L k (.int (x + Int32.ofInt n)), S, h) else none
  | .iadd => z2i S fun x y r => some (pc + 1, L, .int (x + y) :: r, h)
  | .isub => z2i S fun x y r => some (pc + 1, L, .int (x - y) :: r, h)
  | .imul => z2i S fun x y r => some (pc + 1, L, .int (x * y) :: r, h)
  | .iand => z2i S fun x y r => some (pc + 1, L, .int (x &&& y) :: r, h)
  | .ior => z2i S fun x y r => some (pc + 1, L, .int (x ||| y) :: r, h)
  | .ixor => z2i S fun x y r => some (pc + 1, L, .int (x ^^^ y) :: r, h)
  | .ishl => z2i S fun x y r => some (pc + 1, L, .int (x <<< (y &&& 31)) :: r, h)
  | .ishr => z2i S fun x y r => some (pc + 1, L, .int (x >>> (y &&& 31)) :: r, h)
  | .iushr => z2i S fun x y r => some (pc + 1, L, .int (x.toUInt32 >>> (y.toUInt32 &&& Int32.toUInt32 31)).toInt32 :: r, h)
  | .idiv => z2i S fun x y r => if y = 0 then none else some (pc + 1, L, .int (x / y) :: r, h)
  | .irem => z2i S fun x y r => if y = 0 then none else some (pc + 1, L, .int (x - x / y * y) :: r, h)
  | .ineg => z1i S fun x r => some (pc + 1, L, .int (-x) :: r, h)
  | .i2l => z1i S fun x r => some (pc + 1, L, .long x.toInt64 :: r, h)
  | .l2i => z1l S fun x r => some (pc + 1, L, .int x.toInt32 :: r, h)
  | .ladd => z2l S fun x y r => some (pc + 1, L, .long (x + y) :: r, h)
  | .lsub => z2l S fun x y r => some (pc + 1, L, .long (x - y) :: r, h)
  | .lmul => z2l S fun x y r => some (pc + 1, L, .long (x * y) :: r, h)
  | .ldiv => z2l S fun x y r => if y = 0 then none else some (pc + 1, L, .long (x / y) :: r, h)
  | .lneg => z1l S fun x r => some (pc + 1, L, .long (-x) :: r, h)
  | .lshl => zli S fun x y r => some (pc + 1, L, .long (x <<< (y.toInt64 &&& 63)) :: r, h)
  | .lshr => zli S fun x y r => some (pc + 1, L, .long (x >>> (y.toInt64 &&& 63)) :: r, h)
  | .lcmp => z2l S fun x y r => some (pc + 1, L, .int (lg_cmp x y) :: r, h)
  | .dup => z1v S fun v r => if v.category = 1 then some (pc + 1, L, v :: v :: r, h) else none
  | .pop => z1v S fun v r => if v.category = 1 then some (pc + 1, L, r, h) else none
  | .dup2 => z2v S fun v w r => if v.category = 1 ∧ w.category = 1 then some (pc + 1, L, v :: w :: v :: w :: r, h) else none
  | .ifCond c off => z1i S fun x r => zbr (zicmp c x 0) pc off L r h
  | .if_icmp c off => z2i S fun x y r => zbr (zicmp c x y) pc off L r h
  | .ifnull off => zsta S fun v r => zbr (decide (v = .null)) pc off L r h
  | .ifnonnull off => zsta S fun v r => zbr (decide (¬ v = .null)) pc off L r h
  | .goto off => zjmp pc off L S h
  | .tableswitch d lo hi offs => z1i S fun x r => ztab pc d lo hi offs x L r h
  | .getfield i => z1r S fun a r => (zlu zFt m i).bind fun e => (zfget (h.2.2 a) e.1 e.2.1).bind fun v => some (pc + 3, L, v :: r, h)
  | .putfield i => zvr S fun v a r => (zlu zFt m i).bind fun e => if zfin m e.1 e.2.1 = true then (zfput (h.2.2 a) e.1 e.2.1 v).bind fun x => some (pc + 3, L, r, zw h a x) else none
  | .iaload => zar S fun i a r => (zgeti a (h.2.2 a) i).bind fun v => some (pc + 1, L, .int v :: r, h)
  | .baload => zar S fun i a r => (zgetb (h.2.2 a) i).bind fun v => some (pc + 1, L, .int v :: r, h)
  | .laload => zar S fun i a r => (zgetl (h.2.2 a) i).bind fun v => some (pc + 1, L, .long v :: r, h)
  | .aaload => zar S fun i a r => (zgetr (h.2.2 a) i).bind fun v => some (pc + 1, L, v :: r, h)
  | .iastore => zas S fun v i a r => (zputi (h.2.2 a) i v).bind fun x => some (pc + 1, L, r, zw h a x)
  | .bastore => zas S fun v i a r => (zputb (h.2.2 a) i v).bind fun x => some (pc + 1, L, r, zw h a x)
  | .lastore => zas S fun v i a r => (zputl (h.2.2 a) i v).bind fun x => some (pc + 1, L, r, zw h a x)
  | .aastore => zas S fun v i a r => (zputr h (h.2.2 a) i v).bind fun x => some (pc + 1, L, r, zw h a x)
  | .arraylength => z1r S fun a r => (zalen a (h.2.2 a)).bind fun v => some (pc + 1, L, .int v :: r, h)
  | .newarray t => z1i S fun n r => (znewa t n).bind fun e => some (pc + 2, L, .ref h.1 :: r, znew h e.1 e.2)
  | .anewarray i => z1i S fun n r => (zlu zNt m i).bind fun e => (zrk e.1).bind fun t => if ¬ n < 0 ∧ n.toNatClampNeg * 8 ≤ 536870912 then some (pc + 3, L, .ref h.1 :: r, znew h n.toNatClampNeg (.inl (t, n.toNatClampNeg, .inr (.inr (.inr (.inr (fun _ => none))))))) else none
  | .new i => (zlu zNt m i).bind fun e => some (pc + 3, L, .ref h.1 :: S, znew h (zfs e.1) (.inr (e.1, zdef e.1)))
  | .invokespecial i => (zlu zSt m i).bind fun e => if e.1 = 2 ∧ 1 ≤ zdep m then z1r S fun _ r => if zcat r ≤ 8 then some (pc + 3, L, r, h) else none else none
  | .invokestatic i => (zlu zSt m i).bind fun e => if 1 ≤ zdep m then zstat e.1 pc L S h else none
  | _ => none
/-- a return: what is answered -/
def zend (m : Nat) (ins : Instr) (S : List Value) : Option (Option Value) := match ins, S with
  | .ireturn, [.int v] => match zrt m with
    | some ty => if narrow ty (.int v) = .int v then some (some (.int v)) else none
    | none => none
  | .lreturn, [.long v] => if zrt m = some .long then some (some (.long v)) else none
  | .areturn, [.ref a] => match zrt m with
    | some (.object _) => some (some (.ref a))
    | some (.array _) => some (some (.ref a))
    | _ => none
  | .areturn, [.null] => match zrt m with
    | some (.object _) => some (some .null)
    | some (.array _) => some (some .null)
    | _ => none
  | .return_, [] => if zrt m = none then some none else none
  | _, _ => none
def zkind : Instr → Option (Nat × Nat)
  | .invokevirtual i => some (0, i)
  | .invokestatic i => some (1, i)
  | .invokespecial i => some (2, i)
  | _ => none
/-- a virtual call's receiver is of the method's class -/
def zrecv (h : zH) (y kd : Nat) (args : List Value) : Bool := match kd, args with
  | 1, _ => true
  | 2, .ref _ :: _ => true
  | 0, .ref a :: _ => match h.2.2 a with
    | .inr (c, _) => decide ((vwCl[c]?).map (fun q => q.1) = some (zy y).cls)
    | _ => false
  | _, _ => false
/-- a call: the method, its arguments, the stack that is left -/
def zcall (m : Nat) (ins : Instr) (S : List Value) (h : zH) : Option (Nat × List Value × List Value) :=
  (zkind ins).bind fun k => (zlu zCt m k.2).bind fun e =>
    let n := if k.1 = 1 then e.2.1 else e.2.1 + 1
    let args := (S.take n).reverse
    if e.2.2.1 = k.1 ∧ n ≤ S.length ∧ zcat (S.drop n) ≤ 8 ∧ zdep e.1 < zdep m ∧ (zlocs args).length ≤ zml e.1 ∧ zrecv h e.1 k.1 args = true then some (e.1, args, S.drop n) else none
def zlk (ins : Instr) (len : Nat) : Bool := match ins with
  | .tableswitch _ _ _ _ => true
  | _ => len == zlen ins
def zrun : Nat → Nat → Nat → zL → List Value → zH → Option (Option Value × zH)
  | 0, _, _, _, _, _ => none
  | f + 1, m, pc, L, S, h =>
    match decode (zb m) pc with
    | .error _ => none
    | .ok (ins, len) =>
      if zlk ins len = true then
        match zend m ins S with
        | some v => some (v, h)
        | none =>
          match zcall m ins S h with
          | some c => (zrun f c.1 0 (zent c.1 c.2.1) [] h).bind fun r => zrun f m (pc + 3) L (r.1.toList ++ c.2.2) r.2
          | none => (zop m ins pc L S h).bind fun c => zrun f m c.1 c.2.1 c.2.2.1 c.2.2.2
      else none
