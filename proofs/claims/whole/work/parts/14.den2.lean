/-! more equations -/
section ZD2
variable {M pc : Nat} {LL : zL} {S : List Value} {h : zH} {len : Nat}
/-- an int that is a boolean -/
def zbv (v : Int32) : Prop := v &&& 1 = v
theorem zbv_0 : zbv 0 := by show (0 : Int32) &&& 1 = 0; decide
theorem zbv_1 : zbv 1 := by show (1 : Int32) &&& 1 = 1; decide
theorem zbv_ite {P : Prop} [Decidable P] : zbv (if P then 1 else 0) := by split; exact zbv_1; exact zbv_0
theorem zbv_ite' {P : Prop} [Decidable P] : zbv (if P then 0 else 1) := by split; exact zbv_0; exact zbv_1
theorem zD_ireti {v : Int32} (hd : decode (zb M) pc = .ok (.ireturn, 1)) (ht : zrt M = some .int) : zD M pc LL [.int v] h = some (some (.int v), h) := by
  refine zD_ret hd rfl ?_
  show (match zrt M with | some ty => _ | none => none) = _
  rw [ht]
  show (if narrow .int (.int v) = .int v then _ else _) = _
  rw [if_pos (show narrow .int (.int v) = .int v from rfl)]
theorem zD_iretz {v : Int32} (hd : decode (zb M) pc = .ok (.ireturn, 1)) (ht : zrt M = some .boolean) (hv : zbv v) : zD M pc LL [.int v] h = some (some (.int v), h) := by
  refine zD_ret hd rfl ?_
  show (match zrt M with | some ty => _ | none => none) = _
  rw [ht]
  have : narrow .boolean (.int v) = .int v := by show Value.int (v &&& 1) = _; rw [hv]
  show (if narrow .boolean (.int v) = .int v then _ else _) = _
  rw [if_pos this]
theorem zD_lret {v : Int64} (hd : decode (zb M) pc = .ok (.lreturn, 1)) (ht : zrt M = some .long) : zD M pc LL [.long v] h = some (some (.long v), h) := by
  refine zD_ret hd rfl ?_
  show (if zrt M = some .long then _ else _) = _
  rw [if_pos ht]
theorem zD_aret {a : Nat} {C : String} (hd : decode (zb M) pc = .ok (.areturn, 1)) (ht : zrt M = some (.object C)) : zD M pc LL [.ref a] h = some (some (.ref a), h) := by
  refine zD_ret hd rfl ?_
  show (match zrt M with | some (.object _) => _ | some (.array _) => _ | _ => none) = _
  rw [ht]
theorem zD_areta {a : Nat} {C : FieldType} (hd : decode (zb M) pc = .ok (.areturn, 1)) (ht : zrt M = some (.array C)) : zD M pc LL [.ref a] h = some (some (.ref a), h) := by
  refine zD_ret hd rfl ?_
  show (match zrt M with | some (.object _) => _ | some (.array _) => _ | _ => none) = _
  rw [ht]
theorem zD_aretn {C : String} (hd : decode (zb M) pc = .ok (.areturn, 1)) (ht : zrt M = some (.object C)) : zD M pc LL [.null] h = some (some .null, h) := by
  refine zD_ret hd rfl ?_
  show (match zrt M with | some (.object _) => _ | some (.array _) => _ | _ => none) = _
  rw [ht]
theorem zD_vret (hd : decode (zb M) pc = .ok (.return_, 1)) (ht : zrt M = none) : zD M pc LL [] h = some (none, h) := by
  refine zD_ret hd rfl ?_
  show (if zrt M = none then _ else _) = _
  rw [if_pos ht]
theorem zD_obj {i a : Nat} {q : Nat} {r : List Value} (hd : decode (zb M) pc = .ok (.invokespecial i, 3)) (hn : zcu M i = []) (hl : zlu zSt M i = some (2, q)) (hdep : 1 ≤ zdep M) (hcat : zcat r ≤ 8) : zD M pc LL (.ref a :: r) h = zD M (pc + 3) LL r h := by
  refine zD_op (c := (pc + 3, LL, r, h)) hd rfl rfl ?_ ?_
  · show (zlu zCt M i).bind _ = _
    rw [zcu_no hn]; rfl
  · show (zlu zSt M i).bind _ = _
    rw [hl]
    show (if 2 = 2 ∧ 1 ≤ zdep M then (if zcat r ≤ 8 then _ else _) else _) = _
    rw [if_pos ⟨rfl, hdep⟩, if_pos hcat]
theorem zD_max {i : Nat} {q : Nat} {x y : Int32} {r : List Value} (hd : decode (zb M) pc = .ok (.invokestatic i, 3)) (hn : zcu M i = []) (hl : zlu zSt M i = some (3, q)) (hdep : 1 ≤ zdep M) (hcat : zcat r ≤ 8) : zD M pc LL (.int y :: .int x :: r) h = zD M (pc + 3) LL (.int (if x < y then y else x) :: r) h := by
  refine zD_op (c := (pc + 3, LL, .int (if x < y then y else x) :: r, h)) hd rfl rfl ?_ ?_
  · show (zlu zCt M i).bind _ = _
    rw [zcu_no hn]; rfl
  · show (zlu zSt M i).bind _ = _
    rw [hl]
    show (if 1 ≤ zdep M then (if zcat r ≤ 8 then _ else _) else _) = _
    rw [if_pos hdep, if_pos hcat]
theorem zD_min {i : Nat} {q : Nat} {x y : Int32} {r : List Value} (hd : decode (zb M) pc = .ok (.invokestatic i, 3)) (hn : zcu M i = []) (hl : zlu zSt M i = some (4, q)) (hdep : 1 ≤ zdep M) (hcat : zcat r ≤ 8) : zD M pc LL (.int y :: .int x :: r) h = zD M (pc + 3) LL (.int (if y < x then y else x) :: r) h := by
  refine zD_op (c := (pc + 3, LL, .int (if y < x then y else x) :: r, h)) hd rfl rfl ?_ ?_
  · show (zlu zCt M i).bind _ = _
    rw [zcu_no hn]; rfl
  · show (zlu zSt M i).bind _ = _
    rw [hl]
    show (if 1 ≤ zdep M then (if zcat r ≤ 8 then _ else _) else _) = _
    rw [if_pos hdep, if_pos hcat]
theorem zD_abs {i : Nat} {q : Nat} {x : Int32} {r : List Value} (hd : decode (zb M) pc = .ok (.invokestatic i, 3)) (hn : zcu M i = []) (hl : zlu zSt M i = some (5, q)) (hdep : 1 ≤ zdep M) (hcat : zcat r ≤ 8) : zD M pc LL (.int x :: r) h = zD M (pc + 3) LL (.int (if 0 ≤ x then x else 0 - x) :: r) h := by
  refine zD_op (c := (pc + 3, LL, .int (if 0 ≤ x then x else 0 - x) :: r, h)) hd rfl rfl ?_ ?_
  · show (zlu zCt M i).bind _ = _
    rw [zcu_no hn]; rfl
  · show (zlu zSt M i).bind _ = _
    rw [hl]
    show (if 1 ≤ zdep M then (if zcat r ≤ 8 then _ else _) else _) = _
    rw [if_pos hdep, if_pos hcat]
/-- int arrays that a copy fits -/
def zcok (x y : zA) (sp dp n : Int32) : Bool := match x, y with
  | .inl (t, n0, .inl _), .inl (u, n1, .inl _) => decide (t = 0 ∧ u = 0 ∧ ¬ sp < 0 ∧ ¬ dp < 0 ∧ ¬ n < 0 ∧ sp.toNatClampNeg + n.toNatClampNeg ≤ n0 ∧ dp.toNatClampNeg + n.toNatClampNeg ≤ n1)
  | _, _ => false
def zcs' (x y : zA) (sp dp n : Int32) : zA := match x, y with
  | .inl (_, _, .inl f), .inl (u, n1, .inl g) => .inl (u, n1, .inl (va_cpy f g sp.toNatClampNeg dp.toNatClampNeg n.toNatClampNeg))
  | _, z => z
theorem zcopy_ok {x y : zA} {sp dp n : Int32} (hx : zcok x y sp dp n = true) : zcopy x y sp dp n = some (zcs' x y sp dp n) := by
  unfold zcok at hx
  split at hx
  · simp only [decide_eq_true_eq] at hx
    simp only [zcopy, zcs']
    rw [if_pos hx, hx.2.1]
  · cases hx
theorem zD_copy {i : Nat} {q a a0 : Nat} {n sp dp : Int32} {r : List Value} (hd : decode (zb M) pc = .ok (.invokestatic i, 3)) (hn : zcu M i = []) (hl : zlu zSt M i = some (1, q)) (hdep : 1 ≤ zdep M) (hcat : zcat r ≤ 8) (hx : zcok (h.2.2 a0) (h.2.2 a) sp dp n = true) : zD M pc LL (.int n :: .int dp :: .ref a :: .int sp :: .ref a0 :: r) h = zD M (pc + 3) LL r (zw h a (zcs' (h.2.2 a0) (h.2.2 a) sp dp n)) := by
  refine zD_op (c := (pc + 3, LL, r, zw h a (zcs' (h.2.2 a0) (h.2.2 a) sp dp n))) hd rfl rfl ?_ ?_
  · show (zlu zCt M i).bind _ = _
    rw [zcu_no hn]; rfl
  · show (zlu zSt M i).bind _ = _
    rw [hl]
    show (if 1 ≤ zdep M then (if zcat r ≤ 8 then (zcopy (h.2.2 a0) (h.2.2 a) sp dp n).bind _ else _) else _) = _
    rw [if_pos hdep, if_pos hcat, zcopy_ok hx]
    rfl
theorem zD_ldc {i q : Nat} {v : Int32} (hd : decode (zb M) pc = .ok (.ldc i, 2)) (hl : zlu zKt M i = some (v, q)) : zD M pc LL S h = zD M (pc + 2) LL (.int v :: S) h := by
  refine zD_op (c := (pc + 2, LL, .int v :: S, h)) hd rfl rfl rfl ?_
  show (zlu zKt M i).bind _ = _
  rw [hl]; rfl
theorem zD_ldcw {i q : Nat} {v : Int32} (hd : decode (zb M) pc = .ok (.ldc_w i, 3)) (hl : zlu zKt M i = some (v, q)) : zD M pc LL S h = zD M (pc + 3) LL (.int v :: S) h := by
  refine zD_op (c := (pc + 3, LL, .int v :: S, h)) hd rfl rfl rfl ?_
  show (zlu zKt M i).bind _ = _
  rw [hl]; rfl
theorem zD_ldc2 {i q : Nat} {v : Int64} (hd : decode (zb M) pc = .ok (.ldc2_w i, 3)) (hl : zlu zKl M i = some (v, q)) : zD M pc LL S h = zD M (pc + 3) LL (.long v :: S) h := by
  refine zD_op (c := (pc + 3, LL, .long v :: S, h)) hd rfl rfl rfl ?_
  show (zlu zKl M i).bind _ = _
  rw [hl]; rfl
theorem zD_new {i ci N : Nat} {q : Nat × Nat × Nat} {fs : List Value} (hd : decode (zb M) pc = .ok (.new i, 3)) (hl : zlu zNt M i = some (ci, q)) (hN : zfs ci = N) (hf : zdef ci = fs) : zD M pc LL S h = zD M (pc + 3) LL (.ref h.1 :: S) (znew h N (.inr (ci, fs))) := by
  refine zD_op (c := (pc + 3, LL, .ref h.1 :: S, znew h N (.inr (ci, fs)))) hd rfl rfl rfl ?_
  show (zlu zNt M i).bind _ = _
  rw [hl, ← hN, ← hf]; rfl
def znok (n : Int32) : Bool := decide (¬ n < 0 ∧ n.toNatClampNeg * 8 ≤ 536870912)
theorem zD_newi {n : Int32} {r : List Value} (hd : decode (zb M) pc = .ok (.newarray .int, 2)) (hx : znok n = true) : zD M pc LL (.int n :: r) h = zD M (pc + 2) LL (.ref h.1 :: r) (znew h n.toNatClampNeg (.inl (0, n.toNatClampNeg, .inl (fun _ => 0)))) := by
  refine zD_op (c := (pc + 2, LL, .ref h.1 :: r, znew h n.toNatClampNeg (.inl (0, n.toNatClampNeg, .inl (fun _ => 0))))) hd rfl rfl rfl ?_
  show (znewa .int n).bind _ = _
  unfold znewa
  rw [if_pos (of_decide_eq_true hx)]
  rfl
theorem zD_newl {n : Int32} {r : List Value} (hd : decode (zb M) pc = .ok (.newarray .long, 2)) (hx : znok n = true) : zD M pc LL (.int n :: r) h = zD M (pc + 2) LL (.ref h.1 :: r) (znew h n.toNatClampNeg (.inl (1, n.toNatClampNeg, .inr (.inl (fun _ => 0))))) := by
  refine zD_op (c := (pc + 2, LL, .ref h.1 :: r, znew h n.toNatClampNeg (.inl (1, n.toNatClampNeg, .inr (.inl (fun _ => 0)))))) hd rfl rfl rfl ?_
  show (znewa .long n).bind _ = _
  unfold znewa
  rw [if_pos (of_decide_eq_true hx)]
  rfl
theorem zD_newz {n : Int32} {r : List Value} (hd : decode (zb M) pc = .ok (.newarray .boolean, 2)) (hx : znok n = true) : zD M pc LL (.int n :: r) h = zD M (pc + 2) LL (.ref h.1 :: r) (znew h n.toNatClampNeg (.inl (2, n.toNatClampNeg, .inl (fun _ => 0)))) := by
  refine zD_op (c := (pc + 2, LL, .ref h.1 :: r, znew h n.toNatClampNeg (.inl (2, n.toNatClampNeg, .inl (fun _ => 0))))) hd rfl rfl rfl ?_
  show (znewa .boolean n).bind _ = _
  unfold znewa
  rw [if_pos (of_decide_eq_true hx)]
  rfl
theorem zD_anew {i ci t : Nat} {q : Nat × Nat × Nat} {n : Int32} {r : List Value} (hd : decode (zb M) pc = .ok (.anewarray i, 3)) (hl : zlu zNt M i = some (ci, q)) (ht : zrk ci = some t) (hx : znok n = true) : zD M pc LL (.int n :: r) h = zD M (pc + 3) LL (.ref h.1 :: r) (znew h n.toNatClampNeg (.inl (t, n.toNatClampNeg, .inr (.inr (.inr (.inr (fun _ => none))))))) := by
  refine zD_op (c := (pc + 3, LL, .ref h.1 :: r, znew h n.toNatClampNeg (.inl (t, n.toNatClampNeg, .inr (.inr (.inr (.inr (fun _ => none)))))))) hd rfl rfl rfl ?_
  show (zlu zNt M i).bind _ = _
  rw [hl]
  show (zrk ci).bind _ = _
  rw [ht]
  show (if ¬ n < 0 ∧ n.toNatClampNeg * 8 ≤ 536870912 then _ else _) = _
  rw [if_pos (of_decide_eq_true hx)]
theorem zD_goto {off : Int} {t : Nat} (hd : decode (zb M) pc = .ok (.goto off, 3)) (ht : (pc : Int) + off = (t : Int)) : zD M pc LL S h = zD M t LL S h := by
  refine zD_op (c := (t, LL, S, h)) hd rfl rfl rfl ?_
  show zjmp pc off LL S h = _
  unfold zjmp zgo
  rw [if_pos (by omega), ht]
  rfl
theorem zD_nl {off : Int} {t : Nat} {r : List Value} (hd : decode (zb M) pc = .ok (.ifnull off, 3)) (ht : (pc : Int) + off = (t : Int)) : zD M pc LL (.null :: r) h = zD M t LL r h := by
  refine zD_op (c := (t, LL, r, h)) hd rfl rfl rfl ?_
  show zbr true pc off LL r h = _
  unfold zbr zgo
  rw [if_pos (by omega), ht]
  rfl
theorem zD_nlr {off : Int} {t a : Nat} {r : List Value} (hd : decode (zb M) pc = .ok (.ifnull off, 3)) (ht : (pc : Int) + off = (t : Int)) : zD M pc LL (.ref a :: r) h = zD M (pc + 3) LL r h := by
  refine zD_op (c := (pc + 3, LL, r, h)) hd rfl rfl rfl ?_
  show zbr (decide (Value.ref a = .null)) pc off LL r h = _
  unfold zbr
  rw [if_pos (by omega)]
  rfl
theorem zD_nn {off : Int} {t : Nat} {r : List Value} (hd : decode (zb M) pc = .ok (.ifnonnull off, 3)) (ht : (pc : Int) + off = (t : Int)) : zD M pc LL (.null :: r) h = zD M (pc + 3) LL r h := by
  refine zD_op (c := (pc + 3, LL, r, h)) hd rfl rfl rfl ?_
  show zbr false pc off LL r h = _
  unfold zbr
  rw [if_pos (by omega)]
  rfl
theorem zD_nnr {off : Int} {t a : Nat} {r : List Value} (hd : decode (zb M) pc = .ok (.ifnonnull off, 3)) (ht : (pc : Int) + off = (t : Int)) : zD M pc LL (.ref a :: r) h = zD M t LL r h := by
  refine zD_op (c := (t, LL, r, h)) hd rfl rfl rfl ?_
  show zbr (decide (¬ Value.ref a = .null)) pc off LL r h = _
  unfold zbr zgo
  rw [if_pos (by omega), ht]
  rfl
theorem zD_st1 {k : Nat} {v : Value} {r : List Value} {L' : zL} {ins : Instr} {len : Nat} {t : Nat} (hd : decode (zb M) pc = .ok (ins, len)) (hlk : zlk ins len = true) (he : zend M ins (v :: r) = none) (hc : zcall M ins (v :: r) h = none) (hk : k < zml M) (hL : zset1 LL k v = L') (ho : zop M ins pc LL (v :: r) h = if k < zml M then some (t, zset1 LL k v, r, h) else none) : zD M pc LL (v :: r) h = zD M t L' r h := by
  rw [if_pos hk, hL] at ho
  exact zD_op hd hlk he hc ho
theorem zD_st2 {k : Nat} {v : Value} {r : List Value} {L' : zL} {ins : Instr} {len : Nat} {t : Nat} (hd : decode (zb M) pc = .ok (ins, len)) (hlk : zlk ins len = true) (he : zend M ins (v :: r) = none) (hc : zcall M ins (v :: r) h = none) (hk : k + 1 < zml M) (hL : zset2 LL k v = L') (ho : zop M ins pc LL (v :: r) h = if k + 1 < zml M then some (t, zset2 LL k v, r, h) else none) : zD M pc LL (v :: r) h = zD M t L' r h := by
  rw [if_pos hk, hL] at ho
  exact zD_op hd hlk he hc ho
theorem zD_iinc {k : Nat} {x c : Int32} {n : Int} {L' : zL} (hd : decode (zb M) pc = .ok (.iinc k n, 3)) (hn : Int32.ofInt n = c) (hx : LL[k]? = some (some (.int x))) (hk : k < zml M) (hL : zset1 LL k (.int (x + c)) = L') : zD M pc LL S h = zD M (pc + 3) L' S h := by
  refine zD_op (c := (pc + 3, L', S, h)) hd rfl rfl rfl ?_
  show zldi LL k _ = _
  unfold zldi
  rw [hx]
  show (if k < zml M then _ else _) = _
  rw [if_pos hk, hn, hL]
theorem zD_icst {n : Int} {v : Int32} (hd : decode (zb M) pc = .ok (.iconst n, 1)) (hv : Int32.ofInt n = v) : zD M pc LL S h = zD M (pc + 1) LL (.int v :: S) h := by
  subst hv
  exact zD_op (c := (pc + 1, LL, .int (Int32.ofInt n) :: S, h)) hd rfl rfl rfl rfl
theorem zD_bip {n : Int} {v : Int32} (hd : decode (zb M) pc = .ok (.bipush n, 2)) (hv : (Int8.ofInt n).toInt32 = v) : zD M pc LL S h = zD M (pc + 2) LL (.int v :: S) h := by
  subst hv
  exact zD_op (c := (pc + 2, LL, .int (Int8.ofInt n).toInt32 :: S, h)) hd rfl rfl rfl rfl
theorem zD_sip {n : Int} {v : Int32} (hd : decode (zb M) pc = .ok (.sipush n, 3)) (hv : (Int16.ofInt n).toInt32 = v) : zD M pc LL S h = zD M (pc + 3) LL (.int v :: S) h := by
  subst hv
  exact zD_op (c := (pc + 3, LL, .int (Int16.ofInt n).toInt32 :: S, h)) hd rfl rfl rfl rfl
theorem zC_def {y : Nat} {as : List Value} {L' : zL} (hL : zent y as = L') : zC y as h = zD y 0 L' [] h := by
  unfold zC
  rw [hL]
end ZD2
