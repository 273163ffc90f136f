/-! what a run answers, as a value; its equations -/
theorem zrun_up : ∀ (f M pc : Nat) (LL : zL) (S : List Value) (h : zH) (r : Option Value × zH), zrun f M pc LL S h = some r → zrun (f + 1) M pc LL S h = some r
  | 0, _, _, _, _, _, _, hr => by simp [zrun] at hr
  | f + 1, M, pc, LL, S, h, ⟨v, h'⟩, hr => by
    obtain ⟨ins, len, hd, hl, hq⟩ := zrun_inv hr
    rw [zrun, hd]
    simp only [hl, if_true]
    rcases hq with ⟨he, rfl⟩ | ⟨he, c, hc, r, h1, h2⟩ | ⟨he, hc, c, h1, h2⟩
    · rw [he]
    · rw [he, hc]
      simp only
      rw [zrun_up f _ _ _ _ _ _ h1]
      exact zrun_up f _ _ _ _ _ _ h2
    · rw [he, hc]
      simp only
      rw [h1]
      exact zrun_up f _ _ _ _ _ _ h2
theorem zrun_le {f g : Nat} (hfg : f ≤ g) {M pc : Nat} {LL : zL} {S : List Value} {h : zH} {r : Option Value × zH} (hr : zrun f M pc LL S h = some r) : zrun g M pc LL S h = some r := by
  induction hfg with
  | refl => exact hr
  | step _ ih => exact zrun_up _ _ _ _ _ _ _ ih
noncomputable def zD (M pc : Nat) (LL : zL) (S : List Value) (h : zH) : Option (Option Value × zH) := @dite _ (∃ r, ∃ f, zrun f M pc LL S h = some r) (Classical.propDecidable _) (fun hx => some (Classical.choose hx)) (fun _ => none)
noncomputable def zC (y : Nat) (as : List Value) (h : zH) : Option (Option Value × zH) := zD y 0 (zent y as) [] h
theorem zD_iff {M pc : Nat} {LL : zL} {S : List Value} {h : zH} {r : Option Value × zH} : zD M pc LL S h = some r ↔ ∃ f, zrun f M pc LL S h = some r := by
  unfold zD
  by_cases hx : ∃ r, ∃ f, zrun f M pc LL S h = some r
  · rw [dif_pos hx]
    obtain ⟨f, hf⟩ := Classical.choose_spec hx
    constructor
    · intro e
      cases e
      exact ⟨f, hf⟩
    · rintro ⟨g, hg⟩
      have h1 := zrun_le (Nat.le_max_left f g) hf
      have h2 := zrun_le (Nat.le_max_right f g) hg
      rw [h1] at h2
      exact h2
  · rw [dif_neg hx]
    constructor
    · intro e; cases e
    · rintro ⟨g, hg⟩
      exact absurd ⟨r, g, hg⟩ hx
theorem zopt {α : Type} {a b : Option α} (h : ∀ r, a = some r ↔ b = some r) : a = b := by
  cases b with
  | none =>
    cases a with
    | none => rfl
    | some x => exact absurd ((h x).mp rfl) (by simp)
  | some y => exact (h y).mpr rfl
section ZD
variable {M pc : Nat} {LL : zL} {S : List Value} {h : zH} {ins : Instr} {len : Nat}
theorem zD_op {c : zR4} (hd : decode (zb M) pc = .ok (ins, len)) (hl : zlk ins len = true) (he : zend M ins S = none) (hc : zcall M ins S h = none) (ho : zop M ins pc LL S h = some c) : zD M pc LL S h = zD M c.1 c.2.1 c.2.2.1 c.2.2.2 := by
  refine zopt fun r => ?_
  rw [zD_iff, zD_iff]
  constructor
  · rintro ⟨f, hf⟩
    cases f with
    | zero => simp [zrun] at hf
    | succ f =>
      rw [zrun, hd] at hf
      simp only [hl, if_true, he, hc, ho] at hf
      exact ⟨f, hf⟩
  · rintro ⟨f, hf⟩
    refine ⟨f + 1, ?_⟩
    rw [zrun, hd]
    simp only [hl, if_true, he, hc, ho]
    exact hf
theorem zD_ret {v : Option Value} (hd : decode (zb M) pc = .ok (ins, len)) (hl : zlk ins len = true) (he : zend M ins S = some v) : zD M pc LL S h = some (v, h) := by
  rw [zD_iff]
  refine ⟨1, ?_⟩
  rw [zrun, hd]
  simp only [hl, if_true, he]
theorem zD_call {y : Nat} {as r : List Value} {v : Option Value} {h' : zH} (hd : decode (zb M) pc = .ok (ins, len)) (hl : zlk ins len = true) (he : zend M ins S = none) (hc : zcall M ins S h = some (y, as, r)) (hC : zC y as h = some (v, h')) : zD M pc LL S h = zD M (pc + 3) LL (v.toList ++ r) h' := by
  obtain ⟨g, hg⟩ := zD_iff.mp hC
  refine zopt fun o => ?_
  rw [zD_iff, zD_iff]
  constructor
  · rintro ⟨f, hf⟩
    cases f with
    | zero => simp [zrun] at hf
    | succ f =>
      rw [zrun, hd] at hf
      simp only [hl, if_true, he, hc] at hf
      obtain ⟨x, h1, h2⟩ := Option.bind_eq_some_iff.mp hf
      have h3 := zrun_le (Nat.le_max_left f g) h1
      have h4 := zrun_le (Nat.le_max_right f g) hg
      rw [h3] at h4
      cases h4
      exact ⟨f, h2⟩
  · rintro ⟨f, hf⟩
    refine ⟨max f g + 1, ?_⟩
    rw [zrun, hd]
    simp only [hl, if_true, he, hc]
    rw [zrun_le (Nat.le_max_right f g) hg]
    exact zrun_le (Nat.le_max_left f g) hf
/-! reads and writes, by what a cell is -/
def zfok (x : zA) (ci k : Nat) : Bool := match x with
  | .inr (c, fs) => c == ci && decide (k < fs.length)
  | _ => false
def zfv (x : zA) (k : Nat) : Value := match x with
  | .inr (_, fs) => fs.getD k .null
  | _ => .null
def zfs' (x : zA) (k : Nat) (v : Value) : zA := match x with
  | .inr (c, fs) => .inr (c, fs.set k v)
  | y => y
theorem zfget_ok {x : zA} {ci k : Nat} (hx : zfok x ci k = true) : zfget x ci k = some (zfv x k) := by
  unfold zfok at hx
  split at hx
  · next c fs =>
    simp only [Bool.and_eq_true, beq_iff_eq, decide_eq_true_eq] at hx
    obtain ⟨rfl, h1⟩ := hx
    simp [zfget, zfv, h1]
  · cases hx
theorem zfput_ok {x : zA} {ci k : Nat} {v : Value} (hx : zfok x ci k = true) (hf : fits (zTy ci k) v = true) (hn : narrow (zTy ci k) v = v) : zfput x ci k v = some (zfs' x k v) := by
  unfold zfok at hx
  split at hx
  · next c fs =>
    simp only [Bool.and_eq_true, beq_iff_eq, decide_eq_true_eq] at hx
    obtain ⟨rfl, h1⟩ := hx
    simp [zfput, zfs', h1, hf, hn]
  · cases hx
def ziok (a : Nat) (x : zA) (i : Int32) : Bool := match x with
  | .inl (t, n, .inl _) => decide (t = 0 ∨ (t = 9 ∧ a = 0)) && zin i n
  | _ => false
def zbok (x : zA) (i : Int32) : Bool := match x with
  | .inl (t, n, .inl _) => decide (t = 2) && zin i n
  | _ => false
def zpok (x : zA) (i : Int32) : Bool := match x with
  | .inl (t, n, .inl _) => decide (t = 0) && zin i n
  | _ => false
def zlok (x : zA) (i : Int32) : Bool := match x with
  | .inl (t, n, .inr (.inl _)) => decide (t = 1) && zin i n
  | _ => false
def zrok (x : zA) (i : Int32) : Bool := match x with
  | .inl (t, n, .inr (.inr (.inr (.inr _)))) => decide (t = 3 ∨ t = 4) && zin i n
  | _ => false
def ziv (x : zA) (i : Int32) : Int32 := match x with
  | .inl (_, _, .inl f) => f i.toNatClampNeg
  | _ => 0
def zlv' (x : zA) (i : Int32) : Int64 := match x with
  | .inl (_, _, .inr (.inl f)) => f i.toNatClampNeg
  | _ => 0
def zrv' (x : zA) (i : Int32) : Value := match x with
  | .inl (_, _, .inr (.inr (.inr (.inr f)))) => va_rf (f i.toNatClampNeg)
  | _ => .null
def zis' (x : zA) (i w : Int32) : zA := match x with
  | .inl (t, n, .inl f) => .inl (t, n, .inl (upd f i.toNatClampNeg w))
  | y => y
def zls' (x : zA) (i : Int32) (w : Int64) : zA := match x with
  | .inl (t, n, .inr (.inl f)) => .inl (t, n, .inr (.inl (vp_updL f i.toNatClampNeg w)))
  | y => y
def zrs' (x : zA) (i : Int32) (w : Option Nat) : zA := match x with
  | .inl (t, n, .inr (.inr (.inr (.inr f)))) => .inl (t, n, .inr (.inr (.inr (.inr (va_up f i.toNatClampNeg w)))))
  | y => y
theorem zgeti_ok {a : Nat} {x : zA} {i : Int32} (hx : ziok a x i = true) : zgeti a x i = some (ziv x i) := by
  unfold ziok at hx
  split at hx
  · simp only [Bool.and_eq_true, decide_eq_true_eq] at hx
    simp only [zgeti, ziv]
    rw [if_pos hx]
  · cases hx
theorem zgetb_ok {x : zA} {i : Int32} (hx : zbok x i = true) : zgetb x i = some (ziv x i) := by
  unfold zbok at hx
  split at hx
  · simp only [Bool.and_eq_true, decide_eq_true_eq] at hx
    simp only [zgetb, ziv]
    rw [if_pos hx]
  · cases hx
theorem zgetl_ok {x : zA} {i : Int32} (hx : zlok x i = true) : zgetl x i = some (zlv' x i) := by
  unfold zlok at hx
  split at hx
  · simp only [Bool.and_eq_true, decide_eq_true_eq] at hx
    simp only [zgetl, zlv']
    rw [if_pos hx]
  · cases hx
theorem zgetr_ok {x : zA} {i : Int32} (hx : zrok x i = true) : zgetr x i = some (zrv' x i) := by
  unfold zrok at hx
  split at hx
  · simp only [Bool.and_eq_true, decide_eq_true_eq] at hx
    simp only [zgetr, zrv']
    rw [if_pos hx]
  · cases hx
theorem zputi_ok {x : zA} {i w : Int32} (hx : zpok x i = true) : zputi x i (.int w) = some (zis' x i w) := by
  unfold zpok at hx
  split at hx
  · simp only [Bool.and_eq_true, decide_eq_true_eq] at hx
    simp only [zputi, zis']
    rw [if_pos hx, hx.1]
  · cases hx
theorem zputb_ok {x : zA} {i w : Int32} (hx : zbok x i = true) : zputb x i (.int w) = some (zis' x i (vp_nar .boolean w)) := by
  unfold zbok at hx
  split at hx
  · simp only [Bool.and_eq_true, decide_eq_true_eq] at hx
    simp only [zputb, zis']
    rw [if_pos hx, hx.1]
  · cases hx
theorem zputl_ok {x : zA} {i : Int32} {w : Int64} (hx : zlok x i = true) : zputl x i (.long w) = some (zls' x i w) := by
  unfold zlok at hx
  split at hx
  · simp only [Bool.and_eq_true, decide_eq_true_eq] at hx
    simp only [zputl, zls']
    rw [if_pos hx, hx.1]
  · cases hx
/-- may this reference lie in that array? -/
def zrel (h : zH) (x : zA) (w : Nat) : Bool := match x with
  | .inl (t, _, _) => zis (h.2.2 w) (zel t)
  | _ => false
theorem zputr_ok {x : zA} {i : Int32} {w : Nat} (hx : zrok x i = true) (hw : zrel h x w = true) : zputr h x i (.ref w) = some (zrs' x i (some w)) := by
  unfold zrok at hx
  split at hx
  · simp only [Bool.and_eq_true, decide_eq_true_eq] at hx
    simp only [zputr, zrs']
    rw [if_pos ⟨hx.1, hx.2, hw⟩]
  · cases hx
theorem zputn_ok {x : zA} {i : Int32} (hx : zrok x i = true) : zputr h x i .null = some (zrs' x i none) := by
  unfold zrok at hx
  split at hx
  · simp only [Bool.and_eq_true, decide_eq_true_eq] at hx
    simp only [zputr, zrs']
    rw [if_pos hx]
  · cases hx
def zaok (a : Nat) (x : zA) : Bool := match x with
  | .inl (t, _, _) => decide (t ≤ 4 ∨ (t = 9 ∧ a = 0))
  | _ => false
def zan (x : zA) : Nat := match x with
  | .inl (_, n, _) => n
  | _ => 0
theorem zalen_ok {a : Nat} {x : zA} (hx : zaok a x = true) : zalen a x = some (Int32.ofNat (zan x)) := by
  unfold zaok at hx
  split at hx
  · simp only [decide_eq_true_eq] at hx
    simp only [zalen, zan]
    rw [if_pos hx]
  · cases hx
theorem zD_getf {i a ci k : Nat} {q : Nat × Nat} {r : List Value} (hd : decode (zb M) pc = .ok (.getfield i, 3)) (hl : zlu zFt M i = some (ci, k, q)) (hx : zfok (h.2.2 a) ci k = true) : zD M pc LL (.ref a :: r) h = zD M (pc + 3) LL (zfv (h.2.2 a) k :: r) h := by
  refine zD_op (c := (pc + 3, LL, zfv (h.2.2 a) k :: r, h)) hd rfl rfl rfl ?_
  show (zlu zFt M i).bind _ = _
  rw [hl]
  show (zfget (h.2.2 a) ci k).bind _ = _
  rw [zfget_ok hx]
  rfl
theorem zD_putf {i a ci k : Nat} {q : Nat × Nat} {r : List Value} {v : Value} (hd : decode (zb M) pc = .ok (.putfield i, 3)) (hl : zlu zFt M i = some (ci, k, q)) (hn : zfin M ci k = true) (hx : zfok (h.2.2 a) ci k = true) (hf : fits (zTy ci k) v = true) (hna : narrow (zTy ci k) v = v) : zD M pc LL (v :: .ref a :: r) h = zD M (pc + 3) LL r (zw h a (zfs' (h.2.2 a) k v)) := by
  refine zD_op (c := (pc + 3, LL, r, zw h a (zfs' (h.2.2 a) k v))) hd rfl rfl rfl ?_
  show (zlu zFt M i).bind _ = _
  rw [hl]
  show (if zfin M ci k = true then (zfput (h.2.2 a) ci k v).bind _ else none) = _
  rw [if_pos hn, zfput_ok hx hf hna]
  rfl
theorem zD_iald {i : Int32} {a : Nat} {r : List Value} (hd : decode (zb M) pc = .ok (.iaload, 1)) (hx : ziok a (h.2.2 a) i = true) : zD M pc LL (.int i :: .ref a :: r) h = zD M (pc + 1) LL (.int (ziv (h.2.2 a) i) :: r) h := by
  refine zD_op (c := (pc + 1, LL, .int (ziv (h.2.2 a) i) :: r, h)) hd rfl rfl rfl ?_
  show (zgeti a (h.2.2 a) i).bind _ = _
  rw [zgeti_ok hx]
  rfl
theorem zD_bald {i : Int32} {a : Nat} {r : List Value} (hd : decode (zb M) pc = .ok (.baload, 1)) (hx : zbok (h.2.2 a) i = true) : zD M pc LL (.int i :: .ref a :: r) h = zD M (pc + 1) LL (.int (ziv (h.2.2 a) i) :: r) h := by
  refine zD_op (c := (pc + 1, LL, .int (ziv (h.2.2 a) i) :: r, h)) hd rfl rfl rfl ?_
  show (zgetb (h.2.2 a) i).bind _ = _
  rw [zgetb_ok hx]
  rfl
theorem zD_lald {i : Int32} {a : Nat} {r : List Value} (hd : decode (zb M) pc = .ok (.laload, 1)) (hx : zlok (h.2.2 a) i = true) : zD M pc LL (.int i :: .ref a :: r) h = zD M (pc + 1) LL (.long (zlv' (h.2.2 a) i) :: r) h := by
  refine zD_op (c := (pc + 1, LL, .long (zlv' (h.2.2 a) i) :: r, h)) hd rfl rfl rfl ?_
  show (zgetl (h.2.2 a) i).bind _ = _
  rw [zgetl_ok hx]
  rfl
theorem zD_aald {i : Int32} {a : Nat} {r : List Value} (hd : decode (zb M) pc = .ok (.aaload, 1)) (hx : zrok (h.2.2 a) i = true) : zD M pc LL (.int i :: .ref a :: r) h = zD M (pc + 1) LL (zrv' (h.2.2 a) i :: r) h := by
  refine zD_op (c := (pc + 1, LL, zrv' (h.2.2 a) i :: r, h)) hd rfl rfl rfl ?_
  show (zgetr (h.2.2 a) i).bind _ = _
  rw [zgetr_ok hx]
  rfl
theorem zD_iast {i w : Int32} {a : Nat} {r : List Value} (hd : decode (zb M) pc = .ok (.iastore, 1)) (hx : zpok (h.2.2 a) i = true) : zD M pc LL (.int w :: .int i :: .ref a :: r) h = zD M (pc + 1) LL r (zw h a (zis' (h.2.2 a) i w)) := by
  refine zD_op (c := (pc + 1, LL, r, zw h a (zis' (h.2.2 a) i w))) hd rfl rfl rfl ?_
  show (zputi (h.2.2 a) i (.int w)).bind _ = _
  rw [zputi_ok hx]
  rfl
theorem zD_bast {i w : Int32} {a : Nat} {r : List Value} (hd : decode (zb M) pc = .ok (.bastore, 1)) (hx : zbok (h.2.2 a) i = true) : zD M pc LL (.int w :: .int i :: .ref a :: r) h = zD M (pc + 1) LL r (zw h a (zis' (h.2.2 a) i (vp_nar .boolean w))) := by
  refine zD_op (c := (pc + 1, LL, r, zw h a (zis' (h.2.2 a) i (vp_nar .boolean w)))) hd rfl rfl rfl ?_
  show (zputb (h.2.2 a) i (.int w)).bind _ = _
  rw [zputb_ok hx]
  rfl
theorem zD_last {i : Int32} {w : Int64} {a : Nat} {r : List Value} (hd : decode (zb M) pc = .ok (.lastore, 1)) (hx : zlok (h.2.2 a) i = true) : zD M pc LL (.long w :: .int i :: .ref a :: r) h = zD M (pc + 1) LL r (zw h a (zls' (h.2.2 a) i w)) := by
  refine zD_op (c := (pc + 1, LL, r, zw h a (zls' (h.2.2 a) i w))) hd rfl rfl rfl ?_
  show (zputl (h.2.2 a) i (.long w)).bind _ = _
  rw [zputl_ok hx]
  rfl
theorem zD_aast {i : Int32} {w a : Nat} {r : List Value} (hd : decode (zb M) pc = .ok (.aastore, 1)) (hx : zrok (h.2.2 a) i = true) (hw : zrel h (h.2.2 a) w = true) : zD M pc LL (.ref w :: .int i :: .ref a :: r) h = zD M (pc + 1) LL r (zw h a (zrs' (h.2.2 a) i (some w))) := by
  refine zD_op (c := (pc + 1, LL, r, zw h a (zrs' (h.2.2 a) i (some w)))) hd rfl rfl rfl ?_
  show (zputr h (h.2.2 a) i (.ref w)).bind _ = _
  rw [zputr_ok hx hw]
  rfl
theorem zD_aastn {i : Int32} {a : Nat} {r : List Value} (hd : decode (zb M) pc = .ok (.aastore, 1)) (hx : zrok (h.2.2 a) i = true) : zD M pc LL (.null :: .int i :: .ref a :: r) h = zD M (pc + 1) LL r (zw h a (zrs' (h.2.2 a) i none)) := by
  refine zD_op (c := (pc + 1, LL, r, zw h a (zrs' (h.2.2 a) i none))) hd rfl rfl rfl ?_
  show (zputr h (h.2.2 a) i .null).bind _ = _
  rw [zputn_ok hx]
  rfl
theorem zD_alen {a : Nat} {r : List Value} (hd : decode (zb M) pc = .ok (.arraylength, 1)) (hx : zaok a (h.2.2 a) = true) : zD M pc LL (.ref a :: r) h = zD M (pc + 1) LL (.int (Int32.ofNat (zan (h.2.2 a))) :: r) h := by
  refine zD_op (c := (pc + 1, LL, .int (Int32.ofNat (zan (h.2.2 a))) :: r, h)) hd rfl rfl rfl ?_
  show (zalen a (h.2.2 a)).bind _ = _
  rw [zalen_ok hx]
  rfl
theorem zD_div {x y : Int32} {r : List Value} (hd : decode (zb M) pc = .ok (.idiv, 1)) (hy : ¬ y = 0) : zD M pc LL (.int y :: .int x :: r) h = zD M (pc + 1) LL (.int (x / y) :: r) h := by
  refine zD_op (c := (pc + 1, LL, .int (x / y) :: r, h)) hd rfl rfl rfl ?_
  show (if y = 0 then none else _) = _
  rw [if_neg hy]
theorem zD_rem {x y : Int32} {r : List Value} (hd : decode (zb M) pc = .ok (.irem, 1)) (hy : ¬ y = 0) : zD M pc LL (.int y :: .int x :: r) h = zD M (pc + 1) LL (.int (x - x / y * y) :: r) h := by
  refine zD_op (c := (pc + 1, LL, .int (x - x / y * y) :: r, h)) hd rfl rfl rfl ?_
  show (if y = 0 then none else _) = _
  rw [if_neg hy]
theorem zD_ldiv {x y : Int64} {r : List Value} (hd : decode (zb M) pc = .ok (.ldiv, 1)) (hy : ¬ y = 0) : zD M pc LL (.long y :: .long x :: r) h = zD M (pc + 1) LL (.long (x / y) :: r) h := by
  refine zD_op (c := (pc + 1, LL, .long (x / y) :: r, h)) hd rfl rfl rfl ?_
  show (if y = 0 then none else _) = _
  rw [if_neg hy]
theorem zD_if {x y : Int32} {cnd : Jvm.ClassFile.Cond} {P : Prop} [hP : Decidable P] {off : Int} {t : Nat} {r : List Value} (hd : decode (zb M) pc = .ok (.if_icmp cnd off, 3)) (ht : (pc : Int) + off = (t : Int)) (hb : zicmp cnd x y = decide P) : zD M pc LL (.int y :: .int x :: r) h = if P then zD M t LL r h else zD M (pc + 3) LL r h := by
  have ho : zop M (.if_icmp cnd off) pc LL (.int y :: .int x :: r) h = some (if zicmp cnd x y = true then zgo pc off else pc + 3, LL, r, h) := by
    show zbr _ _ _ _ _ _ = _
    unfold zbr
    rw [if_pos (by omega)]
  have hg : zgo pc off = t := by unfold zgo; omega
  rw [zD_op hd rfl rfl rfl ho]
  dsimp only
  rw [hb, hg]
  by_cases hp : P
  · simp [hp]
  · simp [hp]
theorem zD_if0 {x : Int32} {cnd : Jvm.ClassFile.Cond} {P : Prop} [hP : Decidable P] {off : Int} {t : Nat} {r : List Value} (hd : decode (zb M) pc = .ok (.ifCond cnd off, 3)) (ht : (pc : Int) + off = (t : Int)) (hb : zicmp cnd x 0 = decide P) : zD M pc LL (.int x :: r) h = if P then zD M t LL r h else zD M (pc + 3) LL r h := by
  have ho : zop M (.ifCond cnd off) pc LL (.int x :: r) h = some (if zicmp cnd x 0 = true then zgo pc off else pc + 3, LL, r, h) := by
    show zbr _ _ _ _ _ _ = _
    unfold zbr
    rw [if_pos (by omega)]
  have hg : zgo pc off = t := by unfold zgo; omega
  rw [zD_op hd rfl rfl rfl ho]
  dsimp only
  rw [hb, hg]
  by_cases hp : P
  · simp [hp]
  · simp [hp]
theorem zD_sw {x : Int32} {d lo hi : Int} {offs : Array Int} {r : List Value} {t : Nat} (hd : decode (zb M) pc = .ok (.tableswitch d lo hi offs, len)) (hx : (ztab pc d lo hi offs x LL r h) = some (t, LL, r, h)) : zD M pc LL (.int x :: r) h = zD M t LL r h := by
  exact zD_op (c := (t, LL, r, h)) hd rfl rfl rfl hx
/-- a call's answer, where it has one -/
def zgv (o : Option (Option Value × zH)) : List Value := match o with
  | some (v, _) => v.toList
  | none => []
def zgh (h : zH) (o : Option (Option Value × zH)) : zH := match o with
  | some (_, h') => h'
  | none => h
/-- a call's entry: method, parameters, kind -/
def zcu (M i : Nat) : List Nat := match zlu zCt M i with
  | some e => [e.1, e.2.1, e.2.2.1]
  | none => []
theorem zcu_of {i y n k : Nat} (hl : zcu M i = [y, n, k]) : ∃ q, zlu zCt M i = some (y, n, k, q) := by
  unfold zcu at hl
  split at hl
  · next e he =>
    simp only [List.cons.injEq, and_true] at hl
    obtain ⟨rfl, rfl, rfl⟩ := hl
    exact ⟨_, he⟩
  · cases hl
theorem zcu_no {i : Nat} (hl : zcu M i = []) : zlu zCt M i = none := by
  unfold zcu at hl
  split at hl
  · cases hl
  · next he => exact he
theorem zD_callv {i y n a : Nat} {ci : Nat} {as r : List Value} (hd : decode (zb M) pc = .ok (.invokevirtual i, 3)) (hl : zcu M i = [y, n, 0]) (hk : as.length = n) (hdep : zdep y < zdep M) (hml : (zlocs (.ref a :: as)).length ≤ zml y) (hcl : (vwCl[ci]?).map (fun q => q.1) = some (zy y).cls) (hcat : zcat r ≤ 8) (hr : zis (h.2.2 a) ci = true) (hC : (zC y (.ref a :: as) h).isSome = true) :
    zD M pc LL (as.reverse ++ .ref a :: r) h = zD M (pc + 3) LL (zgv (zC y (.ref a :: as) h) ++ r) (zgh h (zC y (.ref a :: as) h)) := by
  obtain ⟨⟨v, h'⟩, hv⟩ := Option.isSome_iff_exists.mp hC
  obtain ⟨q, hl⟩ := zcu_of hl
  rw [zD_call (y := y) (as := .ref a :: as) (r := r) (v := v) (h' := h') hd rfl rfl ?_ hv, hv]
  · rfl
  · show (zlu zCt M i).bind _ = _
    rw [hl]
    have e1 : (as.reverse ++ .ref a :: r).take (n + 1) = as.reverse ++ [.ref a] := by
      rw [List.take_append, List.take_of_length_le (by simp; omega)]
      simp [hk]
    have e2 : (as.reverse ++ .ref a :: r).drop (n + 1) = r := by
      rw [List.drop_append, List.drop_of_length_le (by simp; omega)]
      simp [hk]
    have e3 : zrecv h y 0 (.ref a :: as) = true := by
      unfold zis at hr
      split at hr
      · next c fs hc =>
        simp only [zrecv, hc]
        have : c = ci := by simpa using hr
        subst this
        simp [hcl]
      · cases hr
    simp only [Option.bind_some, if_neg (show ¬ (0 : Nat) = 1 by decide), e1, e2]
    rw [if_pos]
    · simp
    · refine ⟨by simp, by simp; omega, hcat, hdep, ?_, ?_⟩
      · simpa using hml
      · simpa using e3
theorem zD_calls {i y n : Nat} {as r : List Value} (hd : decode (zb M) pc = .ok (.invokestatic i, 3)) (hl : zcu M i = [y, n, 1]) (hk : as.length = n) (hdep : zdep y < zdep M) (hml : (zlocs as).length ≤ zml y) (hcat : zcat r ≤ 8) (hC : (zC y as h).isSome = true) :
    zD M pc LL (as.reverse ++ r) h = zD M (pc + 3) LL (zgv (zC y as h) ++ r) (zgh h (zC y as h)) := by
  obtain ⟨⟨v, h'⟩, hv⟩ := Option.isSome_iff_exists.mp hC
  obtain ⟨q, hl⟩ := zcu_of hl
  rw [zD_call (y := y) (as := as) (r := r) (v := v) (h' := h') hd rfl rfl ?_ hv, hv]
  · rfl
  · show (zlu zCt M i).bind _ = _
    rw [hl]
    have e1 : (as.reverse ++ r).take n = as.reverse := by
      rw [List.take_append, List.take_of_length_le (by simp; omega)]
      simp [hk]
    have e2 : (as.reverse ++ r).drop n = r := by
      rw [List.drop_append, List.drop_of_length_le (by simp; omega)]
      simp [hk]
    simp only [Option.bind_some, if_true, e1, e2]
    rw [if_pos]
    · simp
    · refine ⟨by simp, by simp; omega, hcat, hdep, ?_, rfl⟩
      simpa using hml
theorem zD_calli {i y n a : Nat} {as r : List Value} (hd : decode (zb M) pc = .ok (.invokespecial i, 3)) (hl : zcu M i = [y, n, 2]) (hk : as.length = n) (hdep : zdep y < zdep M) (hml : (zlocs (.ref a :: as)).length ≤ zml y) (hcat : zcat r ≤ 8) (hC : (zC y (.ref a :: as) h).isSome = true) :
    zD M pc LL (as.reverse ++ .ref a :: r) h = zD M (pc + 3) LL (zgv (zC y (.ref a :: as) h) ++ r) (zgh h (zC y (.ref a :: as) h)) := by
  obtain ⟨⟨v, h'⟩, hv⟩ := Option.isSome_iff_exists.mp hC
  obtain ⟨q, hl⟩ := zcu_of hl
  rw [zD_call (y := y) (as := .ref a :: as) (r := r) (v := v) (h' := h') hd rfl rfl ?_ hv, hv]
  · rfl
  · show (zlu zCt M i).bind _ = _
    rw [hl]
    have e1 : (as.reverse ++ .ref a :: r).take (n + 1) = as.reverse ++ [.ref a] := by
      rw [List.take_append, List.take_of_length_le (by simp; omega)]
      simp [hk]
    have e2 : (as.reverse ++ .ref a :: r).drop (n + 1) = r := by
      rw [List.drop_append, List.drop_of_length_le (by simp; omega)]
      simp [hk]
    simp only [Option.bind_some, if_neg (show ¬ (2 : Nat) = 1 by decide), e1, e2]
    rw [if_pos]
    · simp
    · refine ⟨by simp, by simp; omega, hcat, hdep, ?_, ?_⟩
      · simpa using hml
      · simp [zrecv]
end ZD
