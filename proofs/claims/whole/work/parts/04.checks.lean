/-! the tables of part 02, held against the words of the Statement -/
def zT : List Cond := lw_tbl.filter goodWord
def zok (i : Nat) (w : Cond) : Bool := decide (lw_tbl[i]? = some w) && goodWord w
theorem zok_in {i : Nat} {w : Cond} (h : zok i w = true) : w ∈ zT := by
  simp only [zok, Bool.and_eq_true, decide_eq_true_eq] at h
  exact List.mem_filter.mpr ⟨List.mem_of_getElem? h.1, h.2⟩
theorem zlook {β : Type} {k : Nat} {v : β} : ∀ {l : List (Nat × β)}, l.lookup k = some v → (k, v) ∈ l
  | [], h => by simp at h
  | (a, b) :: t, h => by
    rw [List.lookup_cons] at h
    by_cases e : k == a
    · rw [e] at h
      have : k = a := by simpa using e
      subst this
      simp at h
      subst h
      exact List.mem_cons_self
    · have e' : (k == a) = false := by simpa using e
      rw [e'] at h
      exact List.mem_cons_of_mem _ (zlook h)
def zMok (e : Nat × ByteArray × Nat × Option FieldType × MethodName × Nat × Nat) : Bool :=
  zok e.2.2.2.2.2.2 (.code e.2.2.2.2.1 e.2.1 e.2.2.1 e.2.2.2.1) && (plainName e.2.2.2.2.1.cls && (decide (e.2.2.1 ≤ 11) && decide (e.2.2.2.2.1.cls = zR e.1)))
set_option maxRecDepth 100000 in
theorem zM0_ok : zMt0.all zMok = true := by decide +kernel
set_option maxRecDepth 100000 in
theorem zM1_ok : zMt1.all zMok = true := by decide +kernel
set_option maxRecDepth 100000 in
theorem zM2_ok : zMt2.all zMok = true := by decide +kernel
set_option maxRecDepth 100000 in
theorem zM3_ok : zMt3.all zMok = true := by decide +kernel
set_option maxRecDepth 100000 in
theorem zM4_ok : zMt4.all zMok = true := by decide +kernel
set_option maxRecDepth 100000 in
theorem zM5_ok : (zMt5.take 15).all zMok = true := by decide +kernel
theorem zMt_len : zMt.length = 166 := by decide +kernel
theorem zM_ok {m : Nat} (h : m < 165) : zMok (zM m) = true := by
  have hl : zMt.take 165 = zMt0 ++ (zMt1 ++ (zMt2 ++ (zMt3 ++ (zMt4 ++ zMt5.take 15)))) := by
    show (zMt0 ++ (zMt1 ++ (zMt2 ++ (zMt3 ++ (zMt4 ++ zMt5))))).take 165 = _
    rw [List.take_append, List.take_of_length_le (show zMt0.length ≤ 165 by decide +kernel), show zMt0.length = 30 by decide +kernel]
    rw [List.take_append, List.take_of_length_le (show zMt1.length ≤ 165 - 30 by decide +kernel), show zMt1.length = 30 by decide +kernel]
    rw [List.take_append, List.take_of_length_le (show zMt2.length ≤ 165 - 30 - 30 by decide +kernel), show zMt2.length = 30 by decide +kernel]
    rw [List.take_append, List.take_of_length_le (show zMt3.length ≤ 165 - 30 - 30 - 30 by decide +kernel), show zMt3.length = 30 by decide +kernel]
    rw [List.take_append, List.take_of_length_le (show zMt4.length ≤ 165 - 30 - 30 - 30 - 30 by decide +kernel), show zMt4.length = 30 by decide +kernel]
  have hall : (zMt.take 165).all zMok = true := by
    rw [hl]
    simp only [List.all_append, zM0_ok, zM1_ok, zM2_ok, zM3_ok, zM4_ok, zM5_ok, Bool.and_self]
  have hm : m < zMt.length := by rw [zMt_len]; omega
  have e : zM m = zMt[m] := by
    unfold zM
    rw [List.getD_eq_getElem?_getD, List.getElem?_eq_getElem hm]; rfl
  rw [e]
  refine List.all_eq_true.mp hall _ ?_
  exact List.mem_of_getElem? (i := m) (by rw [List.getElem?_take, if_pos h, List.getElem?_eq_getElem hm])
def zFok (e : Nat × Nat × Nat × Nat × Nat) : Bool := match vwCl[e.2.1]? with
  | some q => decide (e.2.2.1 < q.2.2) && (if e.2.2.2.2 = 0 then zok e.2.2.2.1 (.fieldLink (zR (e.1 / 1000)) (e.1 % 1000) q.1 (q.2.1 e.2.2.1).2.1 (q.2.1 e.2.2.1).2.2.1) else decide (lw_tbl[e.2.2.2.1]? = some (.fieldLinkNest (zR (e.1 / 1000)) (e.1 % 1000) q.1 (q.2.1 e.2.2.1).2.1 (q.2.1 e.2.2.1).2.2.1 "HeadTrees"))) && decide ((q.2.1 e.2.2.1).1 = q.1)
  | none => false
set_option maxRecDepth 100000 in
theorem zFt_ok : zFt.all zFok = true := by decide +kernel
def zKok (e : Nat × Int32 × Nat) : Bool := zok e.2.2 (.constant (zR (e.1 / 1000)) (e.1 % 1000) e.2.1)
theorem zKt_ok : zKt.all zKok = true := by decide +kernel
def zKlok (e : Nat × Int64 × Nat) : Bool := zok e.2.2 (.constantLong (zR (e.1 / 1000)) (e.1 % 1000) e.2.1)
theorem zKl_ok : zKl.all zKlok = true := by decide +kernel
def zNok (e : Nat × Nat × Nat × Nat × Nat) : Bool := match vwCl[e.2.1]? with
  | some q => zok e.2.2.1 (.classLink (zR (e.1 / 1000)) (e.1 % 1000) q.1) && (zok e.2.2.2.1 (.instantiable q.1 q.2.2) && zok e.2.2.2.2 (.initialized q.1))
  | none => false
theorem zNt_ok : zNt.all zNok = true := by decide +kernel
def zCok (e : Nat × Nat × Nat × Nat × Nat × Nat × Nat × Nat) : Bool :=
  zok e.2.2.2.2.1 (.methodLink (zR (e.1 / 1000)) (e.1 % 1000) (zy e.2.1)) && (zok e.2.2.2.2.2.2.2 (.initialized (zy e.2.1).cls) && (decide (e.2.1 < 165) && (decide ((zy e.2.1).cls ≠ "java/lang/invoke/MethodHandle" ∧ (zy e.2.1).cls ≠ "java/lang/invoke/VarHandle" ∧ (parseMethodDescriptor (zy e.2.1).desc).map (fun d => d.parameters.length) = some e.2.2.1) &&
    (if e.2.2.2.1 = 0 then zok e.2.2.2.2.2.1 (.instanceMethod (zy e.2.1)) && zok e.2.2.2.2.2.2.1 (.selects (zy e.2.1).cls (zy e.2.1) (zy e.2.1)) else if e.2.2.2.1 = 1 then zok e.2.2.2.2.2.1 (.static (zy e.2.1)) else decide (e.2.2.2.1 = 2) && (zok e.2.2.2.2.2.1 (.instanceMethod (zy e.2.1)) && (decide ((zy e.2.1).name = "<init>") && decide (zrt e.2.1 = none)))))))
set_option maxRecDepth 100000 in
theorem zC0_ok : zCt0.all zCok = true := by decide +kernel
set_option maxRecDepth 100000 in
theorem zC1_ok : zCt1.all zCok = true := by decide +kernel
set_option maxRecDepth 100000 in
theorem zC2_ok : zCt2.all zCok = true := by decide +kernel
set_option maxRecDepth 100000 in
theorem zC3_ok : zCt3.all zCok = true := by decide +kernel
theorem zCt_ok : zCt.all zCok = true := by
  show (zCt0 ++ (zCt1 ++ (zCt2 ++ zCt3))).all zCok = true
  simp only [List.all_append, zC0_ok, zC1_ok, zC2_ok, zC3_ok, Bool.and_self]
def zSok (e : Nat × Nat × Nat) : Bool := zok e.2.2 (.methodLink (zR (e.1 / 1000)) (e.1 % 1000) (match e.2.1 with
  | 2 => objectInit
  | 3 => Lib.Math.max.name
  | 4 => Lib.Math.min.name
  | 5 => Lib.Math.abs.name
  | _ => arraycopyName))
theorem zSt_ok : zSt.all zSok = true := by decide +kernel
theorem zo_inst : Cond.instanceMethod objectInit ∈ zT := zok_in (i := 62) (by decide +kernel)
theorem zo_code : Cond.code objectInit ⟨#[0xb1]⟩ 1 none ∈ zT := zok_in (i := 63) (by decide +kernel)
theorem zo_native : Cond.native arraycopyName ∈ zT := zok_in (i := 552) (by decide +kernel)
theorem zo_static : Cond.static arraycopyName ∈ zT := zok_in (i := 551) (by decide +kernel)
theorem zo_sys : Cond.initialized "java/lang/System" ∈ zT := zok_in (i := 55) (by decide +kernel)
theorem zo_math : Cond.initialized "java/lang/Math" ∈ zT := zok_in (i := 46) (by decide +kernel)
theorem zo_maxs : Cond.static Lib.Math.max.name ∈ zT := zok_in (i := 132) (by decide +kernel)
theorem zo_maxc : Cond.code Lib.Math.max.name Lib.Math.max.code 2 (some .int) ∈ zT := zok_in (i := 133) (by decide +kernel)
theorem zo_mins : Cond.static Lib.Math.min.name ∈ zT := zok_in (i := 129) (by decide +kernel)
theorem zo_minc : Cond.code Lib.Math.min.name Lib.Math.min.code 2 (some .int) ∈ zT := zok_in (i := 130) (by decide +kernel)
theorem zo_abss : Cond.static Lib.Math.abs.name ∈ zT := zok_in (i := 468) (by decide +kernel)
theorem zo_absc : Cond.code Lib.Math.abs.name Lib.Math.abs.code 1 (some .int) ∈ zT := zok_in (i := 469) (by decide +kernel)
theorem zo_int : Cond.arrayClass .int ∈ zT := zok_in (i := 98) (by decide +kernel)
theorem zo_long : Cond.arrayClass .long ∈ zT := zok_in (i := 146) (by decide +kernel)
theorem zo_bool : Cond.arrayClass .boolean ∈ zT := zok_in (i := 787) (by decide +kernel)
theorem zo_over3 : Cond.arrayOver (.object "HeadTrees$TopKeys") ∈ lw_tbl := List.mem_of_getElem? (i := 118) (by decide +kernel)
theorem zo_over4 : Cond.arrayOver (.object "HeadTrees$Drawing") ∈ lw_tbl := List.mem_of_getElem? (i := 183) (by decide +kernel)
/-- a class of the worlds: its fields' words, types and names -/
def zcl (q : vw_C) (ty : Nat → FieldType) : Prop := (∀ w ∈ u_ws q.1 q.2.1 q.2.2, w ∈ zT) ∧ (∀ k, k < q.2.2 → parseFieldDescriptor (q.2.1 k).2.2.1 = some (ty k)) ∧ (∀ a, a < q.2.2 → ∀ b, b < q.2.2 → a ≠ b → (q.2.1 a).2.1 ≠ (q.2.1 b).2.1) ∧ ∃ n, Cond.instantiable q.1 n ∈ zT
def zuw (C : String) (T : u_T) (N : Nat) : Bool := (u_ws C T N).all (fun w => lw_tbl.contains w && goodWord w)
theorem zuw_in {C : String} {T : u_T} {N : Nat} (h : zuw C T N = true) : ∀ w ∈ u_ws C T N, w ∈ zT := by
  intro w hw
  have h1 := List.all_eq_true.mp h w hw
  simp only [Bool.and_eq_true, List.contains_iff_mem] at h1
  exact List.mem_filter.mpr h1
set_option maxRecDepth 100000 in
theorem zcl_ok : ∀ (ci : Nat) (q : vw_C), vwCl[ci]? = some q → zcl q (zTy ci) := by
  intro ci q h
  match ci, h with
  | 0, h => cases h; exact ⟨zuw_in (by decide +kernel), tyX0_ok, nmX0, 2, List.mem_filter.mpr ⟨by decide +kernel, by decide⟩⟩
  | 1, h => cases h; exact ⟨zuw_in (by decide +kernel), tyX1_ok, nmX1, 2, List.mem_filter.mpr ⟨by decide +kernel, by decide⟩⟩
  | 2, h => cases h; exact ⟨zuw_in (by decide +kernel), tyX2_ok, nmX2, 2, List.mem_filter.mpr ⟨by decide +kernel, by decide⟩⟩
  | 3, h => cases h; exact ⟨zuw_in (by decide +kernel), tyX3_ok, nmX3, 3, List.mem_filter.mpr ⟨by decide +kernel, by decide⟩⟩
  | 4, h => cases h; exact ⟨zuw_in (by decide +kernel), tyX5_ok, nmX5, 10, List.mem_filter.mpr ⟨by decide +kernel, by decide⟩⟩
  | 5, h => cases h; exact ⟨zuw_in (by decide +kernel), tyX6_ok, nmX6, 3, List.mem_filter.mpr ⟨by decide +kernel, by decide⟩⟩
  | 6, h => cases h; exact ⟨zuw_in (by decide +kernel), tyX7_ok, nmX7, 2, List.mem_filter.mpr ⟨by decide +kernel, by decide⟩⟩
  | 7, h => cases h; exact ⟨zuw_in (by decide +kernel), tyX8_ok, nmX8, 3, List.mem_filter.mpr ⟨by decide +kernel, by decide⟩⟩
  | 8, h => cases h; exact ⟨zuw_in (by decide +kernel), tyX9_ok, nmX9, 7, List.mem_filter.mpr ⟨by decide +kernel, by decide⟩⟩
  | 9, h => cases h; exact ⟨zuw_in (by decide +kernel), tyX10_ok, nmX10, 25, List.mem_filter.mpr ⟨by decide +kernel, by decide⟩⟩
  | k + 10, h => simp [vwCl] at h
