def R_law : String := "HeadTreesLaw"
def lw_P (b : Addr) (xs : List Int32) (args : Array Value) (s : State) : Prop := args = #[.ref b] ∧ s.IntsAt b xs ∧ xs.length ≤ 2048 ∧ (Jvm.Cond.and given_1 narrow_1).before args s = true
def lw_Q (_ : Array Value) (s : State) (o : Outcome) (t : State) : Prop := o = .returned (some (.int 1)) ∧ Framed s o t [] 600000 7302250
def lw_Z (below : List Frame) (a : Array Value) (s : State) : State → Prop := fun t => ∃ o, t.status = .running ∧ Ended t below o ∧ lw_Q a s o t
/-- the law's own end, with 1 on the stack, nothing written that was there before, its room as the claim has it -/
theorem lw_ret {p : Program} {l : Launch} {e : Env} {s : State} {m : MethodId} {below : List Frame} {meth : Method} {c : Code} {b : Nat} (hx : p.tables.exec = Jvm.exec) (hb : c.code = code) (hr : meth.sig.returnType = ret) (hlocks : meth.locks = false) {pc : Nat} {H : Heap} {ls : Array Slot} (hdg : decode code pc = .ok (.ireturn, 1)) : W p l e room_1 s m #[Value.ref b] below meth c H [] 600000 7302250 (lw_Z below #[Value.ref b] s) (F0 m pc ls [.int 1]) := by
  intro T hT X
  obtain ⟨fs, hret, hrun, hended, hW, hframe⟩ := X.leave (v := some (.int 1)) (hlocks := hlocks) (fun h => by rw [hr] at h; cases h)
  have hmeth' : T.vm.method? m = some meth := X.method'
  refine ⟨T.setFrames fs, ?_, .returned (some (.int 1)), hrun, hended, rfl, ⟨_, rfl⟩, hW, hframe⟩
  jvm_step X.here [X.here.top, hx, hb, hdg, hmeth', hr, ret, narrow_b1]
  (try refine ⟨rfl, ?_⟩); (try refine ⟨rfl, ?_⟩)
  first | (intro acts; rw [hret _ acts rfl rfl rfl]) | rw [hret _ _ rfl rfl rfl]
  exact Steps.refl _
/-- what holds at the law's entry: the machine, the code, the tables' words (any of lw_tbl by 'hts w (by decide +kernel)'), the script of L ints xs at the cell b, what the Statement gives of the start (any of its parts by flat_of_before) -/
def lw_At (p : Program) (s : State) (m : MethodId) (meth : Method) (c : Code) (b L : Nat) (xs : Nat → Int32) : Prop :=
  p.tables.exec = Jvm.exec ∧ c.code = code ∧ meth.sig.returnType = ret ∧ c.maxLocals = 4 ∧ s.vm.findClass R_law = some m.cls ∧ (∀ w ∈ lw_tbl, w.before #[Value.ref b] s = true) ∧ va_X b L xs s s.heap ∧ b < s.heap.size ∧ meth.locks = false ∧ (Jvm.Cond.and given_1 narrow_1).before #[Value.ref b] s = true
/-! the law, started: from what my machine does to what the real one does -/
def zh0 (L : Nat) (xs : Nat → Int32) : zH := (1, 0, fun a => if a = 0 then .inl (9, L, .inl xs) else zdead)
def zGoal (L : Nat) (xs : Nat → Int32) : Prop := ∃ (f : Nat) (h' : zH), zrun f 165 0 (zent 165 [.ref 0]) [] (zh0 L xs) = some (some (.int 1), h') ∧ h'.1 ≤ 600001 ∧ h'.2.1 ≤ 7302250
theorem z_arrc {args : Array Value} {s : State} {ty : FieldType} (h : (Cond.arrayClass ty).before args s = true) : ∃ cA, ArrOfT s cA ty ∧ s.vm.findClass ("[" ++ ty.toString) = some cA := by
  obtain ⟨cA, kA, comp, h1, h2, h3⟩ := Cond.arrayClass_spec h
  exact ⟨cA, fun n z => ⟨fun k h => (by cases h), kA, h2, comp, h3⟩, h1⟩
theorem z_arro {args : Array Value} {s : State} {C : String} (h : (Cond.arrayOver (.object C)).before args s = true) : ∃ cA, ArrOfT s cA (.object C) ∧ va_RA s cA (.object C) := by
  obtain ⟨comp, cA, kA, h1, h2, h3, h4, h5⟩ := Cond.arrayOver_spec h
  exact ⟨cA, fun n z => ⟨fun k h => (by cases h), kA, h3, comp, h4⟩, kA, comp, h3, h4, h1, h5⟩
theorem z_world {args : Array Value} {s : State} (hts : ∀ w ∈ lw_tbl, w.before args s = true) : ∃ (dC : Nat → ClassId) (dI : Nat → Nat → Nat) (tc : Nat → ClassId), zWd dC dI tc s := by
  have hzT : ∀ w ∈ zT, w.before args s = true := fun w hw => hts w (List.mem_filter.mp hw).1
  have hk : ∀ ci : Nat, ∃ (cC : ClassId) (iS : Nat → Nat), ∀ q, vwCl[ci]? = some q → u_Kn s q.1 q.2.1 q.2.2 cC iS := by
    intro ci
    cases hq : vwCl[ci]? with
    | none => exact ⟨0, fun _ => 0, fun q h => by cases h⟩
    | some q =>
      obtain ⟨h1, -, -, n, h2⟩ := zcl_ok ci q hq
      obtain ⟨cC, iS, h3⟩ := u_known (C := q.1) (T := q.2.1) (N := q.2.2) (n := n) hzT h1 (hzT _ h2)
      exact ⟨cC, iS, fun q' h => by cases h; exact h3⟩
  obtain ⟨c0, a0, b0⟩ := z_arrc (hzT _ zo_int)
  obtain ⟨c1, a1, b1⟩ := z_arrc (hzT _ zo_long)
  obtain ⟨c2, a2, b2⟩ := z_arrc (hzT _ zo_bool)
  obtain ⟨c3, a3, b3⟩ := z_arro (hts _ zo_over3)
  obtain ⟨c4, a4, b4⟩ := z_arro (hts _ zo_over4)
  refine ⟨fun ci => Classical.choose (hk ci), fun ci => Classical.choose (Classical.choose_spec (hk ci)), fun t => if t = 0 then c0 else if t = 1 then c1 else if t = 2 then c2 else if t = 3 then c3 else c4, ⟨fun ci q hq => Classical.choose_spec (Classical.choose_spec (hk ci)) q hq, fun k q hq => ?_⟩, fun o i C n d g hm => va_Nw.of rfl (hts _ hm), hts _ zo_over3, hts _ zo_over4⟩
  match k, hq with
  | 0, hq => cases hq; exact ⟨a0, b0⟩
  | 1, hq => cases hq; exact ⟨a1, b1⟩
  | 2, hq => cases hq; exact ⟨a2, b2⟩
  | 3, hq => cases hq; exact ⟨a3, b3⟩
  | 4, hq => cases hq; exact ⟨a4, b4⟩
  | k + 5, hq => simp at hq
set_option maxRecDepth 100000 in
theorem zM165 : zM 165 = (11, cL_law, 4, some .boolean, yL_law, 7, 0) := rfl
theorem ws_of (hz : ∀ (L : Nat) (xs : Nat → Int32), L ≤ 2048 → zGoal L xs) {p : Program} {e : Env} {s : State} {m : MethodId} {below : List Frame} {meth : Method} {c : Code} (l : Launch) {b L : Nat} {xs : Nat → Int32} (hL : L ≤ 2048) (C0 : lw_At p s m meth c b L xs) : W p l e room_1 s m #[Value.ref b] below meth c s.heap [] 0 0 (lw_Z below #[Value.ref b] s) (entryFrame m ([Value.ref b] : List Value).toArray 4) := by
  obtain ⟨hx, hb, hr, hml, hown, hts, hX, hbl, hlocks, hgv⟩ := id C0
  obtain ⟨dC, dI, tc, hWd⟩ := z_world hts
  obtain ⟨f, h', hrun, hc', hs'⟩ := hz L xs hL
  obtain ⟨B, hB⟩ : ∃ B, s.heap.size = B + 1 := ⟨s.heap.size - 1, by omega⟩
  have e1 : zb 165 = code := by unfold zb; rw [zM165]
  have e2 : zml 165 = 4 := by unfold zml; rw [zM165]
  have e3 : zown 165 = 11 := by unfold zown; rw [zM165]
  have e4 : zdep 165 = 7 := by unfold zdep; rw [zM165]
  have e5 : zy 165 = yL_law := by unfold zy; rw [zM165]
  have C1 : zCx p room_1 s m #[Value.ref b] meth c dC dI tc b B L xs 165 :=
    ⟨hx, by rw [e1]; exact hb, by rw [e2]; exact hml, by rw [e3]; exact hown, fun w hw => hts w (List.mem_filter.mp hw).1, fun hn => by rw [e5] at hn; exact absurd hn (by decide), hWd, hX, by omega, by omega, by rw [e4]; decide, by rw [e4]; decide⟩
  have hgo := z_all l dC dI tc b B L xs f 165 0 _ _ _ _ _ hrun p e room_1 s m #[Value.ref b] below meth c (lw_Z below #[Value.ref b] s) 1 0 C1 (by show h'.1 ≤ 600000 + 1; omega) (by show h'.2.1 ≤ 7302250 + 0; omega)
    (fun ins pc' S' H locs cells slots ls LL' he hd ok hc hs => by
      have hi : ins = .ireturn ∧ S' = [.int 1] := by
        unfold zend at he
        split at he
        · split at he
          · split at he
            · cases he; exact ⟨rfl, rfl⟩
            · cases he
          · cases he
        · split at he <;> cases he
        · split at he <;> cases he
        · split at he <;> cases he
        · split at he <;> cases he
        · cases he
      obtain ⟨rfl, rfl⟩ := hi
      rw [e1] at hd
      refine va_forget (fun q hq => by rw [hB]; exact ok.2.1.2.2 q hq) ?_
      refine W.widen (k := 600000) (n := 7302250) (by omega) (by omega) ?_
      exact lw_ret hx hb hr hlocks hd)
  rw [lg_entry_eq]
  have hent : zLs b B (zml 165) (zent 165 [.ref 0]) _ := zLs.entry (b := b) (B := B) (n := zml 165) (vs := [.ref 0]) (by rw [e2]; decide)
  rw [e2] at hent
  refine hgo s.heap [] 0 0 _ ⟨⟨by rw [hB]; rfl, Nat.le_refl 1, fun a ha => ?_, rfl, fun k q hk => ?_⟩, va_S.rf, by rw [e2]; exact hent⟩ rfl rfl
  · have : 1 ≤ a := ha
    show (if a = 0 then _ else zdead) = zdead
    rw [if_neg (by omega)]
  · obtain ⟨h1, -⟩ := zW_inv hk
    exact absurd h1 (Nat.not_lt_zero _)
