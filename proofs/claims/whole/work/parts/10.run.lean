/-! whole runs: calls and returns -/
section ZMONO
variable {M : Nat} {h : zH} {LL : zL}
set_option maxHeartbeats 4000000 in
theorem zop_mono {ins : Instr} {pc : Nat} {S : List Value} {o : zR4} (hop : zop M ins pc LL S h = some o) : h.1 ≤ o.2.2.2.1 ∧ h.2.1 ≤ o.2.2.2.2.1 := by
  have hle : h.1 ≤ h.1 ∧ h.2.1 ≤ h.2.1 := ⟨Nat.le_refl _, Nat.le_refl _⟩
  cases ins with
  | iconst n =>
    cases hop
    exact hle
  | bipush n =>
    cases hop
    exact hle
  | sipush n =>
    cases hop
    exact hle
  | lconst n =>
    cases hop
    exact hle
  | aconst_null =>
    cases hop
    exact hle
  | ldc i =>
    obtain ⟨x, hl, hk⟩ := Option.bind_eq_some_iff.mp hop
    cases hk
    exact hle
  | ldc_w i =>
    obtain ⟨x, hl, hk⟩ := Option.bind_eq_some_iff.mp hop
    cases hk
    exact hle
  | ldc2_w i =>
    obtain ⟨x, hl, hk⟩ := Option.bind_eq_some_iff.mp hop
    cases hk
    exact hle
  | iload_n k =>
    obtain ⟨x, hl, hk⟩ := zldi_inv hop
    cases hk
    exact hle
  | iload k =>
    obtain ⟨x, hl, hk⟩ := zldi_inv hop
    cases hk
    exact hle
  | lload_n k =>
    obtain ⟨x, hl, hk⟩ := zldl_inv hop
    cases hk
    exact hle
  | lload k =>
    obtain ⟨x, hl, hk⟩ := zldl_inv hop
    cases hk
    exact hle
  | aload_n k =>
    simp only [zop] at hop
    rcases zlda_inv hop with ⟨a, hl, hk⟩ | ⟨hl, hk⟩
    · cases hk
      exact hle
    · cases hk
      exact hle
  | aload k =>
    simp only [zop] at hop
    rcases zlda_inv hop with ⟨a, hl, hk⟩ | ⟨hl, hk⟩
    · cases hk
      exact hle
    · cases hk
      exact hle
  | istore_n k =>
    obtain ⟨x, r, rfl, hk⟩ := z1i_inv hop
    split at hk
    · cases hk
      exact hle
    · cases hk
  | istore k =>
    obtain ⟨x, r, rfl, hk⟩ := z1i_inv hop
    split at hk
    · cases hk
      exact hle
    · cases hk
  | lstore_n k =>
    obtain ⟨x, r, rfl, hk⟩ := z1l_inv hop
    split at hk
    · cases hk
      exact hle
    · cases hk
  | lstore k =>
    obtain ⟨x, r, rfl, hk⟩ := z1l_inv hop
    split at hk
    · cases hk
      exact hle
    · cases hk
  | astore_n k =>
    simp only [zop] at hop
    rcases zsta_inv hop with ⟨a, r, rfl, hk⟩ | ⟨r, rfl, hk⟩
    · split at hk
      · cases hk
        exact hle
      · cases hk
    · split at hk
      · cases hk
        exact hle
      · cases hk
  | astore k =>
    simp only [zop] at hop
    rcases zsta_inv hop with ⟨a, r, rfl, hk⟩ | ⟨r, rfl, hk⟩
    · split at hk
      · cases hk
        exact hle
      · cases hk
    · split at hk
      · cases hk
        exact hle
      · cases hk
  | iinc k n =>
    obtain ⟨x, hl, hk⟩ := zldi_inv hop
    split at hk
    · cases hk
      exact hle
    · cases hk
  | iadd =>
    obtain ⟨x, y, r, rfl, hk⟩ := z2i_inv hop
    cases hk
    exact hle
  | isub =>
    obtain ⟨x, y, r, rfl, hk⟩ := z2i_inv hop
    cases hk
    exact hle
  | imul =>
    obtain ⟨x, y, r, rfl, hk⟩ := z2i_inv hop
    cases hk
    exact hle
  | iand =>
    obtain ⟨x, y, r, rfl, hk⟩ := z2i_inv hop
    cases hk
    exact hle
  | ior =>
    obtain ⟨x, y, r, rfl, hk⟩ := z2i_inv hop
    cases hk
    exact hle
  | ixor =>
    obtain ⟨x, y, r, rfl, hk⟩ := z2i_inv hop
    cases hk
    exact hle
  | ishl =>
    obtain ⟨x, y, r, rfl, hk⟩ := z2i_inv hop
    cases hk
    exact hle
  | ishr =>
    obtain ⟨x, y, r, rfl, hk⟩ := z2i_inv hop
    cases hk
    exact hle
  | iushr =>
    obtain ⟨x, y, r, rfl, hk⟩ := z2i_inv hop
    cases hk
    exact hle
  | idiv =>
    obtain ⟨x, y, r, rfl, hk⟩ := z2i_inv hop
    split at hk
    · cases hk
    · cases hk
      exact hle
  | irem =>
    obtain ⟨x, y, r, rfl, hk⟩ := z2i_inv hop
    split at hk
    · cases hk
    · cases hk
      exact hle
  | ineg =>
    obtain ⟨x, r, rfl, hk⟩ := z1i_inv hop
    cases hk
    exact hle
  | i2l =>
    obtain ⟨x, r, rfl, hk⟩ := z1i_inv hop
    cases hk
    exact hle
  | l2i =>
    obtain ⟨x, r, rfl, hk⟩ := z1l_inv hop
    cases hk
    exact hle
  | lneg =>
    obtain ⟨x, r, rfl, hk⟩ := z1l_inv hop
    cases hk
    exact hle
  | ladd =>
    obtain ⟨x, y, r, rfl, hk⟩ := z2l_inv hop
    cases hk
    exact hle
  | lsub =>
    obtain ⟨x, y, r, rfl, hk⟩ := z2l_inv hop
    cases hk
    exact hle
  | lmul =>
    obtain ⟨x, y, r, rfl, hk⟩ := z2l_inv hop
    cases hk
    exact hle
  | lcmp =>
    obtain ⟨x, y, r, rfl, hk⟩ := z2l_inv hop
    cases hk
    exact hle
  | ldiv =>
    obtain ⟨x, y, r, rfl, hk⟩ := z2l_inv hop
    split at hk
    · cases hk
    · cases hk
      exact hle
  | lshl =>
    obtain ⟨x, y, r, rfl, hk⟩ := zli_inv hop
    cases hk
    exact hle
  | lshr =>
    obtain ⟨x, y, r, rfl, hk⟩ := zli_inv hop
    cases hk
    exact hle
  | dup =>
    obtain ⟨v, r, rfl, hk⟩ := z1v_inv hop
    split at hk
    · cases hk
      exact hle
    · cases hk
  | pop =>
    obtain ⟨v, r, rfl, hk⟩ := z1v_inv hop
    split at hk
    · cases hk
      exact hle
    · cases hk
  | dup2 =>
    obtain ⟨v, w, r, rfl, hk⟩ := z2v_inv hop
    split at hk
    · cases hk
      exact hle
    · cases hk
  | ifCond cnd off =>
    obtain ⟨x, r, rfl, hk⟩ := z1i_inv hop
    obtain ⟨tgt, ht, rfl⟩ := zbr_inv hk
    exact hle
  | if_icmp cnd off =>
    obtain ⟨x, y, r, rfl, hk⟩ := z2i_inv hop
    obtain ⟨tgt, ht, rfl⟩ := zbr_inv hk
    exact hle
  | ifnull off =>
    simp only [zop] at hop
    rcases zsta_inv hop with ⟨a, r, rfl, hk⟩ | ⟨r, rfl, hk⟩
    · obtain ⟨tgt, ht, rfl⟩ := zbr_inv hk
      exact hle
    · obtain ⟨tgt, ht, rfl⟩ := zbr_inv hk
      exact hle
  | ifnonnull off =>
    simp only [zop] at hop
    rcases zsta_inv hop with ⟨a, r, rfl, hk⟩ | ⟨r, rfl, hk⟩
    · obtain ⟨tgt, ht, rfl⟩ := zbr_inv hk
      exact hle
    · obtain ⟨tgt, ht, rfl⟩ := zbr_inv hk
      exact hle
  | goto off =>
    obtain ⟨tgt, ht, rfl⟩ := zjmp_inv hop
    exact hle
  | tableswitch d lo hi offs =>
    obtain ⟨x, r, rfl, hk⟩ := z1i_inv hop
    unfold ztab at hk
    split at hk
    · obtain ⟨tgt, ht, rfl⟩ := zjmp_inv hk
      exact hle
    · split at hk
      · obtain ⟨tgt, ht, rfl⟩ := zjmp_inv hk
        exact hle
      · cases hk
  | getfield i =>
    obtain ⟨a, r, rfl, hk⟩ := z1r_inv hop
    obtain ⟨x, hl, hk⟩ := Option.bind_eq_some_iff.mp hk
    obtain ⟨v, hv, hk⟩ := Option.bind_eq_some_iff.mp hk
    cases hk
    exact hle
  | putfield i =>
    obtain ⟨v, a, r, rfl, hk⟩ := zvr_inv hop
    obtain ⟨x, hl, hk⟩ := Option.bind_eq_some_iff.mp hk
    split at hk
    · obtain ⟨y, hv, hk⟩ := Option.bind_eq_some_iff.mp hk
      cases hk
      exact hle
    · cases hk
  | iaload =>
    obtain ⟨i, a, r, rfl, hk⟩ := zar_inv hop
    obtain ⟨v, hv, hk⟩ := Option.bind_eq_some_iff.mp hk
    cases hk
    exact hle
  | baload =>
    obtain ⟨i, a, r, rfl, hk⟩ := zar_inv hop
    obtain ⟨v, hv, hk⟩ := Option.bind_eq_some_iff.mp hk
    cases hk
    exact hle
  | laload =>
    obtain ⟨i, a, r, rfl, hk⟩ := zar_inv hop
    obtain ⟨v, hv, hk⟩ := Option.bind_eq_some_iff.mp hk
    cases hk
    exact hle
  | aaload =>
    obtain ⟨i, a, r, rfl, hk⟩ := zar_inv hop
    obtain ⟨v, hv, hk⟩ := Option.bind_eq_some_iff.mp hk
    cases hk
    exact hle
  | iastore =>
    obtain ⟨v, i, a, r, rfl, hk⟩ := zas_inv hop
    obtain ⟨y, hv, hk⟩ := Option.bind_eq_some_iff.mp hk
    cases hk
    exact hle
  | bastore =>
    obtain ⟨v, i, a, r, rfl, hk⟩ := zas_inv hop
    obtain ⟨y, hv, hk⟩ := Option.bind_eq_some_iff.mp hk
    cases hk
    exact hle
  | lastore =>
    obtain ⟨v, i, a, r, rfl, hk⟩ := zas_inv hop
    obtain ⟨y, hv, hk⟩ := Option.bind_eq_some_iff.mp hk
    cases hk
    exact hle
  | aastore =>
    obtain ⟨v, i, a, r, rfl, hk⟩ := zas_inv hop
    obtain ⟨y, hv, hk⟩ := Option.bind_eq_some_iff.mp hk
    cases hk
    exact hle
  | arraylength =>
    obtain ⟨a, r, rfl, hk⟩ := z1r_inv hop
    obtain ⟨v, hv, hk⟩ := Option.bind_eq_some_iff.mp hk
    cases hk
    exact hle
  | newarray t =>
    obtain ⟨n, r, rfl, hk⟩ := z1i_inv hop
    obtain ⟨x, hv, hk⟩ := Option.bind_eq_some_iff.mp hk
    cases hk
    exact ⟨Nat.le_succ _, Nat.le_add_right _ _⟩
  | anewarray i =>
    obtain ⟨n, r, rfl, hk⟩ := z1i_inv hop
    obtain ⟨x, hl, hk⟩ := Option.bind_eq_some_iff.mp hk
    obtain ⟨t, ht, hk⟩ := Option.bind_eq_some_iff.mp hk
    split at hk
    · cases hk
      exact ⟨Nat.le_succ _, Nat.le_add_right _ _⟩
    · cases hk
  | new i =>
    obtain ⟨x, hl, hk⟩ := Option.bind_eq_some_iff.mp hop
    cases hk
    exact ⟨Nat.le_succ _, Nat.le_add_right _ _⟩
  | invokespecial i =>
    obtain ⟨x, hl, hk⟩ := Option.bind_eq_some_iff.mp hop
    split at hk
    · obtain ⟨a, r, rfl, hk2⟩ := z1r_inv hk
      split at hk2
      · cases hk2
        exact hle
      · cases hk2
    · cases hk
  | invokestatic i =>
    obtain ⟨x, hl, hk⟩ := Option.bind_eq_some_iff.mp hop
    split at hk
    · unfold zstat at hk
      split at hk
      · obtain ⟨n, dp, a, sp, a0, r, rfl, hk2⟩ := zcp_inv hk
        split at hk2
        · obtain ⟨y, hv, hk3⟩ := Option.bind_eq_some_iff.mp hk2
          cases hk3
          exact hle
        · cases hk2
      · obtain ⟨u, v, r, rfl, hk2⟩ := z2i_inv hk
        split at hk2
        · cases hk2
          exact hle
        · cases hk2
      · obtain ⟨u, v, r, rfl, hk2⟩ := z2i_inv hk
        split at hk2
        · cases hk2
          exact hle
        · cases hk2
      · obtain ⟨u, r, rfl, hk2⟩ := z1i_inv hk
        split at hk2
        · cases hk2
          exact hle
        · cases hk2
      · cases hk
    · cases hk
  | _ => cases hop
/-- a run's first step -/
theorem zrun_inv {f pc : Nat} {S : List Value} {v : Option Value} {h' : zH} (hr : zrun (f + 1) M pc LL S h = some (v, h')) : ∃ ins len, decode (zb M) pc = .ok (ins, len) ∧ zlk ins len = true ∧ ((zend M ins S = some v ∧ h' = h) ∨ (zend M ins S = none ∧ ∃ c, zcall M ins S h = some c ∧ ∃ r, zrun f c.1 0 (zent c.1 c.2.1) [] h = some r ∧ zrun f M (pc + 3) LL (r.1.toList ++ c.2.2) r.2 = some (v, h')) ∨ (zend M ins S = none ∧ zcall M ins S h = none ∧ ∃ c, zop M ins pc LL S h = some c ∧ zrun f M c.1 c.2.1 c.2.2.1 c.2.2.2 = some (v, h'))) := by
  rw [zrun] at hr
  split at hr
  · cases hr
  · next ins len hd =>
    split at hr
    · next hl =>
      refine ⟨ins, len, hd, hl, ?_⟩
      split at hr
      · next w hw => cases hr; exact Or.inl ⟨hw, rfl⟩
      · next hw =>
        split at hr
        · next c hc =>
          obtain ⟨r, h1, h2⟩ := Option.bind_eq_some_iff.mp hr
          exact Or.inr (Or.inl ⟨hw, c, hc, r, h1, h2⟩)
        · next hc =>
          obtain ⟨c, h1, h2⟩ := Option.bind_eq_some_iff.mp hr
          exact Or.inr (Or.inr ⟨hw, hc, c, h1, h2⟩)
    · cases hr
end ZMONO
theorem zrun_mono : ∀ (f M pc : Nat) (LL : zL) (S : List Value) (h : zH) (v : Option Value) (h' : zH), zrun f M pc LL S h = some (v, h') → h.1 ≤ h'.1 ∧ h.2.1 ≤ h'.2.1
  | 0, _, _, _, _, _, _, _, hr => by simp [zrun] at hr
  | f + 1, M, pc, LL, S, h, v, h', hr => by
    obtain ⟨ins, len, hd, hl, hq⟩ := zrun_inv hr
    rcases hq with ⟨-, rfl⟩ | ⟨-, c, hc, r, h1, h2⟩ | ⟨-, -, c, h1, h2⟩
    · exact ⟨Nat.le_refl _, Nat.le_refl _⟩
    · have a1 := zrun_mono f _ _ _ _ _ r.1 r.2 h1
      have a2 := zrun_mono f _ _ _ _ _ _ _ h2
      exact ⟨Nat.le_trans a1.1 a2.1, Nat.le_trans a1.2 a2.2⟩
    · have a1 := zop_mono h1
      have a2 := zrun_mono f _ _ _ _ _ _ _ h2
      exact ⟨Nat.le_trans a1.1 a2.1, Nat.le_trans a1.2 a2.2⟩
/-- the contract of a method of my machine for one run of it -/
def zws (y : Nat) : List Cond := Cond.code (zy y) (zb y) (zml y) (zrt y) :: zT
def zPc (dC : Nat → ClassId) (dI : Nat → Nat → Nat) (tc : Nat → ClassId) (b B L : Nat) (xs : Nat → Int32) (as : List Value) (h : zH) : Array Value → State → Prop := va_Pc (as.map (zsh b B)) (fun U => zRp dC dI tc b B L xs h U.heap ∧ zWd dC dI tc U ∧ va_X b L xs U U.heap ∧ b ≤ B)
def zQc (dC : Nat → ClassId) (dI : Nat → Nat → Nat) (tc : Nat → ClassId) (b B L : Nat) (xs : Nat → Int32) (v : Option Value) (h' : zH) : Array Value → State → Outcome → State → Prop := fun _ st oc t => oc = .returned (v.map (zsh b B)) ∧ zRp dC dI tc b B L xs h' t.heap ∧ ∀ q : Nat, q < B + 1 → t.heap[q]? = st.heap[q]?
def zroom (y mc ms : Nat) : Room := { frames := zdep y, cells := mc, slots := ms, locals := 40 * zdep y }
theorem zws_good {y : Nat} (hy : y < 165) : GoodIn zT (zws y) := by
  intro w hw
  rcases List.mem_cons.mp hw with rfl | h
  · have h1 := zM_ok hy
    unfold zMok at h1
    simp only [Bool.and_eq_true] at h1
    have h2 : Cond.code (zy y) (zb y) (zml y) (zrt y) ∈ zT := zok_in h1.1
    exact ⟨h2, good_of_word (List.mem_filter.mp h2).2⟩
  · exact ⟨h, good_of_word (List.mem_filter.mp h).2⟩
section ZRET
variable {p : Program} {l : Launch} {e : Env} {R : Room} {s : State} {m : MethodId} {args : Array Value} {below : List Frame} {meth : Method} {c : Code} {H : Heap} {locs : List Loc} {cells slots : Nat}
variable {b B M : Nat}
theorem z_ret {Qc : Array Value → State → Outcome → State → Prop} {free : Addr → Prop} (hx : p.tables.exec = Jvm.exec) (hb : c.code = zb M) (hr : meth.sig.returnType = zrt M) (hlocks : meth.locks = false) {ins : Instr} {S : List Value} {v : Option Value} {pc : Nat} {ls : Array Slot} (he : zend M ins S = some v) (hd : decode (zb M) pc = .ok (ins, 1))
    (hq : ∀ t : State, t.heap = H → s.WarmedH t.vm → Qc args s (.returned (v.map (zsh b B))) t) (hf : ∀ q ∈ locs, free q.base) : W p l e R s m args below meth c H locs cells slots (MQ below Qc args s cells slots free) (F0 m pc ls (S.map (zsh b B))) := by
  unfold zend at he
  split at he
  · split at he
    · next ty hty =>
      split at he
      · next hn =>
        cases he
        exact W.zret hx hb (hr.trans hty) hn hq hf hd hlocks
      · cases he
    · cases he
  · split at he
    · next hty =>
      cases he
      exact W.lret hx hb (hr.trans hty) hq hf hd hlocks
    · cases he
  · split at he
    · next n hty =>
      cases he
      exact W.aret hx hb (hr.trans hty) (Or.inl ⟨_, rfl⟩) (Or.inr ⟨_, rfl⟩) hq hf hd hlocks
    · next n hty =>
      cases he
      exact W.aret hx hb (hr.trans hty) (Or.inr ⟨_, rfl⟩) (Or.inr ⟨_, rfl⟩) hq hf hd hlocks
    · cases he
  · split at he
    · next n hty =>
      cases he
      exact W.aret hx hb (hr.trans hty) (Or.inl ⟨_, rfl⟩) (Or.inl rfl) hq hf hd hlocks
    · next n hty =>
      cases he
      exact W.aret hx hb (hr.trans hty) (Or.inr ⟨_, rfl⟩) (Or.inl rfl) hq hf hd hlocks
    · cases he
  · split at he
    · next hty =>
      cases he
      exact W.vret hx hb (hr.trans hty) hq hf hd hlocks
    · cases he
  · cases he
theorem z_callgo {mc ms : Nat} {g : JFrame} {rest : List Value} {Qa : State → Outcome → State → Prop} {free : Addr → Prop} {Q : State → Prop} (hr : va_Run p l e R s m args below meth c H locs cells slots mc ms g rest Qa free)
    (kk : ∀ (v : Option Value) (st t : State) (L : List Loc), st.heap = H → Qa st (.returned v) t → (∀ q ∈ L, free q.base) → W p l e R s m args below meth c t.heap (locs ++ L) (cells + mc) (slots + ms) Q { g with pc := g.pc + 3, stack := v.toList ++ rest }) : W p l e R s m args below meth c H locs cells slots Q g := by
  intro T hT X
  obtain ⟨v, st₀, t, T', L, h0, X', hL, e1, e2, hq, st⟩ := hr T hT X
  obtain ⟨t2, a1, b1⟩ := kk v st₀ t L h0 hq hL T' e1 X'
  exact ⟨t2, st t2 a1, b1⟩
end ZRET
def zAll (l : Launch) (dC : Nat → ClassId) (dI : Nat → Nat → Nat) (tc : Nat → ClassId) (b B L : Nat) (xs : Nat → Int32) (f : Nat) : Prop :=
  ∀ (M pc : Nat) (LL : zL) (S : List Value) (h : zH) (v : Option Value) (h' : zH), zrun f M pc LL S h = some (v, h') → ∀ (p : Program) (e : Env) (R : Room) (s : State) (m : MethodId) (args : Array Value) (below : List Frame) (meth : Method) (c : Code) (Q : State → Prop) (k0 n0 : Nat), zCx p R s m args meth c dC dI tc b B L xs M → h'.1 ≤ R.cells + k0 → h'.2.1 ≤ R.slots + n0 →
    (∀ (ins : Instr) (pc' : Nat) (S' : List Value) (H : Heap) (locs : List Loc) (cells slots : Nat) (ls : Array Slot) (LL' : zL), zend M ins S' = some v → decode (zb M) pc' = .ok (ins, 1) → zOk s dC dI tc b B L xs M h' H locs LL' ls → cells + k0 = h'.1 → slots + n0 = h'.2.1 → W p l e R s m args below meth c H locs cells slots Q (F0 m pc' ls (S'.map (zsh b B)))) →
    zGo p l e R s m args below meth c Q dC dI tc b B L xs M k0 n0 (pc, LL, S, h)
theorem z_met {l : Launch} {dC : Nat → ClassId} {dI : Nat → Nat → Nat} {tc : Nat → ClassId} {b B L : Nat} {xs : Nat → Int32} {f : Nat} (ih : zAll l dC dI tc b B L xs f) {y : Nat} {as : List Value} {h h' : zH} {v : Option Value} (hr : zrun f y 0 (zent y as) [] h = some (v, h')) (hy : y < 165) (hlen : (zlocs as).length ≤ zml y) :
    Met l (zy y) (zws y) (zroom y (h'.1 - h.1) (h'.2.1 - h.2.1)) (zPc dC dI tc b B L xs as h) (zQc dC dI tc b B L xs v h') (h'.1 - h.1) (h'.2.1 - h.2.1) (fun q => B + 1 ≤ q) := by
  have h1 := zM_ok hy
  unfold zMok at h1
  simp only [Bool.and_eq_true, decide_eq_true_eq] at h1
  have hm := zrun_mono _ _ _ _ _ _ _ _ hr
  refine Met.ofW (cc := zb y) (maxL := zml y) (ret := zrt y) h1.2.1 rfl ?_
  intro p e s m args below meth c s₁ B0 hml hv
  obtain ⟨rfl, hRp, hWd, hX, hbB⟩ := hv
  have hts : ∀ w ∈ zws y, w.before (as.map (zsh b B)).toArray s = true := atoms_spec (ws := zws y) B0.pre
  have hown : s.vm.findClass (zy y).cls = some m.cls := findClass_of_methodNamed B0.named
  have hcls : (zy y).cls = zR (zown y) := h1.2.2.2
  rw [hcls] at hown
  have C0 : zCx p (headSpec (zws y) (zroom y (h'.1 - h.1) (h'.2.1 - h.2.1))).room s m (as.map (zsh b B)).toArray meth c dC dI tc b B L xs y :=
    ⟨B0.exec, B0.bytes, hml, hown, fun w hw => hts w (List.mem_cons_of_mem _ hw), fun hn => ((name_of_methodNamed B0.named B0.method).1).trans hn, hWd, hX, hbB, by rw [hRp.1]; have := hRp.2.1; omega, Nat.le_refl _, Nat.le_refl _⟩
  have hg := ih y 0 (zent y as) [] h v h' hr p e _ s m _ below meth c (MQ below (zQc dC dI tc b B L xs v h') (as.map (zsh b B)).toArray s (h'.1 - h.1) (h'.2.1 - h.2.1) (fun q => B + 1 ≤ q)) h.1 h.2.1 C0
    (by show h'.1 ≤ (h'.1 - h.1) + h.1; omega) (by show h'.2.1 ≤ (h'.2.1 - h.2.1) + h.2.1; omega)
    (fun ins pc' S' H locs cells slots ls LL' he hd ok hc hs => by
      obtain rfl : cells = h'.1 - h.1 := by omega
      obtain rfl : slots = h'.2.1 - h.2.1 := by omega
      refine z_ret B0.exec B0.bytes B0.returns B0.notSynchronized he hd (fun t ht hW => ⟨rfl, by rw [ht]; exact ok.1, fun q hq => ?_⟩) ok.2.1.2.2
      rw [ht]
      exact ok.2.1.2.1 q (by rw [hRp.1]; have := hRp.2.1; omega) (by show ¬ B + 1 ≤ q; omega))
  rw [lg_entry_eq]
  exact hg s.heap [] 0 0 _ ⟨hRp, va_S.rf, zLs.entry hlen⟩ (by show 0 + h.1 = h.1; omega) (by show 0 + h.2.1 = h.2.1; omega)

