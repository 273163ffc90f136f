/-! cells that are made; then one theorem for all instructions but calls and returns -/
section ZMK
variable {p : Program} {l : Launch} {e : Env} {R : Room} {s : State} {m : MethodId} {args : Array Value} {below : List Frame} {meth : Method} {c : Code} {H : Heap} {locs : List Loc} {cells slots : Nat} {Q : State → Prop}
variable {dC : Nat → ClassId} {dI : Nat → Nat → Nat} {tc : Nat → ClassId} {b B L M : Nat} {xs : Nat → Int32} {h : zH} {LL : zL} {ls : Array Slot} {k0 n0 : Nat}
theorem z_refh (ok : zOk s dC dI tc b B L xs M h H locs LL ls) : Value.ref H.size = zsh b B (.ref h.1) := by
  rw [zsh_ref (by have := ok.1.2.1; omega), ok.1.1]
theorem z_newi (C0 : zCx p R s m args meth c dC dI tc b B L xs M) (ok : zOk s dC dI tc b B L xs M h H locs LL ls) {pc : Nat} {t : ArrayType} {n : Int32} {r : List Value} {x : Nat × zA} (hv : znewa t n = some x) (hd : decode (zb M) pc = .ok (.newarray t, 2)) (hc : cells + 1 ≤ R.cells) (hs : slots + x.1 ≤ R.slots)
    (kk : ∀ H1 : Heap, zOk s dC dI tc b B L xs M (znew h x.1 x.2) H1 locs LL ls → W p l e R s m args below meth c H1 locs (cells + 1) (slots + x.1) Q (F0 m (pc + 2) ls (zsh b B (.ref h.1) :: r))) : W p l e R s m args below meth c H locs cells slots Q (F0 m pc ls (.int n :: r)) := by
  obtain ⟨hx, hb, hml, hown, hts, hin, hWd, hX, hbB, hBs, hfr, hlo⟩ := C0
  unfold znewa at hv
  split at hv
  · next hn =>
    obtain ⟨hn0, hn1⟩ := hn
    split at hv
    · cases hv
      refine va_newaK (atype := .int) hx hb (hts _ zo_int) rfl hd rfl hn0 rfl (by show _ * 4 ≤ _; omega) hc hs rfl fun H1 cA e1 z1 o1 hAr hNm => ?_
      have hcA : cA = tc 0 := Option.some.inj (hNm.symm.trans (hWd.1.2 0 _ rfl).2)
      subst hcA
      refine W.eq (g2 := F0 m (pc + 2) ls (zsh b B (.ref h.1) :: r)) (by rw [← z_refh ok]) (kk H1 (ok.push ?_ z1 o1))
      show H1[B + h.1]? = _
      rw [← ok.1.1]
      exact e1
    · cases hv
      refine va_newaK (atype := .long) hx hb (hts _ zo_long) rfl hd rfl hn0 rfl (by show _ * 8 ≤ _; omega) hc hs rfl fun H1 cA e1 z1 o1 hAr hNm => ?_
      have hcA : cA = tc 1 := Option.some.inj (hNm.symm.trans (hWd.1.2 1 _ rfl).2)
      subst hcA
      refine W.eq (g2 := F0 m (pc + 2) ls (zsh b B (.ref h.1) :: r)) (by rw [← z_refh ok]) (kk H1 (ok.push ?_ z1 o1))
      show H1[B + h.1]? = _
      rw [← ok.1.1]
      exact e1
    · cases hv
      refine va_newaK (atype := .boolean) hx hb (hts _ zo_bool) rfl hd rfl hn0 rfl (by show _ * 1 ≤ _; omega) hc hs rfl fun H1 cA e1 z1 o1 hAr hNm => ?_
      have hcA : cA = tc 2 := Option.some.inj (hNm.symm.trans (hWd.1.2 2 _ rfl).2)
      subst hcA
      refine W.eq (g2 := F0 m (pc + 2) ls (zsh b B (.ref h.1) :: r)) (by rw [← z_refh ok]) (kk H1 (ok.push ?_ z1 o1))
      show H1[B + h.1]? = _
      rw [← ok.1.1]
      exact e1
    · cases hv
  · cases hv
theorem z_anew (C0 : zCx p R s m args meth c dC dI tc b B L xs M) (ok : zOk s dC dI tc b B L xs M h H locs LL ls) {pc i t : Nat} {n : Int32} {r : List Value} {x : Nat × Nat × Nat × Nat} (hl : zlu zNt M i = some x) (ht : zrk x.1 = some t) (hn0 : ¬ n < 0) (hn1 : n.toNatClampNeg * 8 ≤ 536870912) (hd : decode (zb M) pc = .ok (.anewarray i, 3)) (hc : cells + 1 ≤ R.cells) (hs : slots + n.toNatClampNeg ≤ R.slots)
    (kk : ∀ H1 : Heap, zOk s dC dI tc b B L xs M (znew h n.toNatClampNeg (.inl (t, n.toNatClampNeg, .inr (.inr (.inr (.inr (fun _ => none))))))) H1 locs LL ls → W p l e R s m args below meth c H1 locs (cells + 1) (slots + n.toNatClampNeg) Q (F0 m (pc + 3) ls (zsh b B (.ref h.1) :: r))) : W p l e R s m args below meth c H locs cells slots Q (F0 m pc ls (.int n :: r)) := by
  obtain ⟨hx, hb, hml, hown, hts, hin, hWd, hX, hbB, hBs, hfr, hlo⟩ := C0
  obtain ⟨hi, hmem⟩ := zlu_in hl
  have hF := List.all_eq_true.mp zNt_ok _ hmem
  unfold zNok at hF
  dsimp only at hF
  split at hF
  · next q hq =>
    rw [zkey1 hi, zkey2 hi] at hF
    simp only [Bool.and_eq_true] at hF
    have hover : va_AO q.1 s ∧ ∃ t0 : Nat, ([(tc 0, .int), (tc 1, .long), (tc 2, .boolean), (tc 3, .object "HeadTrees$TopKeys"), (tc 4, .object "HeadTrees$Drawing")] : List (ClassId × FieldType))[t0]? = some (tc t, FieldType.object q.1) := by
      unfold zrk at ht
      split at ht
      · next e1 => cases ht; rw [e1] at hq; cases hq; exact ⟨hWd.2.2.1, 3, rfl⟩
      · split at ht
        · next e1 => cases ht; rw [e1] at hq; cases hq; exact ⟨hWd.2.2.2, 4, rfl⟩
        · cases ht
    obtain ⟨hov, t0, ht0⟩ := hover
    refine W.anew hx hb hown (hts _ (zok_in hF.1)) (va_AO.use hov) rfl hd rfl hn0 (by omega) hc hs fun cA kA comp f1 f2 f3 f4 => ?_
    obtain ⟨kA', comp', -, -, -, g4⟩ := (hWd.1.2 t0 _ ht0).2
    have hcA : cA = tc t := Option.some.inj (f1.symm.trans g4)
    subst hcA
    generalize hH1 : H.push ({ cls := tc t, slots := Array.replicate n.toNatClampNeg .null, vm := .none } : Cell) = H1
    have z1 : H1.size = H.size + 1 := by rw [← hH1, Array.size_push]
    have e1 : H1[H.size]? = some (arrV (tc t) n.toNatClampNeg (fun _ => .null)) := by rw [← hH1, Array.getElem?_push_size, ← arrV_new]
    have o1 : ∀ q : Nat, q < H.size → H1[q]? = H[q]? := fun q hq => by rw [← hH1, Array.getElem?_push, if_neg (Nat.ne_of_lt hq)]
    refine W.eq (g2 := F0 m (pc + 3) ls (zsh b B (.ref h.1) :: r)) (by rw [← z_refh ok]) (kk H1 (ok.push ?_ z1 o1))
    show H1[B + h.1]? = _
    rw [← ok.1.1]
    exact e1
  · cases hF
theorem z_new (C0 : zCx p R s m args meth c dC dI tc b B L xs M) (ok : zOk s dC dI tc b B L xs M h H locs LL ls) {pc i : Nat} {r : List Value} {x : Nat × Nat × Nat × Nat} (hl : zlu zNt M i = some x) (hd : decode (zb M) pc = .ok (.new i, 3)) (hc : cells + 1 ≤ R.cells) (hs : slots + zfs x.1 ≤ R.slots)
    (kk : ∀ H1 : Heap, zOk s dC dI tc b B L xs M (znew h (zfs x.1) (.inr (x.1, zdef x.1))) H1 locs LL ls → W p l e R s m args below meth c H1 locs (cells + 1) (slots + zfs x.1) Q (F0 m (pc + 3) ls (zsh b B (.ref h.1) :: r))) : W p l e R s m args below meth c H locs cells slots Q (F0 m pc ls r) := by
  obtain ⟨hx, hb, hml, hown, hts, hin, hWd, hX, hbB, hBs, hfr, hlo⟩ := C0
  obtain ⟨hi, hmem⟩ := zlu_in hl
  have hF := List.all_eq_true.mp zNt_ok _ hmem
  unfold zNok at hF
  dsimp only at hF
  split at hF
  · next q hq =>
    rw [zkey1 hi, zkey2 hi] at hF
    simp only [Bool.and_eq_true] at hF
    obtain ⟨hF1, hF2, hF3⟩ := hF
    have hN : zfs x.1 = q.2.2 := by unfold zfs; rw [hq]
    obtain ⟨hu, hty, hnm, -⟩ := zcl_ok x.1 q hq
    have hKn := hWd.1.1 x.1 q hq
    rw [hN] at hs kk
    refine W.newcK hx hb hown (hts _ (zok_in hF1)) (hts _ (zok_in hF2)) (hts _ (zok_in hF3)) rfl hd hc hs hKn.2.1 rfl fun H1 kC hkC e1 z1 o1 => ?_
    refine W.eq (g2 := F0 m (pc + 3) ls (zsh b B (.ref h.1) :: r)) (by rw [← z_refh ok]) (kk H1 (ok.push ?_ z1 o1))
    refine ⟨q, hq, ?_⟩
    have e1' : H1[B + h.1]? = some (blank (dC x.1) kC) := by rw [← ok.1.1]; exact e1
    refine (u_born (zTy x.1) hts hu hKn hkC e1' hty).to (fun j hj => ?_)
    show _ = vp_V ((zdef x.1).map (zsh b B)) j
    unfold vp_V zdef
    rw [List.map_map, List.getD_eq_getElem?_getD, List.getElem?_map, List.getElem?_range (by rw [hN]; exact hj)]
    show defaultValue (zTy x.1 j) = zsh b B (defaultValue (zTy x.1 j))
    cases zTy x.1 j <;> rfl
  · cases hF
def znt (ins : Instr) : Bool := match ins with
  | .tableswitch _ _ _ _ => false
  | _ => true
theorem z_len {ins : Instr} {len pc : Nat} (hd : decode (zb M) pc = .ok (ins, len)) (hl : zlk ins len = true) (hn : znt ins = true) : decode (zb M) pc = .ok (ins, zlen ins) := by
  have : len = zlen ins := by
    unfold zlk at hl
    split at hl
    · cases hn
    · simpa using hl
  rw [hd, this]
set_option maxHeartbeats 4000000 in
theorem z_step (C0 : zCx p R s m args meth c dC dI tc b B L xs M) {ins : Instr} {len pc : Nat} {S : List Value} {o : zR4} (hop : zop M ins pc LL S h = some o) (hd : decode (zb M) pc = .ok (ins, len)) (hlen : zlk ins len = true) (hroom : o.2.2.2.1 ≤ R.cells + k0 ∧ o.2.2.2.2.1 ≤ R.slots + n0)
    (kk : zGo p l e R s m args below meth c Q dC dI tc b B L xs M k0 n0 o) : zGo p l e R s m args below meth c Q dC dI tc b B L xs M k0 n0 (pc, LL, S, h) := by
  intro H locs cells slots ls ok hc hs
  have ok : zOk s dC dI tc b B L xs M h H locs LL ls := ok
  have hc : cells + k0 = h.1 := hc
  have hs : slots + n0 = h.2.1 := hs
  have C1 := C0
  obtain ⟨hx, hb, hml, hown, hts, hin, hWd, hX, hbB, hBs, hfr, hlo⟩ := C1
  obtain ⟨hR, hS, hL⟩ := id ok
  cases ins with
  | iconst n =>
    have hd := z_len hd hlen rfl
    cases hop
    exact lv_iconst hx hb hd rfl (kk H locs cells slots ls ok hc hs)
  | bipush n =>
    have hd := z_len hd hlen rfl
    cases hop
    exact lv_bipush hx hb hd rfl (kk H locs cells slots ls ok hc hs)
  | sipush n =>
    have hd := z_len hd hlen rfl
    cases hop
    exact lv_sipush hx hb hd rfl (kk H locs cells slots ls ok hc hs)
  | lconst n =>
    have hd := z_len hd hlen rfl
    cases hop
    exact lv_lconst hx hb hd rfl (kk H locs cells slots ls ok hc hs)
  | aconst_null =>
    have hd := z_len hd hlen rfl
    cases hop
    exact lv_null hx hb hd (kk H locs cells slots ls ok hc hs)
  | ldc i =>
    have hd := z_len hd hlen rfl
    obtain ⟨x, hl, hk⟩ := Option.bind_eq_some_iff.mp hop
    cases hk
    obtain ⟨hi, hmem⟩ := zlu_in hl
    have hF := List.all_eq_true.mp zKt_ok _ hmem
    unfold zKok at hF
    dsimp only at hF
    rw [zkey1 hi, zkey2 hi] at hF
    exact lv_ldc hx hb hown (hts _ (zok_in hF)) hd (kk H locs cells slots ls ok hc hs)
  | ldc_w i =>
    have hd := z_len hd hlen rfl
    obtain ⟨x, hl, hk⟩ := Option.bind_eq_some_iff.mp hop
    cases hk
    obtain ⟨hi, hmem⟩ := zlu_in hl
    have hF := List.all_eq_true.mp zKt_ok _ hmem
    unfold zKok at hF
    dsimp only at hF
    rw [zkey1 hi, zkey2 hi] at hF
    exact lv_ldcw hx hb hown (hts _ (zok_in hF)) hd (kk H locs cells slots ls ok hc hs)
  | ldc2_w i =>
    have hd := z_len hd hlen rfl
    obtain ⟨x, hl, hk⟩ := Option.bind_eq_some_iff.mp hop
    cases hk
    obtain ⟨hi, hmem⟩ := zlu_in hl
    have hF := List.all_eq_true.mp zKl_ok _ hmem
    unfold zKlok at hF
    dsimp only at hF
    rw [zkey1 hi, zkey2 hi] at hF
    exact lv_ldc2 hx hb hown (hts _ (zok_in hF)) hd (kk H locs cells slots ls ok hc hs)
  | iload_n k =>
    have hd := z_len hd hlen rfl
    obtain ⟨x, hl, hk⟩ := zldi_inv hop
    cases hk
    exact lv_iload_n hx hb hd rfl (hL.2.2.2 _ _ hl) (kk H locs cells slots ls ok hc hs)
  | iload k =>
    have hd := z_len hd hlen rfl
    obtain ⟨x, hl, hk⟩ := zldi_inv hop
    cases hk
    exact lv_iload hx hb hd (hL.2.2.2 _ _ hl) (kk H locs cells slots ls ok hc hs)
  | lload_n k =>
    have hd := z_len hd hlen rfl
    obtain ⟨x, hl, hk⟩ := zldl_inv hop
    cases hk
    exact lv_lload_n hx hb hd rfl (hL.2.2.2 _ _ hl) (kk H locs cells slots ls ok hc hs)
  | lload k =>
    have hd := z_len hd hlen rfl
    obtain ⟨x, hl, hk⟩ := zldl_inv hop
    cases hk
    exact lv_lload hx hb hd (hL.2.2.2 _ _ hl) (kk H locs cells slots ls ok hc hs)
  | aload_n k =>
    have hd := z_len hd hlen rfl
    simp only [zop] at hop
    rcases zlda_inv hop with ⟨a, hl, hk⟩ | ⟨hl, hk⟩
    · cases hk
      exact lv_aload_n hx hb hd rfl (hL.2.2.2 _ _ hl) (kk H locs cells slots ls ok hc hs)
    · cases hk
      exact lv_aload_nN hx hb hd rfl (hL.2.2.2 _ _ hl) (kk H locs cells slots ls ok hc hs)
  | aload k =>
    have hd := z_len hd hlen rfl
    simp only [zop] at hop
    rcases zlda_inv hop with ⟨a, hl, hk⟩ | ⟨hl, hk⟩
    · cases hk
      exact lv_aload hx hb hd (hL.2.2.2 _ _ hl) (kk H locs cells slots ls ok hc hs)
    · cases hk
      exact lv_aloadN hx hb hd (hL.2.2.2 _ _ hl) (kk H locs cells slots ls ok hc hs)
  | istore_n k =>
    have hd := z_len hd hlen rfl
    obtain ⟨x, r, rfl, hk⟩ := z1i_inv hop
    split at hk
    · next hn =>
      cases hk
      exact lv_istore_n hx hb hd rfl hL.has hn rfl (fun ls1 h1 => kk H locs cells slots ls1 ⟨hR, hS, hL.set1 h1⟩ hc hs)
    · cases hk
  | istore k =>
    have hd := z_len hd hlen rfl
    obtain ⟨x, r, rfl, hk⟩ := z1i_inv hop
    split at hk
    · next hn =>
      cases hk
      exact lv_istore hx hb hd hL.has hn rfl (fun ls1 h1 => kk H locs cells slots ls1 ⟨hR, hS, hL.set1 h1⟩ hc hs)
    · cases hk
  | lstore_n k =>
    have hd := z_len hd hlen rfl
    obtain ⟨x, r, rfl, hk⟩ := z1l_inv hop
    split at hk
    · next hn =>
      cases hk
      exact lv_lstore_n hx hb hd rfl hL.has hn rfl (fun ls1 h1 => kk H locs cells slots ls1 ⟨hR, hS, hL.set2 h1⟩ hc hs)
    · cases hk
  | lstore k =>
    have hd := z_len hd hlen rfl
    obtain ⟨x, r, rfl, hk⟩ := z1l_inv hop
    split at hk
    · next hn =>
      cases hk
      exact lv_lstore hx hb hd hL.has hn rfl (fun ls1 h1 => kk H locs cells slots ls1 ⟨hR, hS, hL.set2 h1⟩ hc hs)
    · cases hk
  | astore_n k =>
    have hd := z_len hd hlen rfl
    simp only [zop] at hop
    rcases zsta_inv hop with ⟨a, r, rfl, hk⟩ | ⟨r, rfl, hk⟩
    · split at hk
      · next hn =>
        cases hk
        exact lv_astore_n hx hb hd rfl hL.has hn rfl (fun ls1 h1 => kk H locs cells slots ls1 ⟨hR, hS, hL.set1 h1⟩ hc hs)
      · cases hk
    · split at hk
      · next hn =>
        cases hk
        exact lv_astore_nN hx hb hd rfl hL.has hn rfl (fun ls1 h1 => kk H locs cells slots ls1 ⟨hR, hS, hL.set1 h1⟩ hc hs)
      · cases hk
  | astore k =>
    have hd := z_len hd hlen rfl
    simp only [zop] at hop
    rcases zsta_inv hop with ⟨a, r, rfl, hk⟩ | ⟨r, rfl, hk⟩
    · split at hk
      · next hn =>
        cases hk
        exact lv_astore hx hb hd hL.has hn rfl (fun ls1 h1 => kk H locs cells slots ls1 ⟨hR, hS, hL.set1 h1⟩ hc hs)
      · cases hk
    · split at hk
      · next hn =>
        cases hk
        exact lv_astoreN hx hb hd hL.has hn rfl (fun ls1 h1 => kk H locs cells slots ls1 ⟨hR, hS, hL.set1 h1⟩ hc hs)
      · cases hk
  | iinc k n =>
    have hd := z_len hd hlen rfl
    obtain ⟨x, hl, hk⟩ := zldi_inv hop
    split at hk
    · next hn =>
      cases hk
      obtain ⟨j, hj⟩ := List.getElem?_of_mem (zlv_mem (b := b) (B := B).mpr ⟨_, hl, rfl⟩)
      exact lv_iinc hx hb hd hL.has hj rfl hn rfl (fun ls1 h1 => kk H locs cells slots ls1 ⟨hR, hS, hL.set1 h1⟩ hc hs)
    · cases hk
  | iadd =>
    have hd := z_len hd hlen rfl
    obtain ⟨x, y, r, rfl, hk⟩ := z2i_inv hop
    cases hk
    exact lv_iadd hx hb hd (kk H locs cells slots ls ok hc hs)
  | isub =>
    have hd := z_len hd hlen rfl
    obtain ⟨x, y, r, rfl, hk⟩ := z2i_inv hop
    cases hk
    exact lv_isub hx hb hd (kk H locs cells slots ls ok hc hs)
  | imul =>
    have hd := z_len hd hlen rfl
    obtain ⟨x, y, r, rfl, hk⟩ := z2i_inv hop
    cases hk
    exact lv_imul hx hb hd (kk H locs cells slots ls ok hc hs)
  | iand =>
    have hd := z_len hd hlen rfl
    obtain ⟨x, y, r, rfl, hk⟩ := z2i_inv hop
    cases hk
    exact lv_iand hx hb hd (kk H locs cells slots ls ok hc hs)
  | ior =>
    have hd := z_len hd hlen rfl
    obtain ⟨x, y, r, rfl, hk⟩ := z2i_inv hop
    cases hk
    exact lv_ior hx hb hd (kk H locs cells slots ls ok hc hs)
  | ixor =>
    have hd := z_len hd hlen rfl
    obtain ⟨x, y, r, rfl, hk⟩ := z2i_inv hop
    cases hk
    exact lv_ixor hx hb hd (kk H locs cells slots ls ok hc hs)
  | ishl =>
    have hd := z_len hd hlen rfl
    obtain ⟨x, y, r, rfl, hk⟩ := z2i_inv hop
    cases hk
    exact lv_ishl hx hb hd (kk H locs cells slots ls ok hc hs)
  | ishr =>
    have hd := z_len hd hlen rfl
    obtain ⟨x, y, r, rfl, hk⟩ := z2i_inv hop
    cases hk
    exact lv_ishr hx hb hd (kk H locs cells slots ls ok hc hs)
  | iushr =>
    have hd := z_len hd hlen rfl
    obtain ⟨x, y, r, rfl, hk⟩ := z2i_inv hop
    cases hk
    exact lv_iushr hx hb hd rfl (kk H locs cells slots ls ok hc hs)
  | idiv =>
    have hd := z_len hd hlen rfl
    obtain ⟨x, y, r, rfl, hk⟩ := z2i_inv hop
    split at hk
    · cases hk
    · next hn =>
      cases hk
      exact lv_idiv hx hb hd hn (kk H locs cells slots ls ok hc hs)
  | irem =>
    have hd := z_len hd hlen rfl
    obtain ⟨x, y, r, rfl, hk⟩ := z2i_inv hop
    split at hk
    · cases hk
    · next hn =>
      cases hk
      exact lv_irem hx hb hd hn (kk H locs cells slots ls ok hc hs)
  | ineg =>
    have hd := z_len hd hlen rfl
    obtain ⟨x, r, rfl, hk⟩ := z1i_inv hop
    cases hk
    exact lv_ineg hx hb hd (kk H locs cells slots ls ok hc hs)
  | i2l =>
    have hd := z_len hd hlen rfl
    obtain ⟨x, r, rfl, hk⟩ := z1i_inv hop
    cases hk
    exact lv_i2l hx hb hd rfl (kk H locs cells slots ls ok hc hs)
  | l2i =>
    have hd := z_len hd hlen rfl
    obtain ⟨x, r, rfl, hk⟩ := z1l_inv hop
    cases hk
    exact lv_l2i hx hb hd rfl (kk H locs cells slots ls ok hc hs)
  | ladd =>
    have hd := z_len hd hlen rfl
    obtain ⟨x, y, r, rfl, hk⟩ := z2l_inv hop
    cases hk
    exact lv_ladd hx hb hd (kk H locs cells slots ls ok hc hs)
  | lsub =>
    have hd := z_len hd hlen rfl
    obtain ⟨x, y, r, rfl, hk⟩ := z2l_inv hop
    cases hk
    exact lv_lsub hx hb hd (kk H locs cells slots ls ok hc hs)
  | lmul =>
    have hd := z_len hd hlen rfl
    obtain ⟨x, y, r, rfl, hk⟩ := z2l_inv hop
    cases hk
    exact lv_lmul hx hb hd (kk H locs cells slots ls ok hc hs)
  | ldiv =>
    have hd := z_len hd hlen rfl
    obtain ⟨x, y, r, rfl, hk⟩ := z2l_inv hop
    split at hk
    · cases hk
    · next hn =>
      cases hk
      exact lv_ldiv hx hb hd hn (kk H locs cells slots ls ok hc hs)
  | lneg =>
    have hd := z_len hd hlen rfl
    obtain ⟨x, r, rfl, hk⟩ := z1l_inv hop
    cases hk
    exact lv_lneg hx hb hd (kk H locs cells slots ls ok hc hs)
  | lshl =>
    have hd := z_len hd hlen rfl
    obtain ⟨x, y, r, rfl, hk⟩ := zli_inv hop
    cases hk
    exact lv_lshl hx hb hd rfl (kk H locs cells slots ls ok hc hs)
  | lshr =>
    have hd := z_len hd hlen rfl
    obtain ⟨x, y, r, rfl, hk⟩ := zli_inv hop
    cases hk
    exact lv_lshr hx hb hd rfl (kk H locs cells slots ls ok hc hs)
  | lcmp =>
    have hd := z_len hd hlen rfl
    obtain ⟨x, y, r, rfl, hk⟩ := z2l_inv hop
    cases hk
    exact W.lcmp hx hb hd (kk H locs cells slots ls ok hc hs)
  | dup =>
    have hd := z_len hd hlen rfl
    obtain ⟨v, r, rfl, hk⟩ := z1v_inv hop
    split at hk
    · next hv =>
      cases hk
      exact lv_dup hx hb hd (by rw [zsh_cat]; exact hv) (kk H locs cells slots ls ok hc hs)
    · cases hk
  | pop =>
    have hd := z_len hd hlen rfl
    obtain ⟨v, r, rfl, hk⟩ := z1v_inv hop
    split at hk
    · next hv =>
      cases hk
      exact lv_pop hx hb hd (by rw [zsh_cat]; exact hv) (kk H locs cells slots ls ok hc hs)
    · cases hk
  | dup2 =>
    have hd := z_len hd hlen rfl
    obtain ⟨v, w, r, rfl, hk⟩ := z2v_inv hop
    split at hk
    · next hv =>
      cases hk
      exact lv_dup2_11 hx hb hd (by rw [zsh_cat]; exact hv.1) (by rw [zsh_cat]; exact hv.2) (kk H locs cells slots ls ok hc hs)
    · cases hk
  | ifCond cnd off =>
    have hd := z_len hd hlen rfl
    obtain ⟨x, r, rfl, hk⟩ := z1i_inv hop
    obtain ⟨tgt, ht, rfl⟩ := zbr_inv hk
    have hT : zicmp cnd x 0 = true → W p l e R s m args below meth c H locs cells slots Q (F0 m tgt ls (r.map (zsh b B))) := fun q => by have := kk H locs cells slots ls ok hc hs; rw [if_pos q] at this; exact this
    have hN : zicmp cnd x 0 = false → W p l e R s m args below meth c H locs cells slots Q (F0 m (pc + 3) ls (r.map (zsh b B))) := fun q => by have := kk H locs cells slots ls ok hc hs; rw [if_neg (by rw [q]; decide)] at this; exact this
    cases cnd with
    | eq => exact lv_if_eq hx hb hd ht (fun q => hT (by simp only [zicmp, decide_eq_true_eq]; exact q)) (fun q => hN (by simp only [zicmp, decide_eq_false_iff_not]; first | exact q | exact fun z => z q))
    | ne => exact lv_if_ne hx hb hd ht (fun q => hT (by simp only [zicmp, decide_eq_true_eq]; exact q)) (fun q => hN (by simp only [zicmp, decide_eq_false_iff_not]; first | exact q | exact fun z => z q))
    | lt => exact lv_if_lt hx hb hd ht (fun q => hT (by simp only [zicmp, decide_eq_true_eq]; exact q)) (fun q => hN (by simp only [zicmp, decide_eq_false_iff_not]; first | exact q | exact fun z => z q))
    | ge => exact lv_if_ge hx hb hd ht (fun q => hT (by simp only [zicmp, decide_eq_true_eq]; exact q)) (fun q => hN (by simp only [zicmp, decide_eq_false_iff_not]; first | exact q | exact fun z => z q))
    | gt => exact lv_if_gt hx hb hd ht (fun q => hT (by simp only [zicmp, decide_eq_true_eq]; exact q)) (fun q => hN (by simp only [zicmp, decide_eq_false_iff_not]; first | exact q | exact fun z => z q))
    | le => exact lv_if_le hx hb hd ht (fun q => hT (by simp only [zicmp, decide_eq_true_eq]; exact q)) (fun q => hN (by simp only [zicmp, decide_eq_false_iff_not]; first | exact q | exact fun z => z q))
  | if_icmp cnd off =>
    have hd := z_len hd hlen rfl
    obtain ⟨x, y, r, rfl, hk⟩ := z2i_inv hop
    obtain ⟨tgt, ht, rfl⟩ := zbr_inv hk
    have hT : zicmp cnd x y = true → W p l e R s m args below meth c H locs cells slots Q (F0 m tgt ls (r.map (zsh b B))) := fun q => by have := kk H locs cells slots ls ok hc hs; rw [if_pos q] at this; exact this
    have hN : zicmp cnd x y = false → W p l e R s m args below meth c H locs cells slots Q (F0 m (pc + 3) ls (r.map (zsh b B))) := fun q => by have := kk H locs cells slots ls ok hc hs; rw [if_neg (by rw [q]; decide)] at this; exact this
    cases cnd with
    | eq => exact lv_icmp_eq hx hb hd ht (fun q => hT (by simp only [zicmp, decide_eq_true_eq]; exact q)) (fun q => hN (by simp only [zicmp, decide_eq_false_iff_not]; first | exact q | exact fun z => z q))
    | ne => exact lv_icmp_ne hx hb hd ht (fun q => hT (by simp only [zicmp, decide_eq_true_eq]; exact q)) (fun q => hN (by simp only [zicmp, decide_eq_false_iff_not]; first | exact q | exact fun z => z q))
    | lt => exact lv_icmp_lt hx hb hd ht (fun q => hT (by simp only [zicmp, decide_eq_true_eq]; exact q)) (fun q => hN (by simp only [zicmp, decide_eq_false_iff_not]; first | exact q | exact fun z => z q))
    | ge => exact lv_icmp_ge hx hb hd ht (fun q => hT (by simp only [zicmp, decide_eq_true_eq]; exact q)) (fun q => hN (by simp only [zicmp, decide_eq_false_iff_not]; first | exact q | exact fun z => z q))
    | gt => exact lv_icmp_gt hx hb hd ht (fun q => hT (by simp only [zicmp, decide_eq_true_eq]; exact q)) (fun q => hN (by simp only [zicmp, decide_eq_false_iff_not]; first | exact q | exact fun z => z q))
    | le => exact lv_icmp_le hx hb hd ht (fun q => hT (by simp only [zicmp, decide_eq_true_eq]; exact q)) (fun q => hN (by simp only [zicmp, decide_eq_false_iff_not]; first | exact q | exact fun z => z q))
  | ifnull off =>
    have hd := z_len hd hlen rfl
    simp only [zop] at hop
    rcases zsta_inv hop with ⟨a, r, rfl, hk⟩ | ⟨r, rfl, hk⟩
    · obtain ⟨tgt, ht, rfl⟩ := zbr_inv hk
      refine lv_ifnull hx hb hd ?_
      have := kk H locs cells slots ls ok hc hs
      rw [if_neg (by simp)] at this
      exact this
    · obtain ⟨tgt, ht, rfl⟩ := zbr_inv hk
      refine lv_ifnullN hx hb hd ht ?_
      have := kk H locs cells slots ls ok hc hs
      rw [if_pos (by simp)] at this
      exact this
  | ifnonnull off =>
    have hd := z_len hd hlen rfl
    simp only [zop] at hop
    rcases zsta_inv hop with ⟨a, r, rfl, hk⟩ | ⟨r, rfl, hk⟩
    · obtain ⟨tgt, ht, rfl⟩ := zbr_inv hk
      refine lv_ifnonnull hx hb hd ht ?_
      have := kk H locs cells slots ls ok hc hs
      rw [if_pos (by simp)] at this
      exact this
    · obtain ⟨tgt, ht, rfl⟩ := zbr_inv hk
      refine lv_ifnonnullN hx hb hd ?_
      have := kk H locs cells slots ls ok hc hs
      rw [if_neg (by simp)] at this
      exact this
  | goto off =>
    have hd := z_len hd hlen rfl
    obtain ⟨tgt, ht, rfl⟩ := zjmp_inv hop
    exact lv_goto hx hb hd ht (kk H locs cells slots ls ok hc hs)
  | tableswitch d lo hi offs =>
    obtain ⟨x, r, rfl, hk⟩ := z1i_inv hop
    unfold ztab at hk
    split at hk
    · next hq =>
      obtain ⟨tgt, ht, rfl⟩ := zjmp_inv hk
      exact lv_tableOut hx hb hd hq ht (kk H locs cells slots ls ok hc hs)
    · next hq =>
      split at hk
      · next off ho =>
        obtain ⟨tgt, ht, rfl⟩ := zjmp_inv hk
        exact lv_tableIn hx hb hd (fun z => hq (Or.inl z)) (fun z => hq (Or.inr z)) ho ht (kk H locs cells slots ls ok hc hs)
      · cases hk
  | getfield i =>
    have hd := z_len hd hlen rfl
    obtain ⟨a, r, rfl, hk⟩ := z1r_inv hop
    obtain ⟨x, hl, hk⟩ := Option.bind_eq_some_iff.mp hk
    obtain ⟨v, hv, hk⟩ := Option.bind_eq_some_iff.mp hk
    cases hk
    exact z_getf C0 ok hl hv hd (kk H locs cells slots ls ok hc hs)
  | putfield i =>
    have hd := z_len hd hlen rfl
    obtain ⟨v, a, r, rfl, hk⟩ := zvr_inv hop
    obtain ⟨x, hl, hk⟩ := Option.bind_eq_some_iff.mp hk
    split at hk
    · next hf =>
      obtain ⟨y, hv, hk⟩ := Option.bind_eq_some_iff.mp hk
      cases hk
      exact z_putf C0 ok hl hf hv hd (fun H1 locs1 ok1 => kk H1 locs1 cells slots ls ok1 hc hs)
    · cases hk
  | iaload =>
    have hd := z_len hd hlen rfl
    obtain ⟨i, a, r, rfl, hk⟩ := zar_inv hop
    obtain ⟨v, hv, hk⟩ := Option.bind_eq_some_iff.mp hk
    cases hk
    exact z_iald C0 ok hv hd (kk H locs cells slots ls ok hc hs)
  | baload =>
    have hd := z_len hd hlen rfl
    obtain ⟨i, a, r, rfl, hk⟩ := zar_inv hop
    obtain ⟨v, hv, hk⟩ := Option.bind_eq_some_iff.mp hk
    cases hk
    obtain ⟨n, f, hx1, hi, rfl⟩ := zgetb_inv hv
    obtain ⟨ha0, ha1, hw⟩ := ok.arr hx1 (by decide)
    show W p l e R s m args below meth c H locs cells slots Q (F0 m pc ls (.int i :: zsh b B (.ref a) :: r.map (zsh b B)))
    rw [zsh_ref ha0]
    exact va_zald hx hb hWd.1 ok.1.2.2.2.2 (a - 1) 2 hw rfl (zin_in hi) hd (kk H locs cells slots ls ok hc hs)
  | laload =>
    have hd := z_len hd hlen rfl
    obtain ⟨i, a, r, rfl, hk⟩ := zar_inv hop
    obtain ⟨v, hv, hk⟩ := Option.bind_eq_some_iff.mp hk
    cases hk
    obtain ⟨n, f, hx1, hi, rfl⟩ := zgetl_inv hv
    obtain ⟨ha0, ha1, hw⟩ := ok.arr hx1 (by decide)
    show W p l e R s m args below meth c H locs cells slots Q (F0 m pc ls (.int i :: zsh b B (.ref a) :: r.map (zsh b B)))
    rw [zsh_ref ha0]
    exact va_lald hx hb hWd.1 ok.1.2.2.2.2 (a - 1) 1 hw rfl (zin_in hi) hd (kk H locs cells slots ls ok hc hs)
  | aaload =>
    have hd := z_len hd hlen rfl
    obtain ⟨i, a, r, rfl, hk⟩ := zar_inv hop
    obtain ⟨v, hv, hk⟩ := Option.bind_eq_some_iff.mp hk
    cases hk
    obtain ⟨t, n, f, hx1, ht, hi, rfl⟩ := zgetr_inv hv
    obtain ⟨ha0, ha1, hw⟩ := ok.arr hx1 (by omega)
    obtain ⟨q, hq, t0, ht0⟩ := z_kel (dC := dC) (dI := dI) (tc := tc) (s := s) ht hWd
    show W p l e R s m args below meth c H locs cells slots Q (F0 m pc ls (.int i :: zsh b B (.ref a) :: r.map (zsh b B)))
    rw [zsh_ref ha0]
    refine va_aldq hx hb hWd.1 ok.1.2.2.2.2 (a - 1) t0 hw ht0 (zin_in hi) hd ?_
    rw [zrf_sh]
    exact kk H locs cells slots ls ok hc hs
  | iastore =>
    have hd := z_len hd hlen rfl
    obtain ⟨v, i, a, r, rfl, hk⟩ := zas_inv hop
    obtain ⟨y, hv, hk⟩ := Option.bind_eq_some_iff.mp hk
    cases hk
    exact z_iast C0 ok hv hd (fun H1 locs1 ok1 => kk H1 locs1 cells slots ls ok1 hc hs)
  | bastore =>
    have hd := z_len hd hlen rfl
    obtain ⟨v, i, a, r, rfl, hk⟩ := zas_inv hop
    obtain ⟨y, hv, hk⟩ := Option.bind_eq_some_iff.mp hk
    cases hk
    exact z_bast C0 ok hv hd (fun H1 locs1 ok1 => kk H1 locs1 cells slots ls ok1 hc hs)
  | lastore =>
    have hd := z_len hd hlen rfl
    obtain ⟨v, i, a, r, rfl, hk⟩ := zas_inv hop
    obtain ⟨y, hv, hk⟩ := Option.bind_eq_some_iff.mp hk
    cases hk
    exact z_last C0 ok hv hd (fun H1 locs1 ok1 => kk H1 locs1 cells slots ls ok1 hc hs)
  | aastore =>
    have hd := z_len hd hlen rfl
    obtain ⟨v, i, a, r, rfl, hk⟩ := zas_inv hop
    obtain ⟨y, hv, hk⟩ := Option.bind_eq_some_iff.mp hk
    cases hk
    exact z_aast C0 ok hv hd (fun H1 locs1 ok1 => kk H1 locs1 cells slots ls ok1 hc hs)
  | arraylength =>
    have hd := z_len hd hlen rfl
    obtain ⟨a, r, rfl, hk⟩ := z1r_inv hop
    obtain ⟨v, hv, hk⟩ := Option.bind_eq_some_iff.mp hk
    cases hk
    exact z_alen C0 ok hv hd (kk H locs cells slots ls ok hc hs)
  | newarray t =>
    have hd := z_len hd hlen rfl
    obtain ⟨n, r, rfl, hk⟩ := z1i_inv hop
    obtain ⟨x, hv, hk⟩ := Option.bind_eq_some_iff.mp hk
    cases hk
    have h1 : h.1 + 1 ≤ R.cells + k0 := hroom.1
    have h2 : h.2.1 + x.1 ≤ R.slots + n0 := hroom.2
    exact z_newi C0 ok hv hd (by omega) (by omega) (fun H1 ok1 => kk H1 locs (cells + 1) (slots + x.1) ls ok1 (by show _ = h.1 + 1; omega) (by show _ = h.2.1 + x.1; omega))
  | anewarray i =>
    have hd := z_len hd hlen rfl
    obtain ⟨n, r, rfl, hk⟩ := z1i_inv hop
    obtain ⟨x, hl, hk⟩ := Option.bind_eq_some_iff.mp hk
    obtain ⟨t, ht, hk⟩ := Option.bind_eq_some_iff.mp hk
    split at hk
    · next hn =>
      cases hk
      have h1 : h.1 + 1 ≤ R.cells + k0 := hroom.1
      have h2 : h.2.1 + n.toNatClampNeg ≤ R.slots + n0 := hroom.2
      exact z_anew C0 ok hl ht hn.1 hn.2 hd (by omega) (by omega) (fun H1 ok1 => kk H1 locs (cells + 1) (slots + n.toNatClampNeg) ls ok1 (by show _ = h.1 + 1; omega) (by show _ = h.2.1 + n.toNatClampNeg; omega))
    · cases hk
  | new i =>
    have hd := z_len hd hlen rfl
    obtain ⟨x, hl, hk⟩ := Option.bind_eq_some_iff.mp hop
    cases hk
    have h1 : h.1 + 1 ≤ R.cells + k0 := hroom.1
    have h2 : h.2.1 + zfs x.1 ≤ R.slots + n0 := hroom.2
    exact z_new C0 ok hl hd (by omega) (by omega) (fun H1 ok1 => kk H1 locs (cells + 1) (slots + zfs x.1) ls ok1 (by show _ = h.1 + 1; omega) (by show _ = h.2.1 + zfs x.1; omega))
  | invokespecial i =>
    have hd := z_len hd hlen rfl
    obtain ⟨x, hl, hk⟩ := Option.bind_eq_some_iff.mp hop
    split at hk
    · next hq =>
      obtain ⟨a, r, rfl, hk2⟩ := z1r_inv hk
      split at hk2
      · next hcat =>
        cases hk2
        obtain ⟨hi, hmem⟩ := zlu_in hl
        have hF := List.all_eq_true.mp zSt_ok _ hmem
        unfold zSok at hF
        dsimp only at hF
        rw [zkey1 hi, zkey2 hi, hq.1] at hF
        refine W.objInit hx hb hown (hts _ (zok_in hF)) (hts _ zo_inst) (hts _ zo_code) rfl (by rw [hml]; exact hL.2.1) rfl hd (by omega) (by show 2 * 0 + _ + 12 ≤ _; rw [zcat_sh]; omega) ?_
        exact kk H locs cells slots ls ok hc hs
      · cases hk2
    · cases hk
  | invokestatic i =>
    have hd := z_len hd hlen rfl
    obtain ⟨x, hl, hk⟩ := Option.bind_eq_some_iff.mp hop
    split at hk
    · next hq =>
      obtain ⟨hi, hmem⟩ := zlu_in hl
      have hF := List.all_eq_true.mp zSt_ok _ hmem
      unfold zSok at hF
      dsimp only at hF
      rw [zkey1 hi, zkey2 hi] at hF
      unfold zstat at hk
      split at hk
      · next he =>
        obtain ⟨n, dp, a, sp, a0, r, rfl, hk2⟩ := zcp_inv hk
        split at hk2
        · next hcat =>
          obtain ⟨y, hv, hk3⟩ := Option.bind_eq_some_iff.mp hk2
          cases hk3
          exact z_copy C0 ok hl he hq hcat hv hd (fun H1 locs1 ok1 => kk H1 locs1 cells slots ls ok1 hc hs)
        · cases hk2
      · next he =>
        obtain ⟨u, v, r, rfl, hk2⟩ := z2i_inv hk
        split at hk2
        · next hcat =>
          cases hk2
          rw [he] at hF
          exact va_mmax hx hb (by rw [hml]; exact hL.2.1.symm) hown (hts _ (zok_in hF)) (hts _ zo_maxs) (hts _ zo_math) (hts _ zo_maxc) (by omega) (by rw [zcat_sh]; omega) (by have := hroom.1; simp only at this; omega) (by have := hroom.2; simp only at this; omega) hd (kk H locs cells slots ls ok hc hs)
        · cases hk2
      · next he =>
        obtain ⟨u, v, r, rfl, hk2⟩ := z2i_inv hk
        split at hk2
        · next hcat =>
          cases hk2
          rw [he] at hF
          exact va_mmin hx hb (by rw [hml]; exact hL.2.1.symm) hown (hts _ (zok_in hF)) (hts _ zo_mins) (hts _ zo_math) (hts _ zo_minc) (by omega) (by rw [zcat_sh]; omega) (by have := hroom.1; simp only at this; omega) (by have := hroom.2; simp only at this; omega) hd (kk H locs cells slots ls ok hc hs)
        · cases hk2
      · next he =>
        obtain ⟨u, r, rfl, hk2⟩ := z1i_inv hk
        split at hk2
        · next hcat =>
          cases hk2
          rw [he] at hF
          exact va_mabs hx hb (by rw [hml]; exact hL.2.1.symm) hown (hts _ (zok_in hF)) (hts _ zo_abss) (hts _ zo_math) (hts _ zo_absc) (by omega) (by rw [zcat_sh]; omega) (by have := hroom.1; simp only at this; omega) (by have := hroom.2; simp only at this; omega) hd (kk H locs cells slots ls ok hc hs)
        · cases hk2
      · cases hk
    · cases hk
  | _ => cases hop
end ZMK
