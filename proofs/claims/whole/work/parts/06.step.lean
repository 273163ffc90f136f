/-! one step of my machine is a stretch of the real one's walk -/
theorem zlu_in {β : Type} {l : List (Nat × β)} {m i : Nat} {v : β} (h : zlu l m i = some v) : i < 1000 ∧ (zown m * 1000 + i, v) ∈ l := by
  unfold zlu at h
  split at h
  · next hi => exact ⟨hi, zlook h⟩
  · cases h
theorem zkey1 {o i : Nat} (h : i < 1000) : (o * 1000 + i) / 1000 = o := by omega
theorem zkey2 {o i : Nat} (h : i < 1000) : (o * 1000 + i) % 1000 = i := by omega
theorem z1i_inv {S : List Value} {k : Int32 → List Value → Option zR4} {o : zR4} (h : z1i S k = some o) : ∃ x r, S = .int x :: r ∧ k x r = some o := by
  unfold z1i at h
  split at h
  · exact ⟨_, _, rfl, h⟩
  · cases h
theorem z1l_inv {S : List Value} {k : Int64 → List Value → Option zR4} {o : zR4} (h : z1l S k = some o) : ∃ x r, S = .long x :: r ∧ k x r = some o := by
  unfold z1l at h
  split at h
  · exact ⟨_, _, rfl, h⟩
  · cases h
theorem z2i_inv {S : List Value} {k : Int32 → Int32 → List Value → Option zR4} {o : zR4} (h : z2i S k = some o) : ∃ x y r, S = .int y :: .int x :: r ∧ k x y r = some o := by
  unfold z2i at h
  split at h
  · exact ⟨_, _, _, rfl, h⟩
  · cases h
theorem z2l_inv {S : List Value} {k : Int64 → Int64 → List Value → Option zR4} {o : zR4} (h : z2l S k = some o) : ∃ x y r, S = .long y :: .long x :: r ∧ k x y r = some o := by
  unfold z2l at h
  split at h
  · exact ⟨_, _, _, rfl, h⟩
  · cases h
theorem zli_inv {S : List Value} {k : Int64 → Int32 → List Value → Option zR4} {o : zR4} (h : zli S k = some o) : ∃ x y r, S = .int y :: .long x :: r ∧ k x y r = some o := by
  unfold zli at h
  split at h
  · exact ⟨_, _, _, rfl, h⟩
  · cases h
theorem z1r_inv {S : List Value} {k : Nat → List Value → Option zR4} {o : zR4} (h : z1r S k = some o) : ∃ a r, S = .ref a :: r ∧ k a r = some o := by
  unfold z1r at h
  split at h
  · exact ⟨_, _, rfl, h⟩
  · cases h
theorem zar_inv {S : List Value} {k : Int32 → Nat → List Value → Option zR4} {o : zR4} (h : zar S k = some o) : ∃ i a r, S = .int i :: .ref a :: r ∧ k i a r = some o := by
  unfold zar at h
  split at h
  · exact ⟨_, _, _, rfl, h⟩
  · cases h
theorem zas_inv {S : List Value} {k : Value → Int32 → Nat → List Value → Option zR4} {o : zR4} (h : zas S k = some o) : ∃ v i a r, S = v :: .int i :: .ref a :: r ∧ k v i a r = some o := by
  unfold zas at h
  split at h
  · exact ⟨_, _, _, _, rfl, h⟩
  · cases h
theorem zvr_inv {S : List Value} {k : Value → Nat → List Value → Option zR4} {o : zR4} (h : zvr S k = some o) : ∃ v a r, S = v :: .ref a :: r ∧ k v a r = some o := by
  unfold zvr at h
  split at h
  · exact ⟨_, _, _, rfl, h⟩
  · cases h
theorem z1v_inv {S : List Value} {k : Value → List Value → Option zR4} {o : zR4} (h : z1v S k = some o) : ∃ v r, S = v :: r ∧ k v r = some o := by
  unfold z1v at h
  split at h
  · exact ⟨_, _, rfl, h⟩
  · cases h
theorem z2v_inv {S : List Value} {k : Value → Value → List Value → Option zR4} {o : zR4} (h : z2v S k = some o) : ∃ v w r, S = v :: w :: r ∧ k v w r = some o := by
  unfold z2v at h
  split at h
  · exact ⟨_, _, _, rfl, h⟩
  · cases h
theorem zcp_inv {S : List Value} {k : Int32 → Int32 → Nat → Int32 → Nat → List Value → Option zR4} {o : zR4} (h : zcp S k = some o) : ∃ n dp a sp a0 r, S = .int n :: .int dp :: .ref a :: .int sp :: .ref a0 :: r ∧ k n dp a sp a0 r = some o := by
  unfold zcp at h
  split at h
  · exact ⟨_, _, _, _, _, _, rfl, h⟩
  · cases h
theorem zsta_inv {S : List Value} {k : Value → List Value → Option zR4} {o : zR4} (h : zsta S k = some o) : (∃ a r, S = .ref a :: r ∧ k (.ref a) r = some o) ∨ ∃ r, S = .null :: r ∧ k .null r = some o := by
  unfold zsta at h
  split at h
  · exact Or.inl ⟨_, _, rfl, h⟩
  · exact Or.inr ⟨_, rfl, h⟩
  · cases h
theorem zldi_inv {L : zL} {i : Nat} {k : Int32 → Option zR4} {o : zR4} (h : zldi L i k = some o) : ∃ x, L[i]? = some (some (.int x)) ∧ k x = some o := by
  unfold zldi at h
  split at h
  · next x hx => exact ⟨x, hx, h⟩
  · cases h
theorem zldl_inv {L : zL} {i : Nat} {k : Int64 → Option zR4} {o : zR4} (h : zldl L i k = some o) : ∃ x, L[i]? = some (some (.long x)) ∧ k x = some o := by
  unfold zldl at h
  split at h
  · next x hx => exact ⟨x, hx, h⟩
  · cases h
theorem zlda_inv {L : zL} {i : Nat} {k : Value → Option zR4} {o : zR4} (h : zlda L i k = some o) : (∃ a, L[i]? = some (some (.ref a)) ∧ k (.ref a) = some o) ∨ (L[i]? = some (some .null) ∧ k .null = some o) := by
  unfold zlda at h
  split at h
  · next a ha => exact Or.inl ⟨a, ha, h⟩
  · next ha => exact Or.inr ⟨ha, h⟩
  · cases h
theorem zjmp_inv {pc : Nat} {off : Int} {L : zL} {S : List Value} {h : zH} {o : zR4} (e : zjmp pc off L S h = some o) : ∃ tgt : Nat, (pc : Int) + off = (tgt : Int) ∧ o = (tgt, L, S, h) := by
  unfold zjmp at e
  split at e
  · next hp =>
    cases e
    refine ⟨zgo pc off, ?_, rfl⟩
    unfold zgo
    omega
  · cases e
theorem zbr_inv {c : Bool} {pc : Nat} {off : Int} {L : zL} {S : List Value} {h : zH} {o : zR4} (e : zbr c pc off L S h = some o) : ∃ tgt : Nat, (pc : Int) + off = (tgt : Int) ∧ o = (if c = true then tgt else pc + 3, L, S, h) := by
  unfold zbr at e
  split at e
  · next hp =>
    cases e
    refine ⟨zgo pc off, ?_, rfl⟩
    unfold zgo
    omega
  · cases e
theorem zfget_inv {x : zA} {ci k : Nat} {v : Value} (h : zfget x ci k = some v) : ∃ fs, x = .inr (ci, fs) ∧ fs[k]? = some v := by
  unfold zfget at h
  split at h
  · split at h
    · next e => subst e; exact ⟨_, rfl, h⟩
    · cases h
  · cases h
theorem zfput_inv {x y : zA} {ci k : Nat} {v : Value} (h : zfput x ci k v = some y) : ∃ fs, x = .inr (ci, fs) ∧ k < fs.length ∧ fits (zTy ci k) v = true ∧ narrow (zTy ci k) v = v ∧ y = .inr (ci, fs.set k v) := by
  unfold zfput at h
  split at h
  · split at h
    · next e => obtain ⟨rfl, e1, e2, e3⟩ := e; cases h; exact ⟨_, rfl, e1, e2, e3, rfl⟩
    · cases h
  · cases h
theorem zin_in {i : Int32} {n : Nat} (h : zin i n = true) : vp_in i n := by
  simp only [zin, Bool.and_eq_true, Bool.not_eq_true', decide_eq_false_iff_not, decide_eq_true_eq] at h
  rintro (q | q)
  · exact h.1 q
  · omega
/-- what a state knows of the classes -/
def zWd (dC : Nat → ClassId) (dI : Nat → Nat → Nat) (tc : Nat → ClassId) (U : State) : Prop :=
  va_K (dC, dI) vwCl [(tc 0, .int), (tc 1, .long), (tc 2, .boolean), (tc 3, .object "HeadTrees$TopKeys"), (tc 4, .object "HeadTrees$Drawing")] U ∧ (∀ (o : String) (i : Nat) (C n d g : String), Cond.fieldLinkNest o i C n d g ∈ lw_tbl → va_Nw (.fieldLinkNest o i C n d g) U) ∧ va_AO "HeadTrees$TopKeys" U ∧ va_AO "HeadTrees$Drawing" U
theorem zWd.warm {dC : Nat → ClassId} {dI : Nat → Nat → Nat} {tc : Nat → ClassId} {s U : State} (h : zWd dC dI tc s) (hW : s.WarmedH U.vm) : zWd dC dI tc U :=
  ⟨va_K.moved hW.alike h.1, fun o i C n d g hm => va_Nw.warmF hW (h.2.1 o i C n d g hm), va_AO.moved hW.alike h.2.2.1, va_AO.moved hW.alike h.2.2.2⟩
theorem zWd.same {dC : Nat → ClassId} {dI : Nat → Nat → Nat} {tc : Nat → ClassId} {s U : State} (h : zWd dC dI tc s) (hW : s.vm = U.vm) : zWd dC dI tc U :=
  ⟨va_K.moved (by rw [hW]; exact Vm.Alike.refl _) h.1, fun o i C n d g hm => va_Nw.same rfl hW (h.2.1 o i C n d g hm), va_AO.moved (by rw [hW]; exact Vm.Alike.refl _) h.2.2.1, va_AO.moved (by rw [hW]; exact Vm.Alike.refl _) h.2.2.2⟩
/-- a method's body, while it is walked -/
def zCx (p : Program) (R : Room) (s : State) (m : MethodId) (args : Array Value) (meth : Method) (c : Code) (dC : Nat → ClassId) (dI : Nat → Nat → Nat) (tc : Nat → ClassId) (b B L : Nat) (xs : Nat → Int32) (M : Nat) : Prop :=
  p.tables.exec = Jvm.exec ∧ c.code = zb M ∧ c.maxLocals = zml M ∧ s.vm.findClass (zR (zown M)) = some m.cls ∧ (∀ w ∈ zT, w.before args s = true) ∧ ((zy M).name = "<init>" → meth.name = "<init>") ∧ zWd dC dI tc s ∧ va_X b L xs s s.heap ∧ b ≤ B ∧ B + 1 ≤ s.heap.size ∧ zdep M ≤ R.frames ∧ 40 * zdep M ≤ R.locals
def zOk (s : State) (dC : Nat → ClassId) (dI : Nat → Nat → Nat) (tc : Nat → ClassId) (b B L : Nat) (xs : Nat → Int32) (M : Nat) (h : zH) (H : Heap) (locs : List Loc) (LL : zL) (ls : Array Slot) : Prop :=
  zRp dC dI tc b B L xs h H ∧ va_S (fun q => B + 1 ≤ q) s.heap H locs ∧ zLs b B (zml M) LL ls
theorem zcat_sh (b B : Nat) (S : List Value) : ((S.map (zsh b B)).map fun v => v.category).sum = zcat S := by
  unfold zcat
  rw [List.map_map]
  congr 1
  apply List.map_congr_left
  intro v _
  exact zsh_cat b B v
theorem zrf_sh (b B : Nat) (r : Option Nat) : va_rf (r.map (zal b B)) = zsh b B (va_rf r) := by cases r <;> rfl
theorem zfits_sh {b B : Nat} {ty : FieldType} {v : Value} (h : fits ty v = true) : fits ty (zsh b B v) = true := by
  cases v <;> first | exact h | (cases ty <;> first | rfl | exact absurd h (by decide) | (simp [fits] at h))
theorem znarrow_sh {b B : Nat} {ty : FieldType} {v : Value} (h : narrow ty v = v) : narrow ty (zsh b B v) = zsh b B v := by
  cases v <;> first | exact h | (cases ty <;> rfl)
section ZSTEP
variable {p : Program} {l : Launch} {e : Env} {R : Room} {s : State} {m : MethodId} {args : Array Value} {below : List Frame} {meth : Method} {c : Code} {H : Heap} {locs : List Loc} {cells slots : Nat} {Q : State → Prop}
variable {dC : Nat → ClassId} {dI : Nat → Nat → Nat} {tc : Nat → ClassId} {b B L M : Nat} {xs : Nat → Int32} {k0 n0 : Nat}
/-- the walk from a state of my machine -/
def zGo (p : Program) (l : Launch) (e : Env) (R : Room) (s : State) (m : MethodId) (args : Array Value) (below : List Frame) (meth : Method) (c : Code) (Q : State → Prop) (dC : Nat → ClassId) (dI : Nat → Nat → Nat) (tc : Nat → ClassId) (b B L : Nat) (xs : Nat → Int32) (M k0 n0 : Nat) (o : zR4) : Prop :=
  ∀ (H : Heap) (locs : List Loc) (cells slots : Nat) (ls : Array Slot), zOk s dC dI tc b B L xs M o.2.2.2 H locs o.2.1 ls → cells + k0 = o.2.2.2.1 → slots + n0 = o.2.2.2.2.1 → W p l e R s m args below meth c H locs cells slots Q (F0 m o.1 ls (o.2.2.1.map (zsh b B)))
theorem z_getf (C0 : zCx p R s m args meth c dC dI tc b B L xs M) {h : zH} {LL : zL} {ls : Array Slot} (ok : zOk s dC dI tc b B L xs M h H locs LL ls) {i pc a : Nat} {r : List Value} {x : Nat × Nat × Nat × Nat} {v : Value} (hl : zlu zFt M i = some x) (hv : zfget (h.2.2 a) x.1 x.2.1 = some v) (hd : decode (zb M) pc = .ok (.getfield i, 3))
    (kk : W p l e R s m args below meth c H locs cells slots Q (F0 m (pc + 3) ls (zsh b B v :: r))) : W p l e R s m args below meth c H locs cells slots Q (F0 m pc ls (zsh b B (.ref a) :: r)) := by
  obtain ⟨hx, hb, hml, hown, hts, hin, hWd, hX, hbB, hBs, hfr, hlo⟩ := C0
  obtain ⟨hR, hS, hL⟩ := ok
  obtain ⟨hi, hmem⟩ := zlu_in hl
  have hF := List.all_eq_true.mp zFt_ok _ hmem
  obtain ⟨fs, hfs, hg⟩ := zfget_inv hv
  unfold zFok at hF
  dsimp only at hF
  split at hF
  · next q hq =>
    rw [zkey1 hi, zkey2 hi] at hF
    simp only [Bool.and_eq_true, decide_eq_true_eq] at hF
    obtain ⟨⟨hk, hlink⟩, hdecl⟩ := hF
    have h99 : x.1 ≠ 99 := fun z => by rw [z] at hq; simp [vwCl] at hq
    obtain ⟨ha0, ha1⟩ := hR.obj hfs h99
    have hw := zW_get (tc := tc) (b := b) (B := B) ha0 ha1
    rw [hfs] at hw
    have hg' : (fs.map (zsh b B))[x.2.1]? = some (zsh b B v) := by rw [List.getElem?_map, hg]; rfl
    have hsa : zsh b B (.ref a) = .ref (B + a) := by show Value.ref (zal b B a) = _; unfold zal; rw [if_neg (by omega)]
    rw [hsa]
    have hsame : ∀ y, s.fieldFound? (q.2.1 x.2.1).1 (q.2.1 x.2.1).2.1 (q.2.1 x.2.1).2.2.1 = some y → s.fieldFound? q.1 (q.2.1 x.2.1).2.1 (q.2.1 x.2.1).2.2.1 = some y := fun y hy => by rw [hdecl] at hy; exact hy
    split at hlink
    · exact va_get (D := (dC, dI)) (ci := x.1) (C := q.1) (T := q.2.1) (N := q.2.2) hx hb hts (zcl_ok x.1 q hq).1 hown hWd.1 hR.2.2.2.2 (a - 1) hw hq x.2.1 hk (hts _ (zok_in hlink)) hsame hg' hd kk
    · have hn := hWd.2.1 _ _ _ _ _ _ (List.mem_of_getElem? (of_decide_eq_true hlink))
      exact va_getN (D := (dC, dI)) (ci := x.1) (C := q.1) (T := q.2.1) (N := q.2.2) hx hb hts (zcl_ok x.1 q hq).1 hown hWd.1 hR.2.2.2.2 (a - 1) hw hq x.2.1 hk (va_Nw.use rfl hn) hsame hg' hd kk
  · cases hF
end ZSTEP
