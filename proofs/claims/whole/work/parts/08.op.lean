/-! every instruction but calls and returns -/
section ZOP
variable {p : Program} {l : Launch} {e : Env} {R : Room} {s : State} {m : MethodId} {args : Array Value} {below : List Frame} {meth : Method} {c : Code} {H : Heap} {locs : List Loc} {cells slots : Nat} {Q : State → Prop}
variable {dC : Nat → ClassId} {dI : Nat → Nat → Nat} {tc : Nat → ClassId} {b B L M : Nat} {xs : Nat → Int32} {h : zH} {LL : zL} {ls : Array Slot} {k0 n0 : Nat}
theorem zgeti_inv {a : Nat} {x : zA} {i w : Int32} (e : zgeti a x i = some w) : ∃ t n f, x = .inl (t, n, .inl f) ∧ (t = 0 ∨ (t = 9 ∧ a = 0)) ∧ zin i n = true ∧ w = f i.toNatClampNeg := by
  unfold zgeti at e
  split at e
  · split at e
    · next q => cases e; exact ⟨_, _, _, rfl, q.1, q.2, rfl⟩
    · cases e
  · cases e
theorem zgetb_inv {x : zA} {i w : Int32} (e : zgetb x i = some w) : ∃ n f, x = .inl (2, n, .inl f) ∧ zin i n = true ∧ w = f i.toNatClampNeg := by
  unfold zgetb at e
  split at e
  · split at e
    · next q => obtain ⟨rfl, q2⟩ := q; cases e; exact ⟨_, _, rfl, q2, rfl⟩
    · cases e
  · cases e
theorem zgetl_inv {x : zA} {i : Int32} {w : Int64} (e : zgetl x i = some w) : ∃ n f, x = .inl (1, n, .inr (.inl f)) ∧ zin i n = true ∧ w = f i.toNatClampNeg := by
  unfold zgetl at e
  split at e
  · split at e
    · next q => obtain ⟨rfl, q2⟩ := q; cases e; exact ⟨_, _, rfl, q2, rfl⟩
    · cases e
  · cases e
theorem zgetr_inv {x : zA} {i : Int32} {w : Value} (e : zgetr x i = some w) : ∃ t n f, x = .inl (t, n, .inr (.inr (.inr (.inr f)))) ∧ (t = 3 ∨ t = 4) ∧ zin i n = true ∧ w = va_rf (f i.toNatClampNeg) := by
  unfold zgetr at e
  split at e
  · split at e
    · next q => cases e; exact ⟨_, _, _, rfl, q.1, q.2, rfl⟩
    · cases e
  · cases e
theorem zalen_inv {a : Nat} {x : zA} {w : Int32} (e : zalen a x = some w) : ∃ t n f, x = .inl (t, n, f) ∧ (t ≤ 4 ∨ (t = 9 ∧ a = 0)) ∧ w = Int32.ofNat n := by
  unfold zalen at e
  split at e
  · split at e
    · next q => cases e; exact ⟨_, _, _, rfl, q, rfl⟩
    · cases e
  · cases e
theorem zcopy_inv {x y z : zA} {sp dp n : Int32} (e : zcopy x y sp dp n = some z) : ∃ n0 f n1 g, x = .inl (0, n0, .inl f) ∧ y = .inl (0, n1, .inl g) ∧ (¬ sp < 0 ∧ ¬ dp < 0 ∧ ¬ n < 0 ∧ sp.toNatClampNeg + n.toNatClampNeg ≤ n0 ∧ dp.toNatClampNeg + n.toNatClampNeg ≤ n1) ∧ z = .inl (0, n1, .inl (va_cpy f g sp.toNatClampNeg dp.toNatClampNeg n.toNatClampNeg)) := by
  unfold zcopy at e
  split at e
  · split at e
    · next q => obtain ⟨rfl, rfl, q2⟩ := q; cases e; exact ⟨_, _, _, _, rfl, rfl, q2, rfl⟩
    · cases e
  · cases e
theorem hL9 {n : Nat} {c : Code} (h : ls.size = n) (hm : c.maxLocals = n) : ls.size = c.maxLocals := h.trans hm.symm
theorem z_ref0 : zsh b B (.ref 0) = .ref b := rfl
theorem z_iald (C0 : zCx p R s m args meth c dC dI tc b B L xs M) (ok : zOk s dC dI tc b B L xs M h H locs LL ls) {pc a : Nat} {i w : Int32} {r : List Value} (hv : zgeti a (h.2.2 a) i = some w) (hd : decode (zb M) pc = .ok (.iaload, 1))
    (kk : W p l e R s m args below meth c H locs cells slots Q (F0 m (pc + 1) ls (.int w :: r))) : W p l e R s m args below meth c H locs cells slots Q (F0 m pc ls (.int i :: zsh b B (.ref a) :: r)) := by
  obtain ⟨hx, hb, hml, hown, hts, hin, hWd, hX, hbB, hBs, hfr, hlo⟩ := C0
  obtain ⟨t, n, f, hx1, ht, hi, rfl⟩ := zgeti_inv hv
  rcases ht with rfl | ⟨rfl, rfl⟩
  · obtain ⟨ha0, ha1, hw⟩ := ok.arr hx1 (by decide)
    rw [zsh_ref ha0]
    exact va_iald hx hb hWd.1 ok.1.2.2.2.2 (a - 1) 0 hw rfl (zin_in hi) hd kk
  · rcases ok.1.script hx1 with ⟨-, hq⟩ | ⟨ha0, ha1⟩
    · cases hq
      rw [z_ref0]
      exact va_sld hx hb hX (by omega) (A := fun q => B + 1 ≤ q) (by omega) ok.2.1 (zin_in hi) hd kk
    · omega
theorem z_alen (C0 : zCx p R s m args meth c dC dI tc b B L xs M) (ok : zOk s dC dI tc b B L xs M h H locs LL ls) {pc a : Nat} {w : Int32} {r : List Value} (hv : zalen a (h.2.2 a) = some w) (hd : decode (zb M) pc = .ok (.arraylength, 1))
    (kk : W p l e R s m args below meth c H locs cells slots Q (F0 m (pc + 1) ls (.int w :: r))) : W p l e R s m args below meth c H locs cells slots Q (F0 m pc ls (zsh b B (.ref a) :: r)) := by
  obtain ⟨hx, hb, hml, hown, hts, hin, hWd, hX, hbB, hBs, hfr, hlo⟩ := C0
  obtain ⟨t, n, f, hx1, ht, rfl⟩ := zalen_inv hv
  by_cases h9 : t = 9
  · subst h9
    have ha : a = 0 := by omega
    subst ha
    rcases ok.1.script hx1 with ⟨-, hq⟩ | ⟨ha0, ha1⟩
    · cases hq
      rw [z_ref0]
      exact va_slen hx hb hX (by omega) (A := fun q => B + 1 ≤ q) (by omega) ok.2.1 hd kk
    · omega
  · obtain ⟨ha0, ha1, hw⟩ := ok.arr hx1 h9
    rw [zsh_ref ha0]
    have hty : ∃ ty, ([(tc 0, .int), (tc 1, .long), (tc 2, .boolean), (tc 3, .object "HeadTrees$TopKeys"), (tc 4, .object "HeadTrees$Drawing")] : List (ClassId × FieldType))[t]? = some (tc t, ty) := by
      rcases (show t = 0 ∨ t = 1 ∨ t = 2 ∨ t = 3 ∨ t = 4 by omega) with rfl | rfl | rfl | rfl | rfl <;> exact ⟨_, rfl⟩
    obtain ⟨ty, hty⟩ := hty
    obtain f | f | f | f | f := f
    · exact va_alen hx hb hWd.1 ok.1.2.2.2.2 (a - 1) t hw hty rfl hd kk
    · exact va_alen hx hb hWd.1 ok.1.2.2.2.2 (a - 1) t hw hty rfl hd kk
    · exact va_alen hx hb hWd.1 ok.1.2.2.2.2 (a - 1) t hw hty rfl hd kk
    · exact va_alen hx hb hWd.1 ok.1.2.2.2.2 (a - 1) t hw hty rfl hd kk
    · exact va_alen hx hb hWd.1 ok.1.2.2.2.2 (a - 1) t hw hty rfl hd kk

theorem z_copy (C0 : zCx p R s m args meth c dC dI tc b B L xs M) (ok : zOk s dC dI tc b B L xs M h H locs LL ls) {i pc a a0 : Nat} {sp dp n : Int32} {r : List Value} {x : Nat × Nat} {y : zA} (hl : zlu zSt M i = some x) (hx1 : x.1 = 1) (hdep : 1 ≤ zdep M) (hcat : zcat r ≤ 8) (hv : zcopy (h.2.2 a0) (h.2.2 a) sp dp n = some y) (hd : decode (zb M) pc = .ok (.invokestatic i, 3))
    (kk : ∀ (H1 : Heap) (locs1 : List Loc), zOk s dC dI tc b B L xs M (zw h a y) H1 locs1 LL ls → W p l e R s m args below meth c H1 locs1 cells slots Q (F0 m (pc + 3) ls (r.map (zsh b B)))) : W p l e R s m args below meth c H locs cells slots Q (F0 m pc ls (.int n :: .int dp :: zsh b B (.ref a) :: .int sp :: zsh b B (.ref a0) :: r.map (zsh b B))) := by
  obtain ⟨hx, hb, hml, hown, hts, hin, hWd, hX, hbB, hBs, hfr, hlo⟩ := C0
  obtain ⟨hi, hmem⟩ := zlu_in hl
  have hF := List.all_eq_true.mp zSt_ok _ hmem
  unfold zSok at hF
  dsimp only at hF
  rw [zkey1 hi, zkey2 hi, hx1] at hF
  have hlink := hts _ (zok_in hF)
  obtain ⟨n0, f, n1, g, e0, e1, ⟨h1, h2, h3, h4, h5⟩, rfl⟩ := zcopy_inv hv
  obtain ⟨a00, a01, hw0⟩ := ok.arr e0 (by decide)
  obtain ⟨a10, a11, hw1⟩ := ok.arr e1 (by decide)
  rw [zsh_ref a00, zsh_ref a10]
  have nn : ∀ z : Int32, ¬ z < 0 → z.toInt = (z.toNatClampNeg : Int) := by
    intro z hz
    have hz0 : (0 : Int) ≤ z.toInt := by
      have := Int32.not_lt.mp hz
      simpa using Int32.le_iff_toInt_le.mp this
    show z.toInt = ((z.toInt.toNat : Nat) : Int)
    omega
  intro T hT X
  have hc0 : H[B + a0]? = some (vp_cell (tc 0) (n0, .inl f)) := ok.1.2.2.2.2 _ _ hw0
  have hc1 : H[B + a]? = some (vp_cell (tc 0) (n1, .inl g)) := ok.1.2.2.2.2 _ _ hw1
  obtain ⟨-, k0, hk0, cm0, hkk0⟩ := (hWd.1.2 0 _ rfl).1 n0 (fun j => .int (f j))
  obtain ⟨-, k1, hk1, cm1, hkk1⟩ := (hWd.1.2 0 _ rfl).1 n1 (fun j => .int (g j))
  have hloc := hL9 ok.2.2.2.1 hml
  obtain ⟨vm', X', step⟩ := X.arraycopy hx hown hlink (hts _ zo_native) (hts _ zo_static) (hts _ zo_sys) (src := B + a0) (dst := B + a) (cs := vp_cell (tc 0) (n0, .inl f)) (cd := vp_cell (tc 0) (n1, .inl g)) (srcPos := sp) (destPos := dp) (n := n) (by rw [hT]; exact hc0) (by rw [hT]; exact hc1)
    (fun _ h => by cases h) (fun _ h => by cases h) (fun h => by cases h) (fun h => by cases h) hk0 hk1 hkk0 hkk1 (by simp [refKind]) h1 h2 h3
    (by rw [nn sp h1, nn n h3]; show ¬ _ > ((arrV (tc 0) n0 (fun j => .int (f j))).slots.size : Int); rw [arrV_size]; omega)
    (by rw [nn dp h2, nn n h3]; show ¬ _ > ((arrV (tc 0) n1 (fun j => .int (g j))).slots.size : Int); rw [arrV_size]; omega)
    (fun vm₁ _ i hi => by
      have e : (vp_cell (tc 0) (n0, .inl f)).slots.getD (sp.toNatClampNeg + i) .null = .int (f (sp.toNatClampNeg + i)) := by
        show (arrV (tc 0) n0 (fun j => .int (f j))).slots.getD _ _ = _
        rw [Array.getD_eq_getD_getElem?, arrV_read _ _ (by omega)]
        rfl
      refine ⟨?_, ?_⟩
      · rw [e]
        rfl
      · rw [e]
        exact trivial)
    (g := F0 m pc ls (.int n :: .int dp :: .ref (B + a) :: .int sp :: .ref (B + a0) :: r.map (zsh b B))) rfl hloc (rest := r.map (zsh b B)) rfl (by rw [hb]; exact hd) (by omega) (by show 2 * 0 + _ + _ ≤ _; rw [zcat_sh]; have hnw : nativeFrameWords "java/lang/System" "arraycopy" 5 = 7 := (by decide +kernel); rw [hnw]; omega)
  have e2 : copied (vp_cell (tc 0) (n0, .inl f)) (vp_cell (tc 0) (n1, .inl g)) sp dp n = vp_cell (tc 0) (n1, .inl (va_cpy f g sp.toNatClampNeg dp.toNatClampNeg n.toNatClampNeg)) := va_copied (fun z => .int z) (tc 0) (tc 0) f g h4
  rw [e2] at X' step
  have hl : B + a < H.size := (Array.getElem?_eq_some_iff.mp hc1).1
  have hheap : ((T.setVm vm').setCell (B + a) (vp_cell (tc 0) (n1, .inl (va_cpy f g sp.toNatClampNeg dp.toNatClampNeg n.toNatClampNeg)))).heap = H.setIfInBounds (B + a) (vp_cell (tc 0) (n1, .inl (va_cpy f g sp.toNatClampNeg dp.toNatClampNeg n.toNatClampNeg))) := by rw [← hT]; rfl
  have oq : ∀ q : Nat, q ≠ B + a → (H.setIfInBounds (B + a) (vp_cell (tc 0) (n1, .inl (va_cpy f g sp.toNatClampNeg dp.toNatClampNeg n.toNatClampNeg))))[q]? = H[q]? := fun q hq => by simp [Array.getElem?_setIfInBounds, Ne.symm hq]
  have w1 := ok.1.write (x := .inl (0, n1, .inl (va_cpy f g sp.toNatClampNeg dp.toNatClampNeg n.toNatClampNeg))) a10 a11 (show (H.setIfInBounds (B + a) _)[B + a]? = some _ by simp [Array.getElem?_setIfInBounds, hl]) (by simp) oq
  obtain ⟨t, a1, b1⟩ := kk _ _ ⟨w1, ⟨by simp; exact ok.2.1.1, fun q g1 g2 => by
      rw [oq q (fun e => g2 (by show B + 1 ≤ q; omega))]
      exact ok.2.1.2.1 q g1 g2, fun q hq => by
      rcases List.mem_append.mp hq with h | h
      · exact ok.2.1.2.2 q h
      · obtain ⟨z, -, hz⟩ := List.mem_map.mp h
        rw [← hz]
        show B + 1 ≤ B + a
        omega⟩, ok.2.2⟩ _ hheap X'
  exact ⟨t, step t a1, b1⟩
end ZOP
