/-! the rows that write and make cells -/
section ZHEAP
variable {p : Program} {l : Launch} {e : Env} {R : Room} {s : State} {m : MethodId} {args : Array Value} {below : List Frame} {meth : Method} {c : Code} {H : Heap} {locs : List Loc} {cells slots : Nat} {Q : State → Prop}
variable {dC : Nat → ClassId} {dI : Nat → Nat → Nat} {tc : Nat → ClassId} {b B L M : Nat} {xs : Nat → Int32} {h : zH} {LL : zL} {ls : Array Slot}
theorem zOk.write (ok : zOk s dC dI tc b B L xs M h H locs LL ls) {a k : Nat} {x : zA} {H1 : Heap} (h0 : 0 < a) (h1 : a < h.1) (he : va_at (dC, dI) vwCl (B + a, zE tc b B x) H1) (z : H1.size = H.size) (oq : ∀ q : Nat, q ≠ B + a → H1[q]? = H[q]?) : zOk s dC dI tc b B L xs M (zw h a x) H1 (locs ++ [⟨B + a, k⟩]) LL ls :=
  ⟨ok.1.write h0 h1 he z oq, ok.2.1.put z oq (by show B + 1 ≤ B + a; omega), ok.2.2⟩
theorem zOk.push (ok : zOk s dC dI tc b B L xs M h H locs LL ls) {n : Nat} {x : zA} {H1 : Heap} (he : va_at (dC, dI) vwCl (B + h.1, zE tc b B x) H1) (z : H1.size = H.size + 1) (oq : ∀ q : Nat, q < H.size → H1[q]? = H[q]?) : zOk s dC dI tc b B L xs M (znew h n x) H1 locs LL ls := by
  refine ⟨ok.1.push he z oq, ⟨?_, fun q h1 h2 => ?_, ok.2.1.2.2⟩, ok.2.2⟩
  · have := ok.2.1.1; omega
  · rw [oq q (Nat.lt_of_lt_of_le h1 ok.2.1.1)]
    exact ok.2.1.2.1 q h1 h2
theorem zsh_ref {a : Nat} (h0 : 0 < a) : zsh b B (.ref a) = .ref (B + a) := by
  show Value.ref (zal b B a) = _
  unfold zal
  rw [if_neg (by omega)]
theorem zOk.obj (ok : zOk s dC dI tc b B L xs M h H locs LL ls) {a ci : Nat} {fs : List Value} (e : h.2.2 a = .inr (ci, fs)) (hc : ci ≠ 99) : 0 < a ∧ a < h.1 ∧ (zW tc b B h)[a - 1]? = some (B + a, .inr (ci, fs.map (zsh b B))) := by
  obtain ⟨h0, h1⟩ := ok.1.obj e hc
  refine ⟨h0, h1, ?_⟩
  rw [zW_get h0 h1, e]
  rfl
theorem zOk.arr (ok : zOk s dC dI tc b B L xs M h H locs LL ls) {a t : Nat} {x : vp_A} (e : h.2.2 a = .inl (t, x)) (ht : t ≠ 9) : 0 < a ∧ a < h.1 ∧ (zW tc b B h)[a - 1]? = some (B + a, zE tc b B (.inl (t, x))) := by
  obtain ⟨h0, h1⟩ := ok.1.arr e ht
  refine ⟨h0, h1, ?_⟩
  rw [zW_get h0 h1, e]
theorem z_putf (C0 : zCx p R s m args meth c dC dI tc b B L xs M) (ok : zOk s dC dI tc b B L xs M h H locs LL ls) {i pc a : Nat} {r : List Value} {x : Nat × Nat × Nat × Nat} {v : Value} {y : zA} (hl : zlu zFt M i = some x) (hf : zfin M x.1 x.2.1 = true) (hv : zfput (h.2.2 a) x.1 x.2.1 v = some y) (hd : decode (zb M) pc = .ok (.putfield i, 3))
    (kk : ∀ (H1 : Heap) (locs1 : List Loc), zOk s dC dI tc b B L xs M (zw h a y) H1 locs1 LL ls → W p l e R s m args below meth c H1 locs1 cells slots Q (F0 m (pc + 3) ls r)) : W p l e R s m args below meth c H locs cells slots Q (F0 m pc ls (zsh b B v :: zsh b B (.ref a) :: r)) := by
  obtain ⟨hx, hb, hml, hown, hts, hin, hWd, hX, hbB, hBs, hfr, hlo⟩ := C0
  obtain ⟨hi, hmem⟩ := zlu_in hl
  have hF := List.all_eq_true.mp zFt_ok _ hmem
  obtain ⟨fs, hfs, hkl, hfit, hnar, rfl⟩ := zfput_inv hv
  unfold zFok at hF
  dsimp only at hF
  split at hF
  · next q hq =>
    rw [zkey1 hi, zkey2 hi] at hF
    simp only [Bool.and_eq_true, decide_eq_true_eq] at hF
    obtain ⟨⟨hk, hlink⟩, hdecl⟩ := hF
    have h99 : x.1 ≠ 99 := fun z => by rw [z] at hq; simp [vwCl] at hq
    obtain ⟨ha0, ha1, hw⟩ := ok.obj hfs h99
    rw [zsh_ref ha0]
    have hfit' := zfits_sh (b := b) (B := B) hfit
    have hnar' := znarrow_sh (b := b) (B := B) hnar
    obtain ⟨hu, hty, hnm, -⟩ := zcl_ok x.1 q hq
    have hap := va_apart (own := q.1) hts hu (zTy x.1) hty hnm hWd.1 hq
    obtain ⟨r', h1, cell, q1, q2, q3, q4⟩ := ok.1.2.2.2.2 (a - 1) _ hw
    have hr : r' = q := Option.some.inj (h1.symm.trans hq)
    subst hr
    obtain ⟨hS, hfc, kC, hkC, hkind⟩ := hWd.1.1 x.1 _ hq
    obtain ⟨cf, kf, fi, f, hi', hsl⟩ := hS x.2.1 hk
    have hlay := hts _ (hu _ (u_in_lay hk))
    have hst := (u_facts hfc hkC (u_lays hts hu hk) hi').1
    have fin : ∀ H' : Heap, H'[B + a]? = some (cell.setSlot f.slot (zsh b B v)) → va_at (dC, dI) vwCl (B + a, zE tc b B (.inr (x.1, fs.set x.2.1 v))) H' := by
      intro H' e1
      rw [hsl] at e1
      refine ⟨_, hq, t_OB.to (V := updV (vp_V (fs.map (zsh b B))) x.2.1 (zsh b B v)) ⟨_, e1, q2, q3, t_set q4 hap hk _⟩ (fun j _ => ?_)⟩
      rw [vp_updV_set (by rw [List.length_map]; exact hkl)]
      show _ = vp_V ((fs.set x.2.1 v).map (zsh b B)) j
      rw [List.map_set]
    have hfi' : s.fieldFound? r'.1 (r'.2.1 x.2.1).2.1 (r'.2.1 x.2.1).2.2.1 = some (cf, kf, fi, f) := by rw [← hdecl]; exact hi'
    unfold zfin at hf
    rw [hq] at hf
    dsimp only at hf
    simp only [Bool.or_eq_true, Bool.not_eq_true', Bool.and_eq_true, decide_eq_true_eq] at hf
    rcases hf with hf | ⟨hf1, hf2⟩
    · unfold u_lay at hlay
      rw [if_neg (by rw [hf]; decide)] at hlay
      have h6 := u_store hfc hkC hkind hlay hi' (hty _ hk) hnar' hfit'
      split at hlink
      · exact W.putK hx hb (f := f) ⟨hown, hts _ (zok_in hlink), ⟨_, _, _, hfi'⟩, hst⟩ (by rw [q2]; exact h6) q1 q3 (by rw [hsl]; exact k2_hasslot (q4 _ hk)) rfl rfl hd fun H' e1 e2 e3 => kk H' _ (ok.write ha0 ha1 (fin H' e1) e2 e3)
      · have hn := hWd.2.1 _ _ _ _ _ _ (List.mem_of_getElem? (of_decide_eq_true hlink))
        exact va_WputK hx hb (f := f) hown (va_Nw.use rfl hn) hfi' hst (by rw [q2]; exact h6) q1 q3 (by rw [hsl]; exact k2_hasslot (q4 _ hk)) rfl rfl hd fun H' e1 e2 e3 => kk H' _ (ok.write ha0 ha1 (fin H' e1) e2 e3)
    · by_cases hfn : (r'.2.1 x.2.1).2.2.2 = true
      · unfold u_lay at hlay
        rw [if_pos hfn] at hlay
        have hcf : m.cls = cf := by
          obtain ⟨_, _, c', _, _, _, -, -, hf', -, -, -, hown2, -⟩ := Cond.laysFinal_spec hlay
          have e1 : c' = cf := by have := hi'.symm.trans hf'; simp at this; exact this.1.symm
          rw [hf2] at hown2
          rw [← e1]; exact Option.some.inj (hown.symm.trans hown2)
        have h6 := u_fits hfc hkC hkind (Or.inr hlay) hi' (hty _ hk) hnar' hfit'
        split at hlink
        · exact W.putFinK hx hb hown (hts _ (zok_in hlink)) hfi' hst hcf (hin hf1) (by rw [q2]; exact h6) q1 q3 (by rw [hsl]; exact k2_hasslot (q4 _ hk)) rfl rfl hd fun H' e1 e2 e3 => kk H' _ (ok.write ha0 ha1 (fin H' e1) e2 e3)
        · have hn := hWd.2.1 _ _ _ _ _ _ (List.mem_of_getElem? (of_decide_eq_true hlink))
          refine va_Wputf hx hb hown (va_Nw.use rfl hn) hfi' hst (Or.inr ⟨hcf, hin hf1⟩) q1 (by rw [q3]; exact fun z => by cases z) (by rw [hsl]; exact k2_hasslot (q4 _ hk)) h6.1 (by rw [q3, q2]; exact h6.2) rfl rfl hd ?_
          have hlt : B + a < H.size := (Array.getElem?_eq_some_iff.mp q1).1
          exact kk _ _ (ok.write ha0 ha1 (fin _ (by simp [Array.getElem?_setIfInBounds, hlt])) (by simp) (fun q' hq' => by simp [Array.getElem?_setIfInBounds, Ne.symm hq']))
      · have hf : (r'.2.1 x.2.1).2.2.2 = false := by simpa using hfn
        unfold u_lay at hlay
        rw [if_neg (by rw [hf]; decide)] at hlay
        have h6 := u_store hfc hkC hkind hlay hi' (hty _ hk) hnar' hfit'
        split at hlink
        · exact W.putK hx hb (f := f) ⟨hown, hts _ (zok_in hlink), ⟨_, _, _, hfi'⟩, hst⟩ (by rw [q2]; exact h6) q1 q3 (by rw [hsl]; exact k2_hasslot (q4 _ hk)) rfl rfl hd fun H' e1 e2 e3 => kk H' _ (ok.write ha0 ha1 (fin H' e1) e2 e3)
        · have hn := hWd.2.1 _ _ _ _ _ _ (List.mem_of_getElem? (of_decide_eq_true hlink))
          exact va_WputK hx hb (f := f) hown (va_Nw.use rfl hn) hfi' hst (by rw [q2]; exact h6) q1 q3 (by rw [hsl]; exact k2_hasslot (q4 _ hk)) rfl rfl hd fun H' e1 e2 e3 => kk H' _ (ok.write ha0 ha1 (fin H' e1) e2 e3)
  · cases hF
theorem z_updV {α : Type} (mk : α → Value) (f : Nat → α) (k : Nat) (x : α) (g : Nat → α) (hg : ∀ j, g j = if j = k then x else f j) : updV (fun j => mk (f j)) k (mk x) = fun j => mk (g j) := by
  funext j
  rw [hg]
  unfold updV
  by_cases hj : j = k
  · rw [if_pos hj, if_pos hj]
  · rw [if_neg hj, if_neg hj]
theorem zputi_inv {x y : zA} {i : Int32} {v : Value} (h : zputi x i v = some y) : ∃ n f w, x = .inl (0, n, .inl f) ∧ v = .int w ∧ zin i n = true ∧ y = .inl (0, n, .inl (upd f i.toNatClampNeg w)) := by
  unfold zputi at h
  split at h
  · split at h
    · next e => obtain ⟨rfl, e1⟩ := e; cases h; exact ⟨_, _, _, rfl, rfl, e1, rfl⟩
    · cases h
  · cases h
theorem zputb_inv {x y : zA} {i : Int32} {v : Value} (h : zputb x i v = some y) : ∃ n f w, x = .inl (2, n, .inl f) ∧ v = .int w ∧ zin i n = true ∧ y = .inl (2, n, .inl (upd f i.toNatClampNeg (vp_nar .boolean w))) := by
  unfold zputb at h
  split at h
  · split at h
    · next e => obtain ⟨rfl, e1⟩ := e; cases h; exact ⟨_, _, _, rfl, rfl, e1, rfl⟩
    · cases h
  · cases h
theorem zputl_inv {x y : zA} {i : Int32} {v : Value} (h : zputl x i v = some y) : ∃ n f w, x = .inl (1, n, .inr (.inl f)) ∧ v = .long w ∧ zin i n = true ∧ y = .inl (1, n, .inr (.inl (vp_updL f i.toNatClampNeg w))) := by
  unfold zputl at h
  split at h
  · split at h
    · next e => obtain ⟨rfl, e1⟩ := e; cases h; exact ⟨_, _, _, rfl, rfl, e1, rfl⟩
    · cases h
  · cases h
theorem zputr_inv {x y : zA} {i : Int32} {v : Value} (hh : zputr h x i v = some y) : ∃ t n f, x = .inl (t, n, .inr (.inr (.inr (.inr f)))) ∧ (t = 3 ∨ t = 4) ∧ zin i n = true ∧ ((∃ w, v = .ref w ∧ zis (h.2.2 w) (zel t) = true ∧ y = .inl (t, n, .inr (.inr (.inr (.inr (va_up f i.toNatClampNeg (some w))))))) ∨ (v = .null ∧ y = .inl (t, n, .inr (.inr (.inr (.inr (va_up f i.toNatClampNeg none))))))) := by
  unfold zputr at hh
  split at hh
  · split at hh
    · next e => obtain ⟨e1, e2, e3⟩ := e; cases hh; exact ⟨_, _, _, rfl, e1, e2, Or.inl ⟨_, rfl, e3, rfl⟩⟩
    · cases hh
  · split at hh
    · next e => obtain ⟨e1, e2⟩ := e; cases hh; exact ⟨_, _, _, rfl, e1, e2, Or.inr ⟨rfl, rfl⟩⟩
    · cases hh
  · cases hh
theorem z_iast (C0 : zCx p R s m args meth c dC dI tc b B L xs M) (ok : zOk s dC dI tc b B L xs M h H locs LL ls) {pc a : Nat} {i : Int32} {r : List Value} {v : Value} {y : zA} (hv : zputi (h.2.2 a) i v = some y) (hd : decode (zb M) pc = .ok (.iastore, 1))
    (kk : ∀ (H1 : Heap) (locs1 : List Loc), zOk s dC dI tc b B L xs M (zw h a y) H1 locs1 LL ls → W p l e R s m args below meth c H1 locs1 cells slots Q (F0 m (pc + 1) ls r)) : W p l e R s m args below meth c H locs cells slots Q (F0 m pc ls (zsh b B v :: .int i :: zsh b B (.ref a) :: r)) := by
  obtain ⟨hx, hb, hml, hown, hts, hin, hWd, hX, hbB, hBs, hfr, hlo⟩ := C0
  obtain ⟨n, f, w, hx1, rfl, hi, rfl⟩ := zputi_inv hv
  obtain ⟨ha0, ha1, hw⟩ := ok.arr hx1 (by decide)
  rw [zsh_ref ha0]
  refine W.iast hx hb (ok.1.2.2.2.2 (a - 1) _ hw) ((hWd.1.2 0 _ rfl).1 n (fun j => .int (f j))) (fun q => by cases q) (by show ¬ (i < 0 ∨ (arrV _ _ _).slots.size ≤ _); rw [arrV_size]; exact zin_in hi) rfl rfl hd fun H1 e1 z oq => kk H1 _ (ok.write ha0 ha1 ?_ z oq)
  show H1[B + a]? = some (vp_cell (tc 0) (n, .inl (upd f i.toNatClampNeg w)))
  rw [e1]
  show some ((arrV (tc 0) n (fun j => .int (f j))).setSlot _ _) = _
  rw [arrV_store, z_updV Value.int f _ w (upd f i.toNatClampNeg w) (fun j => rfl)]
  rfl
theorem z_bast (C0 : zCx p R s m args meth c dC dI tc b B L xs M) (ok : zOk s dC dI tc b B L xs M h H locs LL ls) {pc a : Nat} {i : Int32} {r : List Value} {v : Value} {y : zA} (hv : zputb (h.2.2 a) i v = some y) (hd : decode (zb M) pc = .ok (.bastore, 1))
    (kk : ∀ (H1 : Heap) (locs1 : List Loc), zOk s dC dI tc b B L xs M (zw h a y) H1 locs1 LL ls → W p l e R s m args below meth c H1 locs1 cells slots Q (F0 m (pc + 1) ls r)) : W p l e R s m args below meth c H locs cells slots Q (F0 m pc ls (zsh b B v :: .int i :: zsh b B (.ref a) :: r)) := by
  obtain ⟨hx, hb, hml, hown, hts, hin, hWd, hX, hbB, hBs, hfr, hlo⟩ := C0
  obtain ⟨n, f, w, hx1, rfl, hi, rfl⟩ := zputb_inv hv
  obtain ⟨ha0, ha1, hw⟩ := ok.arr hx1 (by decide)
  rw [zsh_ref ha0]
  refine W.zast hx hb (ok.1.2.2.2.2 (a - 1) _ hw) ((hWd.1.2 2 _ rfl).1 n (fun j => .int (f j))) (fun q => by cases q) (by show ¬ (i < 0 ∨ (arrV _ _ _).slots.size ≤ _); rw [arrV_size]; exact zin_in hi) rfl rfl hd fun H1 e1 z oq => kk H1 _ (ok.write ha0 ha1 ?_ z oq)
  show H1[B + a]? = some (vp_cell (tc 2) (n, .inl (upd f i.toNatClampNeg (vp_nar .boolean w))))
  rw [e1]
  show some ((arrV (tc 2) n (fun j => .int (f j))).setSlot _ (.int (vp_nar .boolean w))) = _
  rw [arrV_store, z_updV Value.int f _ (vp_nar .boolean w) (upd f i.toNatClampNeg (vp_nar .boolean w)) (fun j => rfl)]
  rfl
theorem z_last (C0 : zCx p R s m args meth c dC dI tc b B L xs M) (ok : zOk s dC dI tc b B L xs M h H locs LL ls) {pc a : Nat} {i : Int32} {r : List Value} {v : Value} {y : zA} (hv : zputl (h.2.2 a) i v = some y) (hd : decode (zb M) pc = .ok (.lastore, 1))
    (kk : ∀ (H1 : Heap) (locs1 : List Loc), zOk s dC dI tc b B L xs M (zw h a y) H1 locs1 LL ls → W p l e R s m args below meth c H1 locs1 cells slots Q (F0 m (pc + 1) ls r)) : W p l e R s m args below meth c H locs cells slots Q (F0 m pc ls (zsh b B v :: .int i :: zsh b B (.ref a) :: r)) := by
  obtain ⟨hx, hb, hml, hown, hts, hin, hWd, hX, hbB, hBs, hfr, hlo⟩ := C0
  obtain ⟨n, f, w, hx1, rfl, hi, rfl⟩ := zputl_inv hv
  obtain ⟨ha0, ha1, hw⟩ := ok.arr hx1 (by decide)
  rw [zsh_ref ha0]
  refine W.last hx hb (ok.1.2.2.2.2 (a - 1) _ hw) ((hWd.1.2 1 _ rfl).1 n (fun j => .long (f j))) (fun q => by cases q) (by show ¬ (i < 0 ∨ (arrV _ _ _).slots.size ≤ _); rw [arrV_size]; exact zin_in hi) rfl rfl hd fun H1 e1 z oq => kk H1 _ (ok.write ha0 ha1 ?_ z oq)
  show H1[B + a]? = some (vp_cell (tc 1) (n, .inr (.inl (vp_updL f i.toNatClampNeg w))))
  rw [e1]
  show some ((arrV (tc 1) n (fun j => .long (f j))).setSlot _ _) = _
  rw [arrV_store, z_updV Value.long f _ w (vp_updL f i.toNatClampNeg w) (fun j => rfl)]
  rfl
theorem z_kel {t : Nat} (ht : t = 3 ∨ t = 4) (hWd : zWd dC dI tc s) : ∃ q : vw_C, vwCl[zel t]? = some q ∧ ∃ t0 : Nat, ([(tc 0, .int), (tc 1, .long), (tc 2, .boolean), (tc 3, .object "HeadTrees$TopKeys"), (tc 4, .object "HeadTrees$Drawing")] : List (ClassId × FieldType))[t0]? = some (tc t, FieldType.object q.1) := by
  rcases ht with rfl | rfl
  · exact ⟨_, rfl, 3, rfl⟩
  · exact ⟨_, rfl, 4, rfl⟩
theorem z_aast (C0 : zCx p R s m args meth c dC dI tc b B L xs M) (ok : zOk s dC dI tc b B L xs M h H locs LL ls) {pc a : Nat} {i : Int32} {r : List Value} {v : Value} {y : zA} (hv : zputr h (h.2.2 a) i v = some y) (hd : decode (zb M) pc = .ok (.aastore, 1))
    (kk : ∀ (H1 : Heap) (locs1 : List Loc), zOk s dC dI tc b B L xs M (zw h a y) H1 locs1 LL ls → W p l e R s m args below meth c H1 locs1 cells slots Q (F0 m (pc + 1) ls r)) : W p l e R s m args below meth c H locs cells slots Q (F0 m pc ls (zsh b B v :: .int i :: zsh b B (.ref a) :: r)) := by
  obtain ⟨hx, hb, hml, hown, hts, hin, hWd, hX, hbB, hBs, hfr, hlo⟩ := C0
  obtain ⟨t, n, f, hx1, ht, hi, hy⟩ := zputr_inv hv
  have ht9 : t ≠ 9 := by omega
  obtain ⟨ha0, ha1, hw⟩ := ok.arr hx1 ht9
  rw [zsh_ref ha0]
  have hin' := zin_in hi
  have hlt : i.toNatClampNeg < n := Nat.not_le.mp fun q => hin' (Or.inr q)
  have hn0 : ¬ i < 0 := fun q => hin' (Or.inl q)
  obtain ⟨q, hq, t0, ht0⟩ := z_kel (dC := dC) (dI := dI) (tc := tc) (s := s) ht hWd
  have hcell : H[B + a]? = some (arrV (tc t) n (fun j => va_rf ((f j).map (zal b B)))) := ok.1.2.2.2.2 (a - 1) _ hw
  have fin : ∀ (o : Option Nat) (H1 : Heap), H1[B + a]? = some ((arrV (tc t) n (fun j => va_rf ((f j).map (zal b B)))).setSlot i.toNatClampNeg (va_rf (o.map (zal b B)))) → va_at (dC, dI) vwCl (B + a, zE tc b B (.inl (t, n, .inr (.inr (.inr (.inr (va_up f i.toNatClampNeg o))))))) H1 := by
    intro o H1 e1
    show H1[B + a]? = some (arrV (tc t) n (fun j => va_rf ((va_up f i.toNatClampNeg o j).map (zal b B))))
    rw [e1, arrV_store]
    congr 2
    funext j
    unfold updV va_up
    by_cases hj : j = i.toNatClampNeg
    · rw [if_pos hj, if_pos hj]
    · rw [if_neg hj, if_neg hj]
  rcases hy with ⟨w, rfl, hw2, rfl⟩ | ⟨rfl, rfl⟩
  · unfold zis at hw2
    split at hw2
    · next cw fw hcw =>
      have hcw' : cw = zel t := by simpa using hw2
      subst hcw'
      obtain ⟨hw0, hw1, hww⟩ := ok.obj hcw (by unfold zel; split <;> decide)
      obtain ⟨r', hr', cellV, g1, g2, g3, -⟩ := ok.1.2.2.2.2 (w - 1) _ hww
      have hcls := (hWd.1.1 (zel t) q hq).2
      obtain ⟨kA, comp, k1, k2, k3, -⟩ := (hWd.1.2 t0 _ ht0).2
      have hcomp : comp = dC (zel t) := Option.some.inj (k3.symm.trans hcls.1)
      subst hcomp
      obtain ⟨kC, hkC, -⟩ := hcls.2
      have hsw : zsh b B (.ref w) = .ref (B + w) := zsh_ref hw0
      rw [hsw]
      refine W.aast hx hb hcell (fun q h => by cases h) (fun h => by cases h) k1 k2 rfl hkC ⟨hn0, by show _ < (arrV _ _ _).slots.size; rw [arrV_size]; exact hlt⟩ g1 (fun q h => by rw [g3] at h; cases h) (by rw [g2]; exact hkC) (by rw [g2]; exact va_assign hcls) rfl rfl hd fun H1 e1 z oq => kk H1 _ (ok.write ha0 ha1 (fin (some w) H1 ?_) z oq)
      rw [e1]
      show _ = some ((arrV (tc t) n _).setSlot _ (zsh b B (.ref w)))
      rw [hsw]
    · cases hw2
  · exact va_WaastN (C := q.1) hx hb hcell ((hWd.1.2 t0 _ ht0).1 n (fun j => va_rf ((f j).map (zal b B)))) (fun h => by cases h) (by show ¬ (i < 0 ∨ (arrV _ _ _).slots.size ≤ _); rw [arrV_size]; exact hin') rfl rfl hd fun H1 e1 z oq => kk H1 _ (ok.write ha0 ha1 (fin none H1 e1) z oq)
end ZHEAP
