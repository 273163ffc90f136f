/-! what my machine runs, the real one runs -/
theorem zPc_blind {dC : Nat → ClassId} {dI : Nat → Nat → Nat} {tc : Nat → ClassId} {b B L : Nat} {xs : Nat → Int32} {as : List Value} {h : zH} : FrameBlind (zPc dC dI tc b B L xs as h) := by
  rintro a U g mk ⟨q0, q1, q2, q3, q4⟩
  exact ⟨q0, q1, q2.same (U := U.calling g mk a) rfl, va_X.moved (u := U) (U := U.calling g mk a) (Vm.Alike.refl U.vm) q3, q4⟩
theorem zrecv_0 {h : zH} {y : Nat} {as : List Value} (hr : zrecv h y 0 as = true) : ∃ a r ci fs q, as = .ref a :: r ∧ h.2.2 a = .inr (ci, fs) ∧ vwCl[ci]? = some q ∧ q.1 = (zy y).cls := by
  unfold zrecv at hr
  split at hr
  · exact absurd ‹0 = 1› (by decide)
  · exact absurd ‹0 = 2› (by decide)
  · next a r _ =>
    split at hr
    · next ci fs hc =>
      have := of_decide_eq_true hr
      cases hq : vwCl[ci]? with
      | none => rw [hq] at this; cases this
      | some q =>
        rw [hq] at this
        exact ⟨a, r, ci, fs, q, rfl, hc, hq, Option.some.inj this⟩
    · cases hr
  · cases hr
theorem zrecv_2 {h : zH} {y : Nat} {as : List Value} (hr : zrecv h y 2 as = true) : ∃ a r, as = .ref a :: r := by
  unfold zrecv at hr
  split at hr
  · exact absurd ‹2 = 1› (by decide)
  · next a r _ => exact ⟨a, r, rfl⟩
  · exact absurd ‹2 = 0› (by decide)
  · cases hr
theorem zcall_inv {M : Nat} {ins : Instr} {S : List Value} {h : zH} {c : Nat × List Value × List Value} (hc : zcall M ins S h = some c) : ∃ kd i e, zkind ins = some (kd, i) ∧ zlu zCt M i = some e ∧ e.1 = c.1 ∧ e.2.2.1 = kd ∧ S = c.2.1.reverse ++ c.2.2 ∧ c.2.1.length = (if kd = 1 then e.2.1 else e.2.1 + 1) ∧ zcat c.2.2 ≤ 8 ∧ zdep c.1 < zdep M ∧ (zlocs c.2.1).length ≤ zml c.1 ∧ zrecv h c.1 kd c.2.1 = true := by
  unfold zcall at hc
  obtain ⟨⟨kd, i⟩, hk, hc⟩ := Option.bind_eq_some_iff.mp hc
  obtain ⟨e, he, hc⟩ := Option.bind_eq_some_iff.mp hc
  dsimp only at hc
  generalize hn : (if kd = 1 then e.2.1 else e.2.1 + 1) = n at hc
  split at hc
  · next hq =>
    cases hc
    obtain ⟨q1, q2, q3, q4, q5, q6⟩ := hq
    refine ⟨kd, i, e, hk, he, rfl, q1, ?_, ?_, q3, q4, q5, q6⟩
    · rw [List.reverse_reverse, List.take_append_drop]
    · rw [List.length_reverse, List.length_take, hn]
      omega
  · cases hc
theorem zkind_len {ins : Instr} {k : Nat × Nat} (h : zkind ins = some k) : znt ins = true ∧ zlen ins = 3 := by
  unfold zkind at h
  split at h <;> first | exact ⟨rfl, rfl⟩ | cases h
theorem z_all (l : Launch) (dC : Nat → ClassId) (dI : Nat → Nat → Nat) (tc : Nat → ClassId) (b B L : Nat) (xs : Nat → Int32) : ∀ f : Nat, zAll l dC dI tc b B L xs f := by
  intro f
  induction f with
  | zero =>
    intro M pc LL S h v h' hr
    simp [zrun] at hr
  | succ f ih =>
    intro M pc LL S h v h' hr p e R s m args below meth c Q k0 n0 C0 hR1 hR2 hret
    obtain ⟨ins, len, hd, hl, hq⟩ := zrun_inv hr
    rcases hq with ⟨he, rfl⟩ | ⟨hne, cc, hcall, ⟨v1, h1⟩, hr1, hr2⟩ | ⟨hne, hnc, o, hop, hr2⟩
    · intro H locs cells slots ls ok hc hs
      have hz : zlen ins = 1 ∧ znt ins = true := by
        unfold zend at he
        split at he <;> first | exact ⟨rfl, rfl⟩ | cases he
      have hd1 := z_len hd hl hz.2
      rw [hz.1] at hd1
      exact hret ins pc S H locs cells slots ls LL he hd1 ok hc hs
    · intro H locs cells slots ls ok hc hs
      obtain ⟨y, as, r⟩ := cc
      obtain ⟨kd, i, x, hk, hlu, hx1, hx2, rfl, hlen, hcat, hdep, hloc, hrecv⟩ := zcall_inv hcall
      dsimp only at hx1 hlen hcat hdep hloc hrecv hr1 hr2
      subst hx1
      have hzl := zkind_len hk
      have hd1 := z_len hd hl hzl.1
      rw [hzl.2] at hd1
      have C1 := C0
      obtain ⟨hx, hb, hml, hown, hts, hin, hWd, hX, hbB, hBs, hfr, hlo⟩ := C1
      have ok : zOk s dC dI tc b B L xs M h H locs LL ls := ok
      have hc : cells + k0 = h.1 := hc
      have hs : slots + n0 = h.2.1 := hs
      obtain ⟨hi, hmem⟩ := zlu_in hlu
      have hF := List.all_eq_true.mp zCt_ok _ hmem
      unfold zCok at hF
      dsimp only at hF
      rw [zkey1 hi, zkey2 hi] at hF
      simp only [Bool.and_eq_true, decide_eq_true_eq] at hF
      obtain ⟨hF1, hF2, hF3, ⟨hF4, hF5, hF6⟩, hF7⟩ := hF
      have hM := z_met ih hr1 hF3 hloc
      have hm1 := zrun_mono _ _ _ _ _ _ _ _ hr1
      have hm2 := zrun_mono _ _ _ _ _ _ _ _ hr2
      have hm1' : h.1 ≤ h1.1 ∧ h.2.1 ≤ h1.2.1 := hm1
      have hm2' : h1.1 ≤ h'.1 ∧ h1.2.1 ≤ h'.2.1 := hm2
      have hgood := zws_good hF3
      have hmax := zM_ok hF3
      unfold zMok at hmax
      simp only [Bool.and_eq_true, decide_eq_true_eq] at hmax
      have hmx : zml x.1 ≤ 11 := hmax.2.2.1
      have hRm : (zroom x.1 (h1.1 - h.1) (h1.2.1 - h.2.1)).frames + 1 ≤ R.frames ∧ 8 + (zml x.1 + 11) + (zroom x.1 (h1.1 - h.1) (h1.2.1 - h.2.1)).locals ≤ R.locals := by
        refine ⟨?_, ?_⟩
        · show zdep x.1 + 1 ≤ R.frames; omega
        · show 8 + (zml x.1 + 11) + 40 * zdep x.1 ≤ R.locals; omega
      have hf : cells + (h1.1 - h.1) ≤ R.cells ∧ slots + (h1.2.1 - h.2.1) ≤ R.slots := ⟨by omega, by omega⟩
      have hPcU : ∀ U : State, U.heap = H → s.WarmedH U.vm → zPc dC dI tc b B L xs as h (as.map (zsh b B)).toArray U := by
        intro U hU hW
        refine ⟨rfl, by rw [hU]; exact ok.1, hWd.warm hW, ?_, hbB⟩
        have hXs : va_X b L xs s H := va_X.kept hX (by exact ok.2.1.2.1 b (by omega) (by show ¬ B + 1 ≤ b; omega))
        rw [hU]
        exact va_X.moved hW.alike hXs
      have fin : ∀ (g : JFrame), g = F0 m pc ls ((as.reverse ++ r).map (zsh b B)) → va_Run p l e R s m args below meth c H locs cells slots (h1.1 - h.1) (h1.2.1 - h.2.1) g (r.map (zsh b B)) (zQc dC dI tc b B L xs v1 h1 (as.map (zsh b B)).toArray) (fun q => B + 1 ≤ q) → W p l e R s m args below meth c H locs cells slots Q (F0 m pc ls ((as.reverse ++ r).map (zsh b B))) := by
        rintro g rfl hrun
        refine z_callgo hrun fun v2 st t L2 hst hq hL2 => ?_
        obtain ⟨hv, hRp1, hfrm⟩ := hq
        cases hv
        have hgo := ih M (pc + 3) LL (v1.toList ++ r) h1 v h' hr2 p e R s m args below meth c Q k0 n0 C0 hR1 hR2 hret
        have := hgo t.heap (locs ++ L2) (cells + (h1.1 - h.1)) (slots + (h1.2.1 - h.2.1)) ls ⟨hRp1, ⟨?_, fun q g1 g2 => ?_, fun q hq => ?_⟩, ok.2.2⟩ (by show _ = h1.1; omega) (by show _ = h1.2.1; omega)
        · refine W.eq ?_ this
          show F0 m (pc + 3) ls ((v1.map (zsh b B)).toList ++ r.map (zsh b B)) = F0 m (pc + 3) ls ((v1.toList ++ r).map (zsh b B))
          cases v1 <;> rfl
        · have h5 := ok.2.1.1
          have h6 := ok.1.1
          have h7 := hRp1.1
          omega
        · rw [hfrm q (Nat.not_le.mp g2), hst]
          exact ok.2.1.2.1 q g1 g2
        · rcases List.mem_append.mp hq with hq | hq
          · exact ok.2.1.2.2 q hq
          · exact hL2 q hq
      have S0 : CallFix p m c (zb M) (zml M) s args zT (zR (zown M)) := ⟨hx, hb, hml, hown, hts⟩
      by_cases hk0 : kd = 0
      · subst hk0
        obtain ⟨a, as', ci, fs, q, rfl, hcell, hq, hqc⟩ := zrecv_0 hrecv
        have h99 : ci ≠ 99 := fun z => by rw [z] at hq; simp [vwCl] at hq
        obtain ⟨ha0, ha1, hw⟩ := ok.obj hcell h99
        rw [if_pos hx2] at hF7
        simp only [Bool.and_eq_true] at hF7
        have hins : ins = .invokevirtual i := by
          unfold zkind at hk
          split at hk <;> first | (cases hk; rfl) | cases hk
        subst hins
        have hn : (as'.map (zsh b B)).length = x.2.1 := by
          rw [List.length_map]
          have : (Value.ref a :: as').length = x.2.1 + 1 := by rw [if_neg (by decide)] at hlen; exact hlen
          simpa using this
        refine fin (F0 m pc ls ((as'.map (zsh b B)).reverse ++ .ref (B + a) :: r.map (zsh b B))) ?_ ?_
        · rw [List.reverse_cons, List.append_assoc, List.map_append, List.map_reverse]
          show _ = F0 m pc ls (_ ++ zsh b B (.ref a) :: _)
          rw [zsh_ref ha0]
          rfl
        · have hrun := va_runV (As := as'.map (zsh b B)) (b := B + a) (g := F0 m pc ls ((as'.map (zsh b B)).reverse ++ .ref (B + a) :: r.map (zsh b B))) (rest := r.map (zsh b B)) (H := H) (locs := locs) (cells := cells) (slots := slots) (p := p) (l := l) (e := e) (below := below) (meth := meth) S0 hM (C := (zy x.1).cls) (index := i) (bytes := zb x.1) (maxL := zml x.1) (ret := zrt x.1) (n := x.2.1)
            ⟨callB_of x.2.1 hts hgood rfl rfl rfl (hts _ (zok_in hF2)) (hts _ (zok_in hF1)) ⟨hF4, hF5, hF6⟩ hRm, hts _ (zok_in hF7.1), hts _ (zok_in hF7.2)⟩
            ⟨zPc_blind, by rw [← hqc]; exact va_recv hWd.1 ok.1.2.2.2.2 hq hw, fun U hU hW => by have := hPcU U hU hW; rw [List.map_cons, zsh_ref ha0] at this; exact this⟩
            rfl hn ok.2.2.2.1 rfl (by show 2 * 0 + _ ≤ 8; rw [zcat_sh]; omega) hd1 hf
          rw [List.map_cons, zsh_ref ha0]
          exact hrun
      · by_cases hk1 : kd = 1
        · subst hk1
          rw [if_neg (by rw [hx2]; decide), if_pos hx2] at hF7
          have hins : ins = .invokestatic i := by
            unfold zkind at hk
            split at hk <;> first | (cases hk; rfl) | cases hk
          subst hins
          have hn : (as.map (zsh b B)).length = x.2.1 := by
            rw [List.length_map]
            rw [if_pos rfl] at hlen
            exact hlen
          refine fin (F0 m pc ls ((as.map (zsh b B)).reverse ++ r.map (zsh b B))) ?_ ?_
          · rw [List.map_append, List.map_reverse]
          · exact va_runS (As := as.map (zsh b B)) (g := F0 m pc ls ((as.map (zsh b B)).reverse ++ r.map (zsh b B))) (rest := r.map (zsh b B)) S0 hM (index := i) (bytes := zb x.1) (maxL := zml x.1) (ret := zrt x.1) (n := x.2.1)
              ⟨callB_of x.2.1 hts hgood rfl rfl rfl (hts _ (zok_in hF2)) (hts _ (zok_in hF1)) ⟨hF4, hF5, hF6⟩ hRm, hts _ (zok_in hF7)⟩
              ⟨zPc_blind, hPcU⟩ rfl hn ok.2.2.2.1 rfl (by show 2 * 0 + _ ≤ 8; rw [zcat_sh]; omega) hd1 hf
        · have hk2 : kd = 2 := by
            unfold zkind at hk
            split at hk
            · cases hk; exact absurd rfl hk0
            · cases hk; exact absurd rfl hk1
            · cases hk; rfl
            · cases hk
          subst hk2
          rw [if_neg (by rw [hx2]; decide), if_neg (by rw [hx2]; decide)] at hF7
          simp only [Bool.and_eq_true, decide_eq_true_eq] at hF7
          obtain ⟨-, hF8, hF9, hF10⟩ := hF7
          have hins : ins = .invokespecial i := by
            unfold zkind at hk
            split at hk <;> first | (cases hk; rfl) | cases hk
          subst hins
          obtain ⟨a, as', rfl⟩ := zrecv_2 hrecv
          have hn : (as'.map (zsh b B)).length = x.2.1 := by
            rw [List.length_map]
            have : (Value.ref a :: as').length = x.2.1 + 1 := by rw [if_neg (by decide)] at hlen; exact hlen
            simpa using this
          have hws : zws x.1 = Cond.code (zy x.1) (zb x.1) (zml x.1) none :: zT := by unfold zws; rw [hF10]
          refine fin (F0 m pc ls ((as'.map (zsh b B)).reverse ++ .ref (zal b B a) :: r.map (zsh b B))) ?_ ?_
          · rw [List.reverse_cons, List.append_assoc, List.map_append, List.map_reverse]
            rfl
          · exact va_runI (As := as'.map (zsh b B)) (b := zal b B a) (g := F0 m pc ls ((as'.map (zsh b B)).reverse ++ .ref (zal b B a) :: r.map (zsh b B))) (rest := r.map (zsh b B)) S0 hM (index := i) (bytes := zb x.1) (maxL := zml x.1) (n := x.2.1)
              ⟨callB_of x.2.1 hts hgood hws rfl rfl (hts _ (zok_in hF2)) (hts _ (zok_in hF1)) ⟨hF4, hF5, hF6⟩ hRm, hF9, hts _ (zok_in hF8)⟩
              ⟨zPc_blind, hPcU⟩ rfl hn ok.2.2.2.1 rfl (by show 2 * 0 + _ ≤ 8; rw [zcat_sh]; omega) hd1 hf
    · have hm := zrun_mono _ _ _ _ _ _ _ _ hr2
      exact z_step C0 hop hd hl ⟨Nat.le_trans hm.1 hR1, Nat.le_trans hm.2 hR2⟩ (ih _ _ _ _ _ _ _ hr2 p e R s m args below meth c Q k0 n0 C0 hR1 hR2 hret)
