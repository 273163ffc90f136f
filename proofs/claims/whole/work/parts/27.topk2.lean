/-! TopKeys as a state: how many, and the keys -/
section TOPK2
variable {h : zH} {a k b kb m lim : Nat} {f : Nat → Int64} {x : Int64}
abbrev tS : Type := Nat × (Nat → Int64)
def toff (lim : Nat) (S : tS) (x : Int64) : Bool × tS :=
  if lim ≤ S.1 ∧ x ≤ S.2 (lim - 1) then (false, S) else if 0 < tat S.2 x S.1 ∧ S.2 (tat S.2 x S.1 - 1) = x then (true, S) else (true, (if S.1 < lim then S.1 + 1 else S.1, tfin S.2 x (tat S.2 x S.1) (if S.1 < lim then S.1 + 1 else S.1)))
theorem toff_le {lim : Nat} {S : tS} {x : Int64} (hS : S.1 ≤ lim) : (toff lim S x).2.1 ≤ lim := by
  unfold toff
  split
  · exact hS
  · split
    · exact hS
    · dsimp only
      split <;> omega
/-- the heap in which a's TopKeys is S -/
def thp (h : zH) (a k lim : Nat) (S : tS) : zH := zw (zw h a (.inr (7, [.ref k, .int (nI S.1), .int (nI lim)]))) k (.inl (1, 31, .inr (.inl S.2)))
theorem thp_id {S : tS} (hD : h.2.2 a = .inr (7, [.ref k, .int (nI S.1), .int (nI lim)])) (hk : h.2.2 k = .inl (1, 31, .inr (.inl S.2))) : thp h a k lim S = h := by
  unfold thp
  rw [zw_id h hD, zw_id h hk]
theorem thp_a {S : tS} (hak : a ≠ k) : (thp h a k lim S).2.2 a = .inr (7, [.ref k, .int (nI S.1), .int (nI lim)]) := by
  unfold thp
  rw [zw_at, if_neg hak, zw_at, if_pos rfl]
theorem thp_k {S : tS} : (thp h a k lim S).2.2 k = .inl (1, 31, .inr (.inl S.2)) := by
  unfold thp
  rw [zw_at, if_pos rfl]
theorem thp_o {S : tS} {c : Nat} (h1 : c ≠ a) (h2 : c ≠ k) : (thp h a k lim S).2.2 c = h.2.2 c := by
  unfold thp
  rw [zw_at, if_neg h2, zw_at, if_neg h1]
theorem thp_thp {S T : tS} (hak : a ≠ k) : thp (thp h a k lim S) a k lim T = thp h a k lim T := by
  unfold thp
  rw [zw_sw _ _ _ _ hak, zw_w]
theorem s_offer2 {S : tS} (hD : h.2.2 a = .inr (7, [.ref k, .int (nI S.1), .int (nI lim)])) (hk : h.2.2 k = .inl (1, 31, .inr (.inl S.2))) (hak : a ≠ k) (hm : S.1 ≤ lim) (h1 : 1 ≤ lim) (hl : lim ≤ 31) :
    zC 20 [.ref a, .long x] h = some (some (.int (if (toff lim S x).1 = true then 1 else 0)), thp h a k lim (toff lim S x).2) := by
  rw [s_offer hD hk hak hm h1 hl]
  unfold toff
  by_cases c1 : lim ≤ S.1 ∧ x ≤ S.2 (lim - 1)
  · rw [if_pos c1, if_pos c1]
    simp [thp_id hD hk]
  · rw [if_neg c1, if_neg c1]
    by_cases c2 : 0 < tat S.2 x S.1 ∧ S.2 (tat S.2 x S.1 - 1) = x
    · rw [if_pos c2, if_pos c2]
      simp [thp_id hD hk]
    · rw [if_neg c2, if_neg c2]
      simp [thp]
theorem s_restartBare {n : Nat} {s0 l0 : Int32} (hD : h.2.2 a = .inr (7, [.ref k, .int s0, .int l0])) (hk : h.2.2 k = .inl (1, 31, .inr (.inl f))) (hak : a ≠ k) (h1 : 1 ≤ n) (h2 : n ≤ 31) :
    zC 102 [.ref a, .int (nI n)] h = some (none, thp h a k n (toff n (0, f) 0).2) := by
  have e1 := s_trestartN hD h1 h2
  have e2 := s_offer2 (h := zw h a (.inr (7, [.ref k, .int (nI 0), .int (nI n)]))) (a := a) (k := k) (lim := n) (S := (0, f)) (x := 0) (by rw [zw_at, if_pos rfl]) (by rw [zw_at, if_neg (Ne.symm hak)]; exact hk) hak (by omega) h1 h2
  have e3 : thp (zw h a (.inr (7, [.ref k, .int (nI 0), .int (nI n)]))) a k n (toff n (0, f) 0).2 = thp h a k n (toff n (0, f) 0).2 := by
    unfold thp
    rw [zw_w]
  rw [e3] at e2
  simp [I_X8_restartBare, E_X8_restartBare, hD, zfok, zfv, zfs', ziok, ziv, zpok, zis', zlok, zlv', zls', zbok, zrok, zrv', zrs', zaok, zan, zcok, zcs', zis, zgv, zgh, zcat, zw_1, zw_21, zw_at, zclr_int, zclr_ref, zclr_null, zclr_none, zclr_long, zclr_clr, zbv_0, zbv_1, zbv_ite, zbv_ite', Value.category, e1, e2]
/-- offers from place u on, c at most: how many were taken, and the state behind them -/
def tsome (lim : Nat) (g : Nat → Int64) (y : Int64) : Nat → Nat → tS → Nat × tS
  | 0, u, S => (u, S)
  | c + 1, u, S => if (toff lim S (g u + y)).1 = true then tsome lim g y c (u + 1) (toff lim S (g u + y)).2 else (u, (toff lim S (g u + y)).2)
theorem tsome_le {lim : Nat} {g : Nat → Int64} {y : Int64} : ∀ (c u : Nat) (S : tS), S.1 ≤ lim → (tsome lim g y c u S).2.1 ≤ lim
  | 0, _, _, hS => hS
  | c + 1, u, S, hS => by
    unfold tsome
    split
    · exact tsome_le c (u + 1) _ (toff_le hS)
    · exact toff_le hS
theorem tsome_ge {lim : Nat} {g : Nat → Int64} {y : Int64} : ∀ (c u : Nat) (S : tS), u ≤ (tsome lim g y c u S).1 ∧ (tsome lim g y c u S).1 ≤ u + c
  | 0, _, _ => ⟨Nat.le_refl _, Nat.le_refl _⟩
  | c + 1, u, S => by
    unfold tsome
    split
    · have := tsome_ge (lim := lim) (g := g) (y := y) c (u + 1) (toff lim S (g u + y)).2
      omega
    · exact ⟨Nat.le_refl _, Nat.le_add_right _ _⟩
section SOME
variable {n2 mo : Nat} {g : Nat → Int64} {y : Int64} {lb : Int32}
theorem l_offerSome (hak : a ≠ k) (h1 : 1 ≤ lim) (hl : lim ≤ 31) (hn2 : n2 ≤ 31) (hmo : mo ≤ 31) (b1 : b ≠ a) (b2 : b ≠ k) (b3 : kb ≠ a) (b4 : kb ≠ k) :
    ∀ (c u : Nat) (h : zH) (S : tS), min n2 mo - u = c → u ≤ 31 → S.1 ≤ lim → h.2.2 a = .inr (7, [.ref k, .int (nI S.1), .int (nI lim)]) → h.2.2 k = .inl (1, 31, .inr (.inl S.2)) → h.2.2 b = .inr (7, [.ref kb, .int (nI n2), .int lb]) → h.2.2 kb = .inl (1, 31, .inr (.inl g)) →
      zD 67 3 [some (.ref a), some (.ref b), some (.int (nI mo)), some (.long y), none, some (.int (nI u))] [] h = some (some (.int (if 0 < (tsome lim g y c u S).1 then 1 else 0)), thp h a k lim (tsome lim g y c u S).2)
  | 0, u, h, S, hc, hu, hS, hD, hk, hB, hkb => by
    rw [E_X8_offerSome_h3]
    have e1 : (nI n2 ≤ nI u) ↔ n2 ≤ u := zle (by omega) (by omega)
    have e2 : (nI mo ≤ nI u) ↔ mo ≤ u := zle (by omega) (by omega)
    have e3 : (nI u ≤ 0) ↔ u = 0 := by rw [show (0 : Int32) = nI 0 from rfl, zle (by omega) (by omega)]; omega
    simp [E_X8_offerSome, hB, zfok, zfv, zfs', ziok, ziv, zpok, zis', zlok, zlv', zls', zbok, zrok, zrv', zrs', zaok, zan, zcok, zcs', zis, zgv, zgh, zcat, zw_1, zw_21, zw_at, zclr_int, zclr_ref, zclr_null, zclr_none, zclr_long, zclr_clr, zbv_0, zbv_1, zbv_ite, zbv_ite', Value.category, e1, e2, e3, tsome, thp_id hD hk]
    by_cases c1 : n2 ≤ u
    · rw [if_pos c1]
      by_cases c2 : u = 0
      · simp [c2]
      · have c3 : 0 < u := by omega
        simp [c2, c3]
    · rw [if_neg c1, if_pos (show mo ≤ u by omega)]
      by_cases c2 : u = 0
      · simp [c2]
      · have c3 : 0 < u := by omega
        simp [c2, c3]
  | c + 1, u, h, S, hc, hu, hS, hD, hk, hB, hkb => by
    rw [E_X8_offerSome_h3]
    have e1 : ¬ (nI n2 ≤ nI u) := by rw [zle (by omega) (by omega)]; omega
    have e2 : ¬ (nI mo ≤ nI u) := by rw [zle (by omega) (by omega)]; omega
    have e3 : (nI u ≤ 0) ↔ u = 0 := by rw [show (0 : Int32) = nI 0 from rfl, zle (by omega) (by omega)]; omega
    have e4 : zin (nI u) 31 = true := zin8 (by omega) (by omega)
    have e5 : (nI u).toNatClampNeg = u := zcl7 (by omega)
    have e6 := s_offer2 (x := g u + y) hD hk hak hS h1 hl
    have e7 : nI u + 1 = nI (u + 1) := nI_1 u
    simp [E_X8_offerSome, hD, hB, hkb, zfok, zfv, zfs', ziok, ziv, zpok, zis', zlok, zlv', zls', zbok, zrok, zrv', zrs', zaok, zan, zcok, zcs', zis, zgv, zgh, zcat, zw_1, zw_21, zw_at, zclr_int, zclr_ref, zclr_null, zclr_none, zclr_long, zclr_clr, zbv_0, zbv_1, zbv_ite, zbv_ite', Value.category, e1, e2, e3, e4, e5, e6, e7, tsome, zb01]
    by_cases c1 : (toff lim S (g u + y)).1 = true
    · simp only [c1, if_true]
      rw [l_offerSome hak h1 hl hn2 hmo b1 b2 b3 b4 c (u + 1) _ (toff lim S (g u + y)).2 (by omega) (by omega) (toff_le hS) (thp_a hak) thp_k (by rw [thp_o b1 b2]; exact hB) (by rw [thp_o b3 b4]; exact hkb), thp_thp hak]
      simp
    · simp only [c1]
      by_cases c2 : u = 0
      · simp [c2]
      · have c3 : 0 < u := by omega
        simp [c2, c3]
theorem s_offerSome {S : tS} (hak : a ≠ k) (h1 : 1 ≤ lim) (hl : lim ≤ 31) (hn2 : n2 ≤ 31) (hmo : mo ≤ 31) (b1 : b ≠ a) (b2 : b ≠ k) (b3 : kb ≠ a) (b4 : kb ≠ k) (hS : S.1 ≤ lim) (hD : h.2.2 a = .inr (7, [.ref k, .int (nI S.1), .int (nI lim)])) (hk : h.2.2 k = .inl (1, 31, .inr (.inl S.2))) (hB : h.2.2 b = .inr (7, [.ref kb, .int (nI n2), .int lb])) (hkb : h.2.2 kb = .inl (1, 31, .inr (.inl g))) :
    zC 67 [.ref a, .ref b, .int (nI mo), .long y] h = some (some (.int (if 0 < (tsome lim g y (min n2 mo) 0 S).1 then 1 else 0)), thp h a k lim (tsome lim g y (min n2 mo) 0 S).2) := by
  have := l_offerSome hak h1 hl hn2 hmo b1 b2 b3 b4 (min n2 mo) 0 h S (by omega) (by omega) hS hD hk hB hkb (y := y)
  simp only [I_X8_offerSome, E_X8_offerSome, zclr_none]
  exact this
/-- pairs: i from there on, c at most -/
def tpair (lim n2 : Nat) (g1 g2 : Nat → Int64) (y : Int64) : Nat → Nat → tS → tS
  | 0, _, S => S
  | c + 1, i, S => if 0 < (tsome lim g2 (g1 i + y) (min n2 (lim / (i + 1))) 0 S).1 then tpair lim n2 g1 g2 y c (i + 1) (tsome lim g2 (g1 i + y) (min n2 (lim / (i + 1))) 0 S).2 else (tsome lim g2 (g1 i + y) (min n2 (lim / (i + 1))) 0 S).2
theorem tpair_le {lim n2 : Nat} {g1 g2 : Nat → Int64} {y : Int64} : ∀ (c i : Nat) (S : tS), S.1 ≤ lim → (tpair lim n2 g1 g2 y c i S).1 ≤ lim
  | 0, _, _, hS => hS
  | c + 1, i, S, hS => by
    unfold tpair
    split
    · exact tpair_le c (i + 1) _ (tsome_le _ _ _ hS)
    · exact tsome_le _ _ _ hS
variable {c1 kc n1 : Nat} {g1 : Nat → Int64} {lc : Int32}
theorem l_offerPairs (hak : a ≠ k) (h1 : 1 ≤ lim) (hl : lim ≤ 31) (hn1 : n1 ≤ 31) (hn2 : n2 ≤ 31) (b1 : b ≠ a) (b2 : b ≠ k) (b3 : kb ≠ a) (b4 : kb ≠ k) (d1 : c1 ≠ a) (d2 : c1 ≠ k) (d3 : kc ≠ a) (d4 : kc ≠ k) :
    ∀ (c i : Nat) (h : zH) (S : tS), c + i = n1 → S.1 ≤ lim → h.2.2 a = .inr (7, [.ref k, .int (nI S.1), .int (nI lim)]) → h.2.2 k = .inl (1, 31, .inr (.inl S.2)) → h.2.2 b = .inr (7, [.ref kb, .int (nI n2), .int lb]) → h.2.2 kb = .inl (1, 31, .inr (.inl g)) → h.2.2 c1 = .inr (7, [.ref kc, .int (nI n1), .int lc]) → h.2.2 kc = .inl (1, 31, .inr (.inl g1)) →
      zD 103 3 [some (.ref a), some (.ref c1), some (.ref b), some (.long y), none, some (.int (nI i))] [] h = some (none, thp h a k lim (tpair lim n2 g1 g y c i S))
  | 0, i, h, S, hc, hS, hD, hk, hB, hkb, hC, hkc => by
    rw [E_X8_offerPairs_h3]
    have e1 : (nI n1 ≤ nI i) := by rw [zle (by omega) (by omega)]; omega
    simp [E_X8_offerPairs, hC, zfok, zfv, zfs', ziok, ziv, zpok, zis', zlok, zlv', zls', zbok, zrok, zrv', zrs', zaok, zan, zcok, zcs', zis, zgv, zgh, zcat, zw_1, zw_21, zw_at, zclr_int, zclr_ref, zclr_null, zclr_none, zclr_long, zclr_clr, zbv_0, zbv_1, zbv_ite, zbv_ite', Value.category, e1, tpair, thp_id hD hk]
  | c + 1, i, h, S, hc, hS, hD, hk, hB, hkb, hC, hkc => by
    rw [E_X8_offerPairs_h3]
    have e1 : ¬ (nI n1 ≤ nI i) := by rw [zle (by omega) (by omega)]; omega
    have e4 : zin (nI i) 31 = true := zin8 (by omega) (by omega)
    have e5 : (nI i).toNatClampNeg = i := zcl7 (by omega)
    have e7 : nI i + 1 = nI (i + 1) := nI_1 i
    have e8 : ¬ nI (i + 1) = 0 := nI_ne0 (by omega) (by omega)
    have e9 : nI lim / nI (i + 1) = nI (lim / (i + 1)) := pk_div (by omega) (by omega) (by omega)
    have hdl : lim / (i + 1) ≤ 31 := Nat.le_trans (Nat.div_le_self _ _) hl
    have e6 := s_offerSome (y := g1 i + y) hak h1 hl hn2 hdl b1 b2 b3 b4 hS hD hk hB hkb
    simp [E_X8_offerPairs, hD, hC, hkc, zfok, zfv, zfs', ziok, ziv, zpok, zis', zlok, zlv', zls', zbok, zrok, zrv', zrs', zaok, zan, zcok, zcs', zis, zgv, zgh, zcat, zw_1, zw_21, zw_at, zclr_int, zclr_ref, zclr_null, zclr_none, zclr_long, zclr_clr, zbv_0, zbv_1, zbv_ite, zbv_ite', Value.category, e1, e4, e5, e6, e7, e8, e9, tpair, zb01]
    by_cases q : 0 < (tsome lim g (g1 i + y) (min n2 (lim / (i + 1))) 0 S).1
    · rw [if_pos q, if_neg (by omega)]
      rw [l_offerPairs hak h1 hl hn1 hn2 b1 b2 b3 b4 d1 d2 d3 d4 c (i + 1) _ _ (by omega) (tsome_le _ _ _ hS) (thp_a hak) thp_k (by rw [thp_o b1 b2]; exact hB) (by rw [thp_o b3 b4]; exact hkb) (by rw [thp_o d1 d2]; exact hC) (by rw [thp_o d3 d4]; exact hkc), thp_thp hak]
    · rw [if_neg q, if_pos (by omega)]
theorem s_offerPairs {S : tS} (hak : a ≠ k) (h1 : 1 ≤ lim) (hl : lim ≤ 31) (hn1 : n1 ≤ 31) (hn2 : n2 ≤ 31) (b1 : b ≠ a) (b2 : b ≠ k) (b3 : kb ≠ a) (b4 : kb ≠ k) (d1 : c1 ≠ a) (d2 : c1 ≠ k) (d3 : kc ≠ a) (d4 : kc ≠ k) (hS : S.1 ≤ lim) (hD : h.2.2 a = .inr (7, [.ref k, .int (nI S.1), .int (nI lim)])) (hk : h.2.2 k = .inl (1, 31, .inr (.inl S.2))) (hB : h.2.2 b = .inr (7, [.ref kb, .int (nI n2), .int lb])) (hkb : h.2.2 kb = .inl (1, 31, .inr (.inl g))) (hC : h.2.2 c1 = .inr (7, [.ref kc, .int (nI n1), .int lc])) (hkc : h.2.2 kc = .inl (1, 31, .inr (.inl g1))) :
    zC 103 [.ref a, .ref c1, .ref b, .long y] h = some (none, thp h a k lim (tpair lim n2 g1 g y n1 0 S)) := by
  have := l_offerPairs hak h1 hl hn1 hn2 b1 b2 b3 b4 d1 d2 d3 d4 n1 0 h S (by omega) hS hD hk hB hkb hC hkc (y := y)
  simp only [I_X8_offerPairs, E_X8_offerPairs, zclr_none]
  exact this
end SOME
/-- the first place of a key among c from i on -/
def tfnd (f : Nat → Int64) (x : Int64) : Nat → Nat → Int32
  | 0, _ => -1
  | c + 1, i => if f i = x then nI i else tfnd f x c (i + 1)
theorem l_find {l0 : Int32} (hD : h.2.2 a = .inr (7, [.ref k, .int (nI m), .int l0])) (hk : h.2.2 k = .inl (1, 31, .inr (.inl f))) (hm : m ≤ 31) :
    ∀ (c i : Nat) (l2 : Option Value), c + i = m → zD 19 2 [some (.ref a), some (.long x), l2, some (.int (nI i))] [] h = some (some (.int (tfnd f x c i)), h)
  | 0, i, l2, hc => by
    rw [E_X8_find_h2]
    have e1 : (nI m ≤ nI i) := by rw [zle (by omega) (by omega)]; omega
    simp [E_X8_find, hD, zfok, zfv, zfs', ziok, ziv, zpok, zis', zlok, zlv', zls', zbok, zrok, zrv', zrs', zaok, zan, zcok, zcs', zis, zgv, zgh, zcat, zw_1, zw_21, zw_at, zclr_int, zclr_ref, zclr_null, zclr_none, zclr_long, zclr_clr, zbv_0, zbv_1, zbv_ite, zbv_ite', Value.category, e1, tfnd]
  | c + 1, i, l2, hc => by
    rw [E_X8_find_h2]
    have e1 : ¬ (nI m ≤ nI i) := by rw [zle (by omega) (by omega)]; omega
    have e4 : zin (nI i) 31 = true := zin8 (by omega) (by omega)
    have e5 : (nI i).toNatClampNeg = i := zcl7 (by omega)
    have e7 : nI i + 1 = nI (i + 1) := nI_1 i
    simp [E_X8_find, hD, hk, zfok, zfv, zfs', ziok, ziv, zpok, zis', zlok, zlv', zls', zbok, zrok, zrv', zrs', zaok, zan, zcok, zcs', zis, zgv, zgh, zcat, zw_1, zw_21, zw_at, zclr_int, zclr_ref, zclr_null, zclr_none, zclr_long, zclr_clr, zbv_0, zbv_1, zbv_ite, zbv_ite', Value.category, e1, e4, e5, e7, lg_cmp_eq, tfnd]
    by_cases q : f i = x
    · simp [q]
    · simp [q]
      exact l_find hD hk hm c (i + 1) _ (by omega)
theorem s_find {l0 : Int32} (hD : h.2.2 a = .inr (7, [.ref k, .int (nI m), .int l0])) (hk : h.2.2 k = .inl (1, 31, .inr (.inl f))) (hm : m ≤ 31) : zC 19 [.ref a, .long x] h = some (some (.int (tfnd f x m 0)), h) := by
  have := l_find (x := x) hD hk hm m 0 none (by omega)
  simp only [I_X8_find, E_X8_find, zclr_none]
  exact this
end TOPK2
