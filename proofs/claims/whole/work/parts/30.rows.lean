/-! the 128 rows of keys, and the searches over them -/
abbrev rS : Type := Nat → Nat × tS
def zrc (R : rS) (a : Nat) : zA := if a % 2 = 1 then .inr (7, [.ref (a + 1), .int (nI (R ((a - 9) / 2)).2.1), .int (nI (R ((a - 9) / 2)).1)]) else .inl (1, 31, .inr (.inl (R ((a - 9) / 2)).2.2))
def zrh (h : zH) (R : rS) : zH := (h.1, h.2.1, fun a => if 9 ≤ a ∧ a < 265 then zrc R a else h.2.2 a)
def rset (R : rS) (i lim : Nat) (S : tS) : rS := fun j => if j = i then (lim, S) else R j
section ROWS
variable {h : zH} {R : rS} {i : Nat}
theorem zrh_1 : (zrh h R).1 = h.1 := rfl
theorem zrh_21 : (zrh h R).2.1 = h.2.1 := rfl
theorem zrh_a (hi : i < 128) : (zrh h R).2.2 (9 + 2 * i) = .inr (7, [.ref (10 + 2 * i), .int (nI (R i).2.1), .int (nI (R i).1)]) := by
  show (if 9 ≤ 9 + 2 * i ∧ 9 + 2 * i < 265 then zrc R (9 + 2 * i) else _) = _
  rw [if_pos (by omega)]
  unfold zrc
  rw [if_pos (by omega), show (9 + 2 * i - 9) / 2 = i by omega, show 9 + 2 * i + 1 = 10 + 2 * i by omega]
theorem zrh_k (hi : i < 128) : (zrh h R).2.2 (10 + 2 * i) = .inl (1, 31, .inr (.inl (R i).2.2)) := by
  show (if 9 ≤ 10 + 2 * i ∧ 10 + 2 * i < 265 then zrc R (10 + 2 * i) else _) = _
  rw [if_pos (by omega)]
  unfold zrc
  rw [if_neg (by omega), show (10 + 2 * i - 9) / 2 = i by omega]
theorem zrh_o {a : Nat} (ha : a < 9 ∨ 265 ≤ a) : (zrh h R).2.2 a = h.2.2 a := by
  show (if 9 ≤ a ∧ a < 265 then zrc R a else _) = _
  rw [if_neg (by omega)]
theorem zrh_set {lim : Nat} {S : tS} (hi : i < 128) : thp (zrh h R) (9 + 2 * i) (10 + 2 * i) lim S = zrh h (rset R i lim S) := by
  unfold thp zw zup zrh
  dsimp only
  congr 2
  funext a
  by_cases e1 : a = 10 + 2 * i
  · subst e1
    rw [if_pos rfl, if_pos (by omega)]
    unfold zrc rset
    rw [if_neg (by omega), show (10 + 2 * i - 9) / 2 = i by omega, if_pos rfl]
  · rw [if_neg e1]
    by_cases e2 : a = 9 + 2 * i
    · subst e2
      rw [if_pos rfl, if_pos (by omega)]
      unfold zrc rset
      rw [if_pos (by omega), show (9 + 2 * i - 9) / 2 = i by omega, if_pos rfl, show 9 + 2 * i + 1 = 10 + 2 * i by omega]
    · rw [if_neg e2]
      by_cases e3 : 9 ≤ a ∧ a < 265
      · rw [if_pos e3, if_pos e3]
        unfold zrc rset
        rw [if_neg (show ¬ (a - 9) / 2 = i by omega)]
      · rw [if_neg e3, if_neg e3]
theorem zrh_res {lim : Nat} (hi : i < 128) : zw (zrh h R) (9 + 2 * i) (.inr (7, [.ref (10 + 2 * i), .int (nI 0), .int (nI lim)])) = zrh h (rset R i lim (0, (R i).2.2)) := by
  rw [← zrh_set hi]
  unfold thp
  rw [zw_id (zw _ _ _)]
  rw [zw_at, if_neg (by omega), zrh_k hi]
theorem rset_s {lim : Nat} {S : tS} : rset R i lim S i = (lim, S) := by
  unfold rset
  rw [if_pos rfl]
theorem rset_o {lim : Nat} {S : tS} {j : Nat} (hj : j ≠ i) : rset R i lim S j = R j := by
  unfold rset
  rw [if_neg hj]
theorem rset_rset {l1 l2 : Nat} {S T : tS} : rset (rset R i l1 S) i l2 T = rset R i l2 T := by
  funext j
  unfold rset
  split <;> rfl
/-- all rows are within their bounds -/
def rok (R : rS) : Prop := ∀ i, (R i).2.1 ≤ (R i).1 ∧ 1 ≤ (R i).1 ∧ (R i).1 ≤ 31
theorem rok_set {lim : Nat} {S : tS} (hR : rok R) (h1 : S.1 ≤ lim) (h2 : 1 ≤ lim) (h3 : lim ≤ 31) : rok (rset R i lim S) := by
  intro j
  by_cases e : j = i
  · subst e; rw [rset_s]; exact ⟨h1, h2, h3⟩
  · rw [rset_o e]; exact hR j
/-- a heap with rows is one that is made of them -/
theorem zrh_id (hR : ∀ i, i < 128 → h.2.2 (9 + 2 * i) = .inr (7, [.ref (10 + 2 * i), .int (nI (R i).2.1), .int (nI (R i).1)]) ∧ h.2.2 (10 + 2 * i) = .inl (1, 31, .inr (.inl (R i).2.2))) : zrh h R = h := by
  obtain ⟨h1, h2, h3⟩ := h
  unfold zrh
  dsimp only at *
  congr 2
  funext a
  by_cases e : 9 ≤ a ∧ a < 265
  · rw [if_pos e]
    unfold zrc
    have q := hR ((a - 9) / 2) (by omega)
    by_cases e1 : a % 2 = 1
    · rw [if_pos e1]
      have : 9 + 2 * ((a - 9) / 2) = a := by omega
      rw [this] at q
      rw [q.1]
      rw [show 10 + 2 * ((a - 9) / 2) = a + 1 by omega]
    · rw [if_neg e1]
      have : 10 + 2 * ((a - 9) / 2) = a := by omega
      rw [this] at q
      rw [q.2]
  · rw [if_neg e]
end ROWS
section ROWS2
variable {h : zH} {R : rS} {i : Nat} {N oa os mx sp mw o w b : Nat} {fb : Nat → Nat} {wt : Nat → Int32} {rf : Nat → Option Nat}
theorem s_span (hA : h.2.2 os = .inr (5, [.ref 8, .ref sp, .ref mw])) (hr : h.2.2 8 = .inl (3, 128, .inr (.inr (.inr (.inr rf))))) (hrf : ∀ i, i < 128 → rf i = some (9 + 2 * i)) {p d : Nat} (hp : p ≤ 7) (hd : d ≤ 7) : zC 61 [.ref os, .int (nI p), .int (nI d)] h = some (some (.ref (9 + 2 * (8 * p + d))), h) := by
  have e1 := s_cell6 (h := h) (p := p) (d := d) (by omega) (by omega)
  have e2 : zin (nI (8 * p + d)) 128 = true := zin8 (by omega) (by omega)
  have e3 : (nI (8 * p + d)).toNatClampNeg = 8 * p + d := zcl7 (by omega)
  have e4 := hrf (8 * p + d) (by omega)
  simp [I_X6_span, E_X6_span, hA, hr, zfok, zfv, zfs', ziok, ziv, zpok, zis', zlok, zlv', zls', zbok, zrok, zrv', zrs', zaok, zan, zcok, zcs', zis, zgv, zgh, zcat, zw_1, zw_21, zw_at, zclr_int, zclr_ref, zclr_null, zclr_none, zclr_long, zclr_clr, zbv_0, zbv_1, zbv_ite, zbv_ite', Value.category, e1, e2, e3, e4, va_rf]
theorem s_meeting (hA : h.2.2 os = .inr (5, [.ref 8, .ref sp, .ref mw])) (hr : h.2.2 8 = .inl (3, 128, .inr (.inr (.inr (.inr rf))))) (hrf : ∀ i, i < 128 → rf i = some (9 + 2 * i)) {p d : Nat} (hp : p ≤ 7) (hd : d ≤ 7) : zC 100 [.ref os, .int (nI p), .int (nI d)] h = some (some (.ref (9 + 2 * (64 + zmc p d))), h) := by
  have e1 := s_meetingCell (h := h) (a := p) (b := d) (by omega) (by omega)
  have hz : zmc p d < 64 := by unfold zmc; omega
  have e0 : 64 + nI (zmc p d) = nI (64 + zmc p d) := nI_add 64 _
  have e2 : zin (nI (64 + zmc p d)) 128 = true := zin8 (by omega) (by omega)
  have e3 : (nI (64 + zmc p d)).toNatClampNeg = 64 + zmc p d := zcl7 (by omega)
  have e4 := hrf (64 + zmc p d) (by omega)
  simp [I_X6_meeting, E_X6_meeting, hA, hr, zfok, zfv, zfs', ziok, ziv, zpok, zis', zlok, zlv', zls', zbok, zrok, zrv', zrs', zaok, zan, zcok, zcs', zis, zgv, zgh, zcat, zw_1, zw_21, zw_at, zclr_int, zclr_ref, zclr_null, zclr_none, zclr_long, zclr_clr, zbv_0, zbv_1, zbv_ite, zbv_ite', Value.category, e0, e1, e2, e3, e4, va_rf]
/-- heads taken from a key -/
def zdg (z : Int) (d : Nat) : Nat := ((-z / 2 ^ (3 * (7 - d))) % 8).toNat
def ztk (z : Int) : Nat → Nat → (Nat → Nat) → (Nat → Nat)
  | 0, _, f => f
  | c + 1, d, f => ztk z c (d + 1) (zupd f d (zdg z d))
theorem l_takeHeads {t q : Nat} {z : Int} (hN : N ≤ 7) (n1 : o ≠ q) (h1 : -2305843009213693952 ≤ z) (h2 : z < 2305843009213693952) : ∀ (c d : Nat) (h : zH) (hd : Nat → Nat) (l2 : Option Value), c + d = N + 1 → 1 ≤ d → h.2.2 o = .inr (3, [.ref t, .ref q, .int (nI N)]) → h.2.2 q = .inl (0, 8, .inl (fun d => nI (hd d))) →
    zD 91 2 [some (.ref o), some (.long (lZ z)), l2, some (.int (nI d))] [] h = some (none, zw h q (.inl (0, 8, .inl (fun e => nI (ztk z c d hd e)))))
  | 0, d, h, hd, l2, hs, hd1, hD, hq => by
    rw [E_X3_takeHeads_h2]
    have e1 : nI N < nI d := by rw [zlt (by omega) (by omega)]; omega
    simp [E_X3_takeHeads, hD, zfok, zfv, zfs', ziok, ziv, zpok, zis', zlok, zlv', zls', zbok, zrok, zrv', zrs', zaok, zan, zcok, zcs', zis, zgv, zgh, zcat, zw_1, zw_21, zw_at, zclr_int, zclr_ref, zclr_null, zclr_none, zclr_long, zclr_clr, zbv_0, zbv_1, zbv_ite, zbv_ite', Value.category, e1, ztk, zw_id h hq]
  | c + 1, d, h, hd, l2, hs, hd1, hD, hq => by
    rw [E_X3_takeHeads_h2]
    have e1 : ¬ nI N < nI d := by rw [zlt (by omega) (by omega)]; omega
    have e2 := s_headIn (h := h) (z := z) (d := d) (by omega) h1 h2
    have e3 : zin (nI d) 8 = true := zin8 (by omega) (by omega)
    have e4 : (nI d).toNatClampNeg = d := zcl7 (by omega)
    have e5 : nI d + 1 = nI (d + 1) := nI_1 d
    have k1 := l_takeHeads hN n1 h1 h2 c (d + 1) (zw h q (.inl (0, 8, .inl (fun e => nI (zupd hd d (zdg z d) e))))) (zupd hd d (zdg z d)) (zclr l2) (by omega) (by omega) (by rw [zw_at, if_neg n1]; exact hD) (by rw [zw_at, if_pos rfl])
    rw [zw_w] at k1
    have e6 := z_updN hd d (zdg z d)
    unfold zdg at e6
    simp [E_X3_takeHeads, hD, hq, zfok, zfv, zfs', ziok, ziv, zpok, zis', zlok, zlv', zls', zbok, zrok, zrv', zrs', zaok, zan, zcok, zcs', zis, zgv, zgh, zcat, zw_1, zw_21, zw_at, zclr_int, zclr_ref, zclr_null, zclr_none, zclr_long, zclr_clr, zbv_0, zbv_1, zbv_ite, zbv_ite', Value.category, e1, e2, e3, e4, e5, e6]
    exact k1
theorem s_takeHeads {t q : Nat} {z : Int} {hd : Nat → Nat} (hN : N ≤ 7) (n1 : o ≠ q) (h1 : -2305843009213693952 ≤ z) (h2 : z < 2305843009213693952) (hD : h.2.2 o = .inr (3, [.ref t, .ref q, .int (nI N)])) (hq : h.2.2 q = .inl (0, 8, .inl (fun d => nI (hd d)))) :
    zC 91 [.ref o, .long (lZ z)] h = some (none, zw h q (.inl (0, 8, .inl (fun e => nI (ztk z N 1 hd e))))) := by
  have := l_takeHeads hN n1 h1 h2 N 1 h hd none (by omega) (by omega) hD hq
  simp only [I_X3_takeHeads, E_X3_takeHeads, zclr_none]
  exact this
/-- a set without one of its words -/
def zwo (st d : Nat) : Nat := if st.testBit (d - 1) = true then st - 2 ^ (d - 1) else st
theorem zwo8 : ∀ st, st < 128 → ∀ d, d < 8 → 1 ≤ d → (nI st &&& (((1 : Int32) <<< ((nI d - 1) &&& 31)) ^^^ -1)) = nI (zwo st d) ∧ zwo st d < 128 ∧ (st.testBit (d - 1) = true → zwo st d < st) := by decide +kernel
theorem zpl8 : ∀ r, r < 128 → (((nI r <<< ((1 : Int32) &&& 31)) ||| 1) = nI (2 * r + 1)) := by decide +kernel
theorem zstb : ∀ st, st < 128 → ∀ d, d < 8 → 1 ≤ d → (((nI st >>> ((nI d - 1) &&& 31)) &&& 1) = 0 ↔ st.testBit (d - 1) = false) := by decide +kernel
theorem zwh8 : ∀ n, n < 8 → ((1 : Int32) <<< (nI n &&& 31)) - 1 = nI (2 ^ n - 1) ∧ 2 ^ n - 1 < 128 := by decide +kernel
/-- d is hung last: p from there on -/
def ahl (fb : Nat → Nat) (wt : Nat → Int32) (st d : Nat) : Nat → Nat → rS → rS
  | 0, _, R => R
  | c + 1, p, R => ahl fb wt st d c (p + 1) (if (2 * zwo st d + 1).testBit p = true ∧ fb (8 * d + p) = 0 then rset R st (R st).1 (tsome (R st).1 (R (zwo st d)).2.2 (lZ (zka (wt (8 * d + p)).toInt p d)) (min (R (zwo st d)).2.1 31) 0 (R st).2).2 else R)
theorem ahl_ok {st d : Nat} : ∀ (c p : Nat) (R : rS), rok R → rok (ahl fb wt st d c p R) ∧ (ahl fb wt st d c p R st).1 = (R st).1
  | 0, _, R, hR => ⟨hR, rfl⟩
  | c + 1, p, R, hR => by
    unfold ahl
    split
    · have h1 := ahl_ok (st := st) (d := d) c (p + 1) _ (rok_set (R := R) (i := st) (lim := (R st).1) (S := (tsome (R st).1 (R (zwo st d)).2.2 (lZ (zka (wt (8 * d + p)).toInt p d)) (min (R (zwo st d)).2.1 31) 0 (R st).2).2) hR (tsome_le _ _ _ (hR st).1) (hR st).2.1 (hR st).2.2)
      refine ⟨h1.1, ?_⟩
      rw [h1.2, rset_s]
    · exact ahl_ok c (p + 1) R hR
theorem l_hang (hf : ∀ k, fb k ≤ 1) (hA : h.2.2 oa = .inr (0, [.ref 8, .ref mx])) (hr : h.2.2 8 = .inl (3, 128, .inr (.inr (.inr (.inr rf))))) (hrf : ∀ i, i < 128 → rf i = some (9 + 2 * i)) (hD : h.2.2 o = .inr (2, [.ref w, .ref b])) (hb : h.2.2 b = .inl (0, 64, .inl (fun k => nI (fb k)))) (hw : h.2.2 w = .inl (0, 64, .inl wt)) (oA : oa < 9 ∨ 265 ≤ oa) (oD : o < 9 ∨ 265 ≤ o) (oB : b < 9 ∨ 265 ≤ b) (oW : w < 9 ∨ 265 ≤ w) {st d : Nat} (hst : st < 128) (h1 : 1 ≤ d) (h7 : d ≤ 7) (hb1 : st.testBit (d - 1) = true) :
    ∀ (c p : Nat) (R : rS), c + p = 8 → rok R → zD 126 22 [some (.ref oa), some (.ref o), some (.int (nI st)), some (.int (nI d)), some (.int (nI (zwo st d))), some (.int (nI (2 * zwo st d + 1))), some (.int (nI p))] [] (zrh h R) = some (none, zrh h (ahl fb wt st d c p R))
  | 0, p, R, hs, hR => by
    rw [E_X0_hangLast_h22]
    have e1 : (8 : Int32) ≤ nI p := by
      have : (8 : Int32) = nI 8 := rfl
      rw [this, zle (by omega) (by omega)]; omega
    simp [E_X0_hangLast, zfok, zfv, zfs', ziok, ziv, zpok, zis', zlok, zlv', zls', zbok, zrok, zrv', zrs', zaok, zan, zcok, zcs', zis, zgv, zgh, zcat, zw_1, zw_21, zw_at, zclr_int, zclr_ref, zclr_null, zclr_none, zclr_long, zclr_clr, zbv_0, zbv_1, zbv_ite, zbv_ite', Value.category, e1, ahl]
  | c + 1, p, R, hs, hR => by
    rw [E_X0_hangLast_h22]
    have e1 : ¬ (8 : Int32) ≤ nI p := by
      have : (8 : Int32) = nI 8 := rfl
      rw [this, zle (by omega) (by omega)]; omega
    have z1 := zwo8 st hst d (by omega) h1
    have z2 := z1.2.2 hb1
    have e2 := zshr8 (2 * zwo st d + 1) (by omega) p (by omega)
    have e3 := s_allow (h := zrh h R) (o := o) (w := w) (b := b) (by rw [zrh_o oD]; exact hD) (by rw [zrh_o oB]; exact hb) hf (p := p) (d := d) (by omega) h7
    have e4 := s_key (h := zrh h R) (o := o) (w := w) (b := b) (wt := wt) (by rw [zrh_o oD]; exact hD) (by rw [zrh_o oW]; exact hw) (p := p) (d := d) (by omega) h7
    have e5 := s_offerSome (h := zrh h R) (a := 9 + 2 * st) (k := 10 + 2 * st) (b := 9 + 2 * zwo st d) (kb := 10 + 2 * zwo st d) (lim := (R st).1) (n2 := (R (zwo st d)).2.1) (mo := 31) (S := (R st).2) (g := (R (zwo st d)).2.2) (y := lZ (zka (wt (8 * d + p)).toInt p d)) (by omega) (hR st).2.1 (hR st).2.2 (by have := hR (zwo st d); omega) (by omega) (by omega) (by omega) (by omega) (by omega) (hR st).1 (zrh_a hst) (zrh_k hst) (zrh_a z1.2.1) (zrh_k z1.2.1)
    rw [zrh_set hst] at e5
    have e6 : zin (nI st) 128 = true := zin8 (by omega) (by omega)
    have e7 : (nI st).toNatClampNeg = st := zcl7 (by omega)
    have e8 : zin (nI (zwo st d)) 128 = true := zin8 (by omega) (by omega)
    have e9 : (nI (zwo st d)).toNatClampNeg = zwo st d := zcl7 (by omega)
    have f1 : (zrh h R).2.2 oa = .inr (0, [.ref 8, .ref mx]) := by rw [zrh_o oA]; exact hA
    have f2 : (zrh h R).2.2 8 = .inl (3, 128, .inr (.inr (.inr (.inr rf)))) := by rw [zrh_o (by omega)]; exact hr
    have f3 := hrf st hst
    have f4 := hrf (zwo st d) z1.2.1
    have f5 : nI p + 1 = nI (p + 1) := nI_1 p
    rw [show (nI 31) = 31 from rfl] at e5
    have f6 : (zrh h R).2.2 o = .inr (2, [.ref w, .ref b]) := by rw [zrh_o oD]; exact hD
    have f7 := zrh_a (h := h) (R := R) hst
    simp [E_X0_hangLast, zfok, zfv, zfs', ziok, ziv, zpok, zis', zlok, zlv', zls', zbok, zrok, zrv', zrs', zaok, zan, zcok, zcs', zis, zgv, zgh, zcat, zw_1, zw_21, zw_at, zclr_int, zclr_ref, zclr_null, zclr_none, zclr_long, zclr_clr, zbv_0, zbv_1, zbv_ite, zbv_ite', Value.category, e1, e2, e3, e4, e5, e6, e7, e8, e9, f1, f2, f3, f4, f5, f6, f7, va_rf, ahl, zb01]
    by_cases q1 : (2 * zwo st d + 1).testBit p = true
    · by_cases q2 : fb (8 * d + p) = 0
      · simp [q1, q2]
        exact l_hang hf hA hr hrf hD hb hw oA oD oB oW hst h1 h7 hb1 c (p + 1) _ (by omega) (rok_set hR (tsome_le _ _ _ (hR st).1) (hR st).2.1 (hR st).2.2)
      · simp [q1, q2]
        exact l_hang hf hA hr hrf hD hb hw oA oD oB oW hst h1 h7 hb1 c (p + 1) _ (by omega) hR
    · simp [q1]
      exact l_hang hf hA hr hrf hD hb hw oA oD oB oW hst h1 h7 hb1 c (p + 1) _ (by omega) hR
theorem s_hangLast (hf : ∀ k, fb k ≤ 1) (hA : h.2.2 oa = .inr (0, [.ref 8, .ref mx])) (hr : h.2.2 8 = .inl (3, 128, .inr (.inr (.inr (.inr rf))))) (hrf : ∀ i, i < 128 → rf i = some (9 + 2 * i)) (hD : h.2.2 o = .inr (2, [.ref w, .ref b])) (hb : h.2.2 b = .inl (0, 64, .inl (fun k => nI (fb k)))) (hw : h.2.2 w = .inl (0, 64, .inl wt)) (oA : oa < 9 ∨ 265 ≤ oa) (oD : o < 9 ∨ 265 ≤ o) (oB : b < 9 ∨ 265 ≤ b) (oW : w < 9 ∨ 265 ≤ w) {st d : Nat} (hst : st < 128) (h1 : 1 ≤ d) (h7 : d ≤ 7) (hb1 : st.testBit (d - 1) = true) {R : rS} (hR : rok R) : zC 126 [.ref oa, .ref o, .int (nI st), .int (nI d)] (zrh h R) = some (none, zrh h (ahl fb wt st d 8 0 R)) := by
  have := l_hang hf hA hr hrf hD hb hw oA oD oB oW hst h1 h7 hb1 8 0 R (by omega) hR
  have z1 := zwo8 st hst d (by omega) h1
  have z2 := zpl8 _ z1.2.1
  rw [nI_0] at this
  simp only [I_X0_hangLast, E_X0_hangLast, zclr_none, z1.1, z2]
  exact this
/-- the sets, one after the other -/
def afw (fb : Nat → Nat) (wt : Nat → Int32) (st : Nat) : Nat → Nat → rS → rS
  | 0, _, R => R
  | c + 1, d, R => afw fb wt st c (d + 1) (if st.testBit (d - 1) = true then ahl fb wt st d 8 0 R else R)
def afs (fb : Nat → Nat) (wt : Nat → Int32) (N lim : Nat) : Nat → Nat → rS → rS
  | 0, _, R => R
  | c + 1, st, R => afs fb wt N lim c (st + 1) (afw fb wt st N 1 (rset R st lim (0, (R st).2.2)))
def afr (fb : Nat → Nat) (wt : Nat → Int32) (N lim : Nat) (R : rS) : rS := afs fb wt N lim (2 ^ N - 1) 1 (rset R 0 lim (toff lim (0, (R 0).2.2) 0).2)
theorem afw_ok {st : Nat} : ∀ (c d : Nat) (R : rS), rok R → rok (afw fb wt st c d R)
  | 0, _, R, hR => hR
  | c + 1, d, R, hR => by
    unfold afw
    split
    · exact afw_ok c _ _ (ahl_ok _ _ _ hR).1
    · exact afw_ok c _ _ hR
theorem afs_ok {lim : Nat} (h1 : 1 ≤ lim) (h2 : lim ≤ 31) : ∀ (c st : Nat) (R : rS), rok R → rok (afs fb wt N lim c st R)
  | 0, _, R, hR => hR
  | c + 1, st, R, hR => by
    unfold afs
    exact afs_ok h1 h2 c _ _ (afw_ok _ _ _ (rok_set hR (Nat.zero_le _) h1 h2))
section AFIRST
theorem l_af2 (hN : N ≤ 7) (hN1 : 1 ≤ N) (hf : ∀ k, fb k ≤ 1) (hA : h.2.2 oa = .inr (0, [.ref 8, .ref mx])) (hr : h.2.2 8 = .inl (3, 128, .inr (.inr (.inr (.inr rf))))) (hrf : ∀ i, i < 128 → rf i = some (9 + 2 * i)) (hD : h.2.2 o = .inr (2, [.ref w, .ref b])) (hb : h.2.2 b = .inl (0, 64, .inl (fun k => nI (fb k)))) (hw : h.2.2 w = .inl (0, 64, .inl wt)) (oA : oa < 9 ∨ 265 ≤ oa) (oD : o < 9 ∨ 265 ≤ o) (oB : b < 9 ∨ 265 ≤ b) (oW : w < 9 ∨ 265 ≤ w) {lim : Nat} (hl1 : 1 ≤ lim) (hl2 : lim ≤ 31) {st : Nat} (hst : st < 128) : ∀ (c d : Nat) (R : rS), c + d = N + 1 → 1 ≤ d → rok R → ∃ l6, zD 150 41 [some (.ref oa), some (.ref o), some (.int (nI N)), some (.int (nI lim)), some (.int (nI (2 ^ N - 1))), some (.int (nI st)), some (.int (nI d))] [] (zrh h R) = zD 150 20 [some (.ref oa), some (.ref o), some (.int (nI N)), some (.int (nI lim)), some (.int (nI (2 ^ N - 1))), some (.int (nI (st + 1))), l6] [] (zrh h (afw fb wt st c d R))
  | 0, d, R, hs, hd1, hR => by
    refine ⟨some (.int (nI d)), ?_⟩
    rw [E_X0_first_h41]
    have e1 : nI N < nI d := by rw [zlt (by omega) (by omega)]; omega
    have e2 : nI st + 1 = nI (st + 1) := nI_1 st
    simp [E_X0_first, zfok, zfv, zfs', ziok, ziv, zpok, zis', zlok, zlv', zls', zbok, zrok, zrv', zrs', zaok, zan, zcok, zcs', zis, zgv, zgh, zcat, zw_1, zw_21, zw_at, zclr_int, zclr_ref, zclr_null, zclr_none, zclr_long, zclr_clr, zbv_0, zbv_1, zbv_ite, zbv_ite', Value.category, e1, e2, afw]
  | c + 1, d, R, hs, hd1, hR => by
    have e1 : ¬ nI N < nI d := by rw [zlt (by omega) (by omega)]; omega
    have e2 := zstb st hst d (by omega) hd1
    have e5 : nI d + 1 = nI (d + 1) := nI_1 d
    by_cases q : st.testBit (d - 1) = true
    · obtain ⟨l6, k1⟩ := l_af2 hN hN1 hf hA hr hrf hD hb hw oA oD oB oW hl1 hl2 hst c (d + 1) _ (by omega) (by omega) (ahl_ok (fb := fb) (wt := wt) (st := st) (d := d) 8 0 R hR).1
      refine ⟨l6, ?_⟩
      rw [E_X0_first_h41]
      have e3 := s_hangLast hf hA hr hrf hD hb hw oA oD oB oW hst hd1 (by omega : d ≤ 7) q hR
      have f1 : (zrh h R).2.2 oa = .inr (0, [.ref 8, .ref mx]) := by rw [zrh_o oA]; exact hA
      simp [E_X0_first, zfok, zfv, zfs', ziok, ziv, zpok, zis', zlok, zlv', zls', zbok, zrok, zrv', zrs', zaok, zan, zcok, zcs', zis, zgv, zgh, zcat, zw_1, zw_21, zw_at, zclr_int, zclr_ref, zclr_null, zclr_none, zclr_long, zclr_clr, zbv_0, zbv_1, zbv_ite, zbv_ite', Value.category, e1, e2, e3, e5, f1, q, afw]
      exact k1
    · obtain ⟨l6, k1⟩ := l_af2 hN hN1 hf hA hr hrf hD hb hw oA oD oB oW hl1 hl2 hst c (d + 1) R (by omega) (by omega) hR
      refine ⟨l6, ?_⟩
      rw [E_X0_first_h41]
      simp [E_X0_first, zfok, zfv, zfs', ziok, ziv, zpok, zis', zlok, zlv', zls', zbok, zrok, zrv', zrs', zaok, zan, zcok, zcs', zis, zgv, zgh, zcat, zw_1, zw_21, zw_at, zclr_int, zclr_ref, zclr_null, zclr_none, zclr_long, zclr_clr, zbv_0, zbv_1, zbv_ite, zbv_ite', Value.category, e1, e2, e5, q, afw]
      exact k1
theorem l_af1 (hN : N ≤ 7) (hN1 : 1 ≤ N) (hf : ∀ k, fb k ≤ 1) (hA : h.2.2 oa = .inr (0, [.ref 8, .ref mx])) (hr : h.2.2 8 = .inl (3, 128, .inr (.inr (.inr (.inr rf))))) (hrf : ∀ i, i < 128 → rf i = some (9 + 2 * i)) (hD : h.2.2 o = .inr (2, [.ref w, .ref b])) (hb : h.2.2 b = .inl (0, 64, .inl (fun k => nI (fb k)))) (hw : h.2.2 w = .inl (0, 64, .inl wt)) (oA : oa < 9 ∨ 265 ≤ oa) (oD : o < 9 ∨ 265 ≤ o) (oB : b < 9 ∨ 265 ≤ b) (oW : w < 9 ∨ 265 ≤ w) {lim : Nat} (hl1 : 1 ≤ lim) (hl2 : lim ≤ 31) : ∀ (c st : Nat) (R : rS) (l6 : Option Value), c + st = 2 ^ N → 1 ≤ st → rok R → zD 150 20 [some (.ref oa), some (.ref o), some (.int (nI N)), some (.int (nI lim)), some (.int (nI (2 ^ N - 1))), some (.int (nI st)), l6] [] (zrh h R) = some (some (.ref (9 + 2 * (2 ^ N - 1))), zrh h (afs fb wt N lim c st R))
  | 0, st, R, l6, hs, h1, hR => by
    rw [E_X0_first_h20]
    have z1 := (zwh8 N (by omega)).2
    have e1 : nI (2 ^ N - 1) < nI st := by rw [zlt (by omega) (by omega)]; omega
    have f1 : (zrh h R).2.2 oa = .inr (0, [.ref 8, .ref mx]) := by rw [zrh_o oA]; exact hA
    have f2 : (zrh h R).2.2 8 = .inl (3, 128, .inr (.inr (.inr (.inr rf)))) := by rw [zrh_o (by omega)]; exact hr
    have f3 := hrf (2 ^ N - 1) z1
    have e6 : zin (nI (2 ^ N - 1)) 128 = true := zin8 (by omega) (by omega)
    have e7 : (nI (2 ^ N - 1)).toNatClampNeg = 2 ^ N - 1 := zcl7 (by omega)
    simp [E_X0_first, zfok, zfv, zfs', ziok, ziv, zpok, zis', zlok, zlv', zls', zbok, zrok, zrv', zrs', zaok, zan, zcok, zcs', zis, zgv, zgh, zcat, zw_1, zw_21, zw_at, zclr_int, zclr_ref, zclr_null, zclr_none, zclr_long, zclr_clr, zbv_0, zbv_1, zbv_ite, zbv_ite', Value.category, e1, f1, f2, f3, e6, e7, va_rf, afs]
  | c + 1, st, R, l6, hs, h1, hR => by
    have z1 := (zwh8 N (by omega)).2
    have hst : st < 128 := by omega
    have e1 : ¬ nI (2 ^ N - 1) < nI st := by rw [zlt (by omega) (by omega)]; omega
    have f1 : (zrh h R).2.2 oa = .inr (0, [.ref 8, .ref mx]) := by rw [zrh_o oA]; exact hA
    have f2 : (zrh h R).2.2 8 = .inl (3, 128, .inr (.inr (.inr (.inr rf)))) := by rw [zrh_o (by omega)]; exact hr
    have f3 := hrf st hst
    have e6 : zin (nI st) 128 = true := zin8 (by omega) (by omega)
    have e7 : (nI st).toNatClampNeg = st := zcl7 (by omega)
    have e2 := s_trestartN (h := zrh h R) (n := lim) (zrh_a hst) hl1 hl2
    rw [zrh_res hst] at e2
    have r1 : rok (rset R st lim (0, (R st).2.2)) := rok_set hR (Nat.zero_le _) hl1 hl2
    obtain ⟨l6', k1⟩ := l_af2 hN hN1 hf hA hr hrf hD hb hw oA oD oB oW hl1 hl2 hst N 1 _ (by omega) (by omega) r1
    have k2 := l_af1 hN hN1 hf hA hr hrf hD hb hw oA oD oB oW hl1 hl2 c (st + 1) _ l6' (by omega) (by omega) (afw_ok (fb := fb) (wt := wt) (st := st) N 1 _ r1)
    rw [E_X0_first_h20]
    rw [show nI 1 = 1 from rfl] at k1
    have f7 := zrh_a (h := h) (R := R) hst
    simp [E_X0_first, zfok, zfv, zfs', ziok, ziv, zpok, zis', zlok, zlv', zls', zbok, zrok, zrv', zrs', zaok, zan, zcok, zcs', zis, zgv, zgh, zcat, zw_1, zw_21, zw_at, zclr_int, zclr_ref, zclr_null, zclr_none, zclr_long, zclr_clr, zbv_0, zbv_1, zbv_ite, zbv_ite', Value.category, e1, f1, f2, f3, e6, e7, e2, f7, va_rf]
    rw [k1, k2]
    rfl
theorem s_first0 (hN : N ≤ 7) (hN1 : 1 ≤ N) (hf : ∀ k, fb k ≤ 1) (hA : h.2.2 oa = .inr (0, [.ref 8, .ref mx])) (hr : h.2.2 8 = .inl (3, 128, .inr (.inr (.inr (.inr rf))))) (hrf : ∀ i, i < 128 → rf i = some (9 + 2 * i)) (hD : h.2.2 o = .inr (2, [.ref w, .ref b])) (hb : h.2.2 b = .inl (0, 64, .inl (fun k => nI (fb k)))) (hw : h.2.2 w = .inl (0, 64, .inl wt)) (oA : oa < 9 ∨ 265 ≤ oa) (oD : o < 9 ∨ 265 ≤ o) (oB : b < 9 ∨ 265 ≤ b) (oW : w < 9 ∨ 265 ≤ w) {lim : Nat} (hl1 : 1 ≤ lim) (hl2 : lim ≤ 31) {R : rS} (hR : rok R) : zC 150 [.ref oa, .ref o, .int (nI N), .int (nI lim)] (zrh h R) = some (some (.ref (9 + 2 * (2 ^ N - 1))), zrh h (afr fb wt N lim R)) := by
  have z1 := zwh8 N (by omega)
  have e2 := s_restartBare (h := zrh h R) (a := 9) (k := 10) (n := lim) (f := (R 0).2.2) (zrh_a (i := 0) (by omega)) (zrh_k (i := 0) (by omega)) (by omega) hl1 hl2
  rw [show thp (zrh h R) 9 10 lim _ = _ from zrh_set (i := 0) (by omega)] at e2
  have f1 : (zrh h R).2.2 oa = .inr (0, [.ref 8, .ref mx]) := by rw [zrh_o oA]; exact hA
  have f2 : (zrh h R).2.2 8 = .inl (3, 128, .inr (.inr (.inr (.inr rf)))) := by rw [zrh_o (by omega)]; exact hr
  have f3 := hrf 0 (by omega)
  have e6 : zin 0 128 = true := zin8 (k := 0) (by omega) (by omega)
  have r1 : rok (rset R 0 lim (toff lim (0, (R 0).2.2) 0).2) := rok_set hR (toff_le (Nat.zero_le _)) hl1 hl2
  have z2 : 2 ^ N - 1 + 1 = 2 ^ N := by have : 0 < 2 ^ N := Nat.two_pow_pos N; omega
  have k2 := l_af1 hN hN1 hf hA hr hrf hD hb hw oA oD oB oW hl1 hl2 (2 ^ N - 1) 1 _ none (by omega) (by omega) r1
  have f7 : (zrh h R).2.2 9 = _ := zrh_a (h := h) (R := R) (i := 0) (by omega)
  simp [I_X0_first, E_X0_first, zfok, zfv, zfs', ziok, ziv, zpok, zis', zlok, zlv', zls', zbok, zrok, zrv', zrs', zaok, zan, zcok, zcs', zis, zgv, zgh, zcat, zw_1, zw_21, zw_at, zclr_int, zclr_ref, zclr_null, zclr_none, zclr_long, zclr_clr, zbv_0, zbv_1, zbv_ite, zbv_ite', Value.category, z1.1, f1, f2, f3, e6, e2, f7, va_rf]
  exact k2
end AFIRST
end ROWS2
