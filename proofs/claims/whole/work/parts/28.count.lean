/-! AllTrees: counting -/
section CNT
variable {h : zH} {o r w b mx N oa : Nat} {fb : Nat → Nat} {G : Nat → Int64}
theorem s_cell0 {p d : Nat} (hp : p ≤ 100) (hd7 : d ≤ 100) : zC 0 [.int (nI p), .int (nI d)] h = some (some (.int (nI (8 * p + d))), h) := by
  have e1 : nI p * 8 + nI d = nI (8 * p + d) := by
    have : (8 : Int32) = nI 8 := rfl
    rw [this, pk_mul, nI_add, Nat.mul_comm]
  simp [I_X0_cell, E_X0_cell, zfok, zfv, zfs', ziok, ziv, zpok, zis', zlok, zlv', zls', zbok, zrok, zrv', zrs', zaok, zan, zcok, zcs', zis, zgv, zgh, zcat, zw_1, zw_21, zw_at, zclr_int, zclr_ref, zclr_null, zclr_none, zclr_long, zclr_clr, zbv_0, zbv_1, zbv_ite, zbv_ite', Value.category, e1]
theorem s_cell6 {p d : Nat} (hp : p ≤ 100) (hd7 : d ≤ 100) : zC 17 [.int (nI p), .int (nI d)] h = some (some (.int (nI (8 * p + d))), h) := by
  have e1 : nI p * 8 + nI d = nI (8 * p + d) := by
    have : (8 : Int32) = nI 8 := rfl
    rw [this, pk_mul, nI_add, Nat.mul_comm]
  simp [I_X6_cell, E_X6_cell, zfok, zfv, zfs', ziok, ziv, zpok, zis', zlok, zlv', zls', zbok, zrok, zrv', zrs', zaok, zan, zcok, zcs', zis, zgv, zgh, zcat, zw_1, zw_21, zw_at, zclr_int, zclr_ref, zclr_null, zclr_none, zclr_long, zclr_clr, zbv_0, zbv_1, zbv_ite, zbv_ite', Value.category, e1]
/-- is p a head for d? -/
def zisf (fb : Nat → Nat) (d p : Nat) : Bool := decide (p ≠ d) && decide (fb (8 * d + p) = 0)
/-- a row of the matrix: heads from p on, c of them -/
def zrow (fb : Nat → Nat) (d : Nat) : Nat → Nat → (Nat → Int64) → (Nat → Int64)
  | 0, _, G => G
  | c + 1, p, G => zrow fb d c (p + 1) (vp_updL G (8 * d + p) (if zisf fb d p = true then -1 else 0))
theorem l_fillRow (hN : N ≤ 7) (hf : ∀ k, fb k ≤ 1) {d : Nat} (hd7 : d ≤ 7) :
    ∀ (c p m : Nat) (h : zH) (G : Nat → Int64) (l6 : Option Value), c + p = N + 1 → m + c ≤ 100 → h.2.2 oa = .inr (0, [.ref r, .ref mx]) → h.2.2 mx = .inl (1, 64, .inr (.inl G)) → h.2.2 o = .inr (2, [.ref w, .ref b]) → h.2.2 b = .inl (0, 64, .inl (fun k => nI (fb k))) → oa ≠ mx → o ≠ mx → b ≠ mx →
      zD 87 6 [some (.ref oa), some (.ref o), some (.int (nI N)), some (.int (nI d)), some (.int (nI m)), some (.int (nI p)), l6] [] h = some (none, zw h mx (.inl (1, 64, .inr (.inl (vp_updL (zrow fb d c p G) (8 * d + d) (lN (m + zcnt (zisf fb d) c p)))))))
  | 0, p, m, h, G, l6, hs, hm, hA, hM, hD, hb, n1, n2, n3 => by
    rw [E_X0_fillRow_h6]
    have e1 : nI N < nI p := by rw [zlt (by omega) (by omega)]; omega
    have e2 := s_cell0 (h := h) (p := d) (d := d) (by omega) (by omega)
    have e3 : zin (nI (8 * d + d)) 64 = true := zin8 (by omega) (by omega)
    have e4 : (nI (8 * d + d)).toNatClampNeg = 8 * d + d := zcl7 (by omega)
    have e5 : (nI m).toInt64 = lN m := nI_l (by omega)
    simp [E_X0_fillRow, hA, hM, zfok, zfv, zfs', ziok, ziv, zpok, zis', zlok, zlv', zls', zbok, zrok, zrv', zrs', zaok, zan, zcok, zcs', zis, zgv, zgh, zcat, zw_1, zw_21, zw_at, zclr_int, zclr_ref, zclr_null, zclr_none, zclr_long, zclr_clr, zbv_0, zbv_1, zbv_ite, zbv_ite', Value.category, e1, e2, e3, e4, e5, zrow, zcnt]
  | c + 1, p, m, h, G, l6, hs, hm, hA, hM, hD, hb, n1, n2, n3 => by
    rw [E_X0_fillRow_h6]
    have e1 : ¬ nI N < nI p := by rw [zlt (by omega) (by omega)]; omega
    have e2 := s_cell0 (h := h) (p := d) (d := p) (by omega) (by omega)
    have e3 : zin (nI (8 * d + p)) 64 = true := zin8 (by omega) (by omega)
    have e4 : (nI (8 * d + p)).toNatClampNeg = 8 * d + p := zcl7 (by omega)
    have e5 := s_allow hD hb hf (p := p) (d := d) (by omega) (by omega)
    have e6 : (nI p = nI d) ↔ p = d := zeq (by omega) (by omega)
    have e7 : nI p + 1 = nI (p + 1) := nI_1 p
    have e8 : nI m + 1 = nI (m + 1) := nI_1 m
    have key := fun (m' : Nat) (v : Int64) (l : Option Value) (hm' : m' + c ≤ 100) => l_fillRow hN hf hd7 c (p + 1) m' (zw h mx (.inl (1, 64, .inr (.inl (vp_updL G (8 * d + p) v))))) (vp_updL G (8 * d + p) v) l (by omega) hm' (by rw [zw_at, if_neg n1]; exact hA) (by rw [zw_at, if_pos rfl]) (by rw [zw_at, if_neg n2]; exact hD) (by rw [zw_at, if_neg n3]; exact hb) n1 n2 n3
    simp [E_X0_fillRow, hA, hM, hD, zfok, zfv, zfs', ziok, ziv, zpok, zis', zlok, zlv', zls', zbok, zrok, zrv', zrs', zaok, zan, zcok, zcs', zis, zgv, zgh, zcat, zw_1, zw_21, zw_at, zclr_int, zclr_ref, zclr_null, zclr_none, zclr_long, zclr_clr, zbv_0, zbv_1, zbv_ite, zbv_ite', Value.category, e1, e2, e3, e4, e5, e6, e7, e8, zb01]
    by_cases c1 : p = d
    · have c2 : zisf fb d p = false := by simp [zisf, c1]
      simp [c1]
      subst c1
      rw [key m 0 _ (by omega), zw_w]
      simp [zrow, zcnt, c2]
    · by_cases c3 : fb (8 * d + p) = 0
      · have c2 : zisf fb d p = true := by simp [zisf, c1, c3]
        simp [c1, c3]
        rw [key (m + 1) (-1) _ (by omega), zw_w]
        simp [zrow, zcnt, c2, Nat.add_assoc]
      · have c2 : zisf fb d p = false := by simp [zisf, c3]
        simp [c1, c3]
        rw [key m 0 _ (by omega), zw_w]
        simp [zrow, zcnt, c2]
theorem s_fillRow (hN : N ≤ 7) (hf : ∀ k, fb k ≤ 1) {d : Nat} (hd7 : d ≤ 7) (hA : h.2.2 oa = .inr (0, [.ref r, .ref mx])) (hM : h.2.2 mx = .inl (1, 64, .inr (.inl G))) (hD : h.2.2 o = .inr (2, [.ref w, .ref b])) (hb : h.2.2 b = .inl (0, 64, .inl (fun k => nI (fb k)))) (n1 : oa ≠ mx) (n2 : o ≠ mx) (n3 : b ≠ mx) :
    zC 87 [.ref oa, .ref o, .int (nI N), .int (nI d)] h = some (none, zw h mx (.inl (1, 64, .inr (.inl (vp_updL (zrow fb d (N + 1) 0 G) (8 * d + d) (lN (zcnt (zisf fb d) (N + 1) 0))))))) := by
  have := l_fillRow hN hf hd7 (N + 1) 0 0 h G none rfl (by omega) hA hM hD hb n1 n2 n3
  rw [Nat.zero_add] at this
  simp only [I_X0_fillRow, E_X0_fillRow, zclr_int, zclr_none, zclr_ref]
  exact this
/-- one row's columns -/
def zec (p : Nat) (pv dv : Int64) (row : Nat) : Nat → Nat → (Nat → Int64) → (Nat → Int64)
  | 0, _, G => G
  | c + 1, j, G => zec p pv dv row c (j + 1) (vp_updL G (8 * row + j) ((G (8 * row + j) * pv - G (8 * row + p) * G (8 * p + j)) / dv))
def zer (N p : Nat) (pv dv : Int64) : Nat → Nat → (Nat → Int64) → (Nat → Int64)
  | 0, _, G => G
  | c + 1, row, G => zer N p pv dv c (row + 1) (zec p pv dv row (N - p) (p + 1) G)
theorem l_elim2 (hN : N ≤ 7) {p row : Nat} {pv dv : Int64} (hp : p ≤ N) (hr7 : row ≤ N) (hdv : ¬ dv = 0) (n1 : oa ≠ mx) :
    ∀ (c j : Nat) (h : zH) (G : Nat → Int64) (l9 l10 : Option Value), c + j = N + 1 → h.2.2 oa = .inr (0, [.ref r, .ref mx]) → h.2.2 mx = .inl (1, 64, .inr (.inl G)) →
      ∃ l9' l10', zD 43 24 [some (.ref oa), some (.int (nI N)), some (.int (nI p)), some (.long pv), none, some (.long dv), none, some (.int (nI row)), some (.int (nI j)), l9, l10] [] h = zD 43 13 [some (.ref oa), some (.int (nI N)), some (.int (nI p)), some (.long pv), none, some (.long dv), none, some (.int (nI (row + 1))), some (.int (nI (N + 1))), l9', l10'] [] (zw h mx (.inl (1, 64, .inr (.inl (zec p pv dv row c j G)))))
  | 0, j, h, G, l9, l10, hs, hA, hM => by
    refine ⟨l9, l10, ?_⟩
    rw [E_X0_eliminate_h24]
    have e1 : nI N < nI j := by rw [zlt (by omega) (by omega)]; omega
    obtain rfl : j = N + 1 := by omega
    have e7 : nI row + 1 = nI (row + 1) := nI_1 row
    simp [E_X0_eliminate, zfok, zfv, zfs', ziok, ziv, zpok, zis', zlok, zlv', zls', zbok, zrok, zrv', zrs', zaok, zan, zcok, zcs', zis, zgv, zgh, zcat, zw_1, zw_21, zw_at, zclr_int, zclr_ref, zclr_null, zclr_none, zclr_long, zclr_clr, zbv_0, zbv_1, zbv_ite, zbv_ite', Value.category, e1, e7, zec, zw_id h hM]
  | c + 1, j, h, G, l9, l10, hs, hA, hM => by
    obtain ⟨l9', l10', k1⟩ := l_elim2 hN hp hr7 hdv n1 c (j + 1) (zw h mx (.inl (1, 64, .inr (.inl (vp_updL G (8 * row + j) ((G (8 * row + j) * pv - G (8 * row + p) * G (8 * p + j)) / dv)))))) (vp_updL G (8 * row + j) ((G (8 * row + j) * pv - G (8 * row + p) * G (8 * p + j)) / dv)) (some (.long (G (8 * row + p) * G (8 * p + j)))) none (by omega) (by rw [zw_at, if_neg n1]; exact hA) (by rw [zw_at, if_pos rfl])
    refine ⟨l9', l10', ?_⟩
    rw [E_X0_eliminate_h24]
    have e1 : ¬ nI N < nI j := by rw [zlt (by omega) (by omega)]; omega
    have e2a := s_cell0 (h := h) (p := row) (d := p) (by omega) (by omega)
    have e3a : zin (nI (8 * row + p)) 64 = true := zin8 (by omega) (by omega)
    have e4a : (nI (8 * row + p)).toNatClampNeg = 8 * row + p := zcl7 (by omega)
    have e2b := s_cell0 (h := h) (p := p) (d := j) (by omega) (by omega)
    have e3b : zin (nI (8 * p + j)) 64 = true := zin8 (by omega) (by omega)
    have e4b : (nI (8 * p + j)).toNatClampNeg = 8 * p + j := zcl7 (by omega)
    have e2c := s_cell0 (h := h) (p := row) (d := j) (by omega) (by omega)
    have e3c : zin (nI (8 * row + j)) 64 = true := zin8 (by omega) (by omega)
    have e4c : (nI (8 * row + j)).toNatClampNeg = 8 * row + j := zcl7 (by omega)
    have e7 : nI j + 1 = nI (j + 1) := nI_1 j
    simp [E_X0_eliminate, hA, hM, zfok, zfv, zfs', ziok, ziv, zpok, zis', zlok, zlv', zls', zbok, zrok, zrv', zrs', zaok, zan, zcok, zcs', zis, zgv, zgh, zcat, zw_1, zw_21, zw_at, zclr_int, zclr_ref, zclr_null, zclr_none, zclr_long, zclr_clr, zbv_0, zbv_1, zbv_ite, zbv_ite', Value.category, e1, e2a, e3a, e4a, e2b, e3b, e4b, e2c, e3c, e4c, e7, hdv, zec]
    rw [k1, zw_w]
theorem l_elim (hN : N ≤ 7) {p : Nat} {pv dv : Int64} (hp : p ≤ N) (hdv : ¬ dv = 0) (n1 : oa ≠ mx) :
    ∀ (c row : Nat) (h : zH) (G : Nat → Int64) (l8 l9 l10 : Option Value), c + row = N + 1 → h.2.2 oa = .inr (0, [.ref r, .ref mx]) → h.2.2 mx = .inl (1, 64, .inr (.inl G)) →
      zD 43 13 [some (.ref oa), some (.int (nI N)), some (.int (nI p)), some (.long pv), none, some (.long dv), none, some (.int (nI row)), l8, l9, l10] [] h = some (none, zw h mx (.inl (1, 64, .inr (.inl (zer N p pv dv c row G)))))
  | 0, row, h, G, l8, l9, l10, hs, hA, hM => by
    rw [E_X0_eliminate_h13]
    have e1 : nI N < nI row := by rw [zlt (by omega) (by omega)]; omega
    simp [E_X0_eliminate, zfok, zfv, zfs', ziok, ziv, zpok, zis', zlok, zlv', zls', zbok, zrok, zrv', zrs', zaok, zan, zcok, zcs', zis, zgv, zgh, zcat, zw_1, zw_21, zw_at, zclr_int, zclr_ref, zclr_null, zclr_none, zclr_long, zclr_clr, zbv_0, zbv_1, zbv_ite, zbv_ite', Value.category, e1, zer, zw_id h hM]
  | c + 1, row, h, G, l8, l9, l10, hs, hA, hM => by
    obtain ⟨l9', l10', k1⟩ := l_elim2 hN hp (row := row) (pv := pv) (by omega) hdv n1 (N - p) (p + 1) h G l9 l10 (by omega) hA hM
    rw [E_X0_eliminate_h13]
    have e1 : ¬ nI N < nI row := by rw [zlt (by omega) (by omega)]; omega
    have e7 : nI p + 1 = nI (p + 1) := nI_1 p
    simp [E_X0_eliminate, zfok, zfv, zfs', ziok, ziv, zpok, zis', zlok, zlv', zls', zbok, zrok, zrv', zrs', zaok, zan, zcok, zcs', zis, zgv, zgh, zcat, zw_1, zw_21, zw_at, zclr_int, zclr_ref, zclr_null, zclr_none, zclr_long, zclr_clr, zbv_0, zbv_1, zbv_ite, zbv_ite', Value.category, e1, e7, zer]
    rw [k1, l_elim hN hp hdv n1 c (row + 1) _ (zec p pv dv row (N - p) (p + 1) G) _ _ _ (by omega) (by rw [zw_at, if_neg n1]; exact hA) (by rw [zw_at, if_pos rfl]), zw_w]
theorem s_eliminate (hN : N ≤ 7) {p : Nat} {pv dv : Int64} (hp : p ≤ N) (hdv : ¬ dv = 0) (n1 : oa ≠ mx) (hA : h.2.2 oa = .inr (0, [.ref r, .ref mx])) (hM : h.2.2 mx = .inl (1, 64, .inr (.inl G))) : zC 43 [.ref oa, .int (nI N), .int (nI p), .long pv, .long dv] h = some (none, zw h mx (.inl (1, 64, .inr (.inl (zer N p pv dv (N - p) (p + 1) G))))) := by
  have k1 := l_elim hN hp (pv := pv) hdv n1 (N - p) (p + 1) h G none none none (by omega) hA hM
  have e7 : nI p + 1 = nI (p + 1) := nI_1 p
  simp [I_X0_eliminate, E_X0_eliminate, zfok, zfv, zfs', ziok, ziv, zpok, zis', zlok, zlv', zls', zbok, zrok, zrv', zrs', zaok, zan, zcok, zcs', zis, zgv, zgh, zcat, zw_1, zw_21, zw_at, zclr_int, zclr_ref, zclr_null, zclr_none, zclr_long, zclr_clr, zbv_0, zbv_1, zbv_ite, zbv_ite', Value.category, lg_cmp_eq, hdv, e7]
  exact k1
/-- all rows -/
def zfa (fb : Nat → Nat) (N : Nat) : Nat → Nat → (Nat → Int64) → (Nat → Int64)
  | 0, _, G => G
  | c + 1, d, G => zfa fb N c (d + 1) (vp_updL (zrow fb d (N + 1) 0 G) (8 * d + d) (lN (zcnt (zisf fb d) (N + 1) 0)))
/-- the elimination's answer -/
def zdet (N : Nat) : Nat → Nat → Int64 → (Nat → Int64) → Int64
  | 0, _, _, G => G (8 * N + N)
  | c + 1, p, dv, G => if G (8 * p + p) = 0 then 0 else zdet N c (p + 1) (G (8 * p + p)) (zer N p (G (8 * p + p)) dv (N - p) (p + 1) G)
theorem l_hm2 (hN : N ≤ 7) (n1 : oa ≠ mx) :
    ∀ (c p : Nat) (dv : Int64) (h : zH) (G : Nat → Int64) (l6 l7 : Option Value), (c + p = N ∨ (c = 0 ∧ N ≤ p)) → p ≤ 8 → ¬ dv = 0 → 1 ≤ N → h.2.2 oa = .inr (0, [.ref r, .ref mx]) → h.2.2 mx = .inl (1, 64, .inr (.inl G)) →
      ∃ G', zD 127 25 [some (.ref oa), some (.ref o), some (.int (nI N)), some (.long dv), none, some (.int (nI p)), l6, l7] [] h = some (some (.long (zdet N c p dv G)), zw h mx (.inl (1, 64, .inr (.inl G'))))
  | 0, p, dv, h, G, l6, l7, hs, hp8, hdv, hN1, hA, hM => by
    refine ⟨G, ?_⟩
    rw [E_X0_howMany_h25]
    have e1 : nI N ≤ nI p := by rw [zle (by omega) (by omega)]; omega
    have e2 := s_cell0 (h := h) (p := N) (d := N) (by omega) (by omega)
    have e3 : zin (nI (8 * N + N)) 64 = true := zin8 (by omega) (by omega)
    have e4 : (nI (8 * N + N)).toNatClampNeg = 8 * N + N := zcl7 (by omega)
    simp [E_X0_howMany, hA, hM, zfok, zfv, zfs', ziok, ziv, zpok, zis', zlok, zlv', zls', zbok, zrok, zrv', zrs', zaok, zan, zcok, zcs', zis, zgv, zgh, zcat, zw_1, zw_21, zw_at, zclr_int, zclr_ref, zclr_null, zclr_none, zclr_long, zclr_clr, zbv_0, zbv_1, zbv_ite, zbv_ite', Value.category, e1, e2, e3, e4, zdet, zw_id h hM]
  | c + 1, p, dv, h, G, l6, l7, hs, hp8, hdv, hN1, hA, hM => by
    have e1 : ¬ nI N ≤ nI p := by rw [zle (by omega) (by omega)]; omega
    have e2 := s_cell0 (h := h) (p := p) (d := p) (by omega) (by omega)
    have e3 : zin (nI (8 * p + p)) 64 = true := zin8 (by omega) (by omega)
    have e4 : (nI (8 * p + p)).toNatClampNeg = 8 * p + p := zcl7 (by omega)
    have e7 : nI p + 1 = nI (p + 1) := nI_1 p
    by_cases c1 : G (8 * p + p) = 0
    · refine ⟨G, ?_⟩
      rw [E_X0_howMany_h25]
      simp [E_X0_howMany, hA, hM, zfok, zfv, zfs', ziok, ziv, zpok, zis', zlok, zlv', zls', zbok, zrok, zrv', zrs', zaok, zan, zcok, zcs', zis, zgv, zgh, zcat, zw_1, zw_21, zw_at, zclr_int, zclr_ref, zclr_null, zclr_none, zclr_long, zclr_clr, zbv_0, zbv_1, zbv_ite, zbv_ite', Value.category, e1, e2, e3, e4, lg_cmp_eq, c1, zdet, zw_id h hM]
    · have e5 := s_eliminate (pv := G (8 * p + p)) hN (p := p) (by omega) hdv n1 hA hM
      obtain ⟨G', k1⟩ := l_hm2 hN n1 c (p + 1) (G (8 * p + p)) (zw h mx (.inl (1, 64, .inr (.inl (zer N p (G (8 * p + p)) dv (N - p) (p + 1) G))))) (zer N p (G (8 * p + p)) dv (N - p) (p + 1) G) (some (.long (G (8 * p + p)))) none (by omega) (by omega) c1 hN1 (by rw [zw_at, if_neg n1]; exact hA) (by rw [zw_at, if_pos rfl])
      refine ⟨G', ?_⟩
      rw [E_X0_howMany_h25]
      simp [E_X0_howMany, hA, hM, zfok, zfv, zfs', ziok, ziv, zpok, zis', zlok, zlv', zls', zbok, zrok, zrv', zrs', zaok, zan, zcok, zcs', zis, zgv, zgh, zcat, zw_1, zw_21, zw_at, zclr_int, zclr_ref, zclr_null, zclr_none, zclr_long, zclr_clr, zbv_0, zbv_1, zbv_ite, zbv_ite', Value.category, e1, e2, e3, e4, e5, e7, lg_cmp_eq, c1, zdet]
      rw [k1, zw_w]
theorem l_hm1 (hN : N ≤ 7) (hN1 : 1 ≤ N) (hf : ∀ k, fb k ≤ 1) (n1 : oa ≠ mx) (n2 : o ≠ mx) (n3 : b ≠ mx) :
    ∀ (c d : Nat) (h : zH) (G : Nat → Int64) (l4 l5 l6 l7 : Option Value), c + d = N + 1 → h.2.2 oa = .inr (0, [.ref r, .ref mx]) → h.2.2 mx = .inl (1, 64, .inr (.inl G)) → h.2.2 o = .inr (2, [.ref w, .ref b]) → h.2.2 b = .inl (0, 64, .inl (fun k => nI (fb k))) →
      ∃ G', zD 127 2 [some (.ref oa), some (.ref o), some (.int (nI N)), some (.int (nI d)), l4, l5, l6, l7] [] h = some (some (.long (zdet N (N - 1) 1 1 (zfa fb N c d G))), zw h mx (.inl (1, 64, .inr (.inl G'))))
  | 0, d, h, G, l4, l5, l6, l7, hs, hA, hM, hD, hb => by
    obtain ⟨G', k1⟩ := l_hm2 (o := o) hN n1 (N - 1) 1 1 h G l6 l7 (by omega) (by omega) (by decide) hN1 hA hM
    refine ⟨G', ?_⟩
    rw [E_X0_howMany_h2]
    have e1 : nI N < nI d := by rw [zlt (by omega) (by omega)]; omega
    simp [E_X0_howMany, zfok, zfv, zfs', ziok, ziv, zpok, zis', zlok, zlv', zls', zbok, zrok, zrv', zrs', zaok, zan, zcok, zcs', zis, zgv, zgh, zcat, zw_1, zw_21, zw_at, zclr_int, zclr_ref, zclr_null, zclr_none, zclr_long, zclr_clr, zbv_0, zbv_1, zbv_ite, zbv_ite', Value.category, e1, zfa]
    exact k1
  | c + 1, d, h, G, l4, l5, l6, l7, hs, hA, hM, hD, hb => by
    have e5 := s_fillRow hN hf (d := d) (by omega) hA hM hD hb n1 n2 n3
    obtain ⟨G', k1⟩ := l_hm1 hN hN1 hf n1 n2 n3 c (d + 1) (zw h mx (.inl (1, 64, .inr (.inl (vp_updL (zrow fb d (N + 1) 0 G) (8 * d + d) (lN (zcnt (zisf fb d) (N + 1) 0))))))) _ l4 l5 l6 l7 (by omega) (by rw [zw_at, if_neg n1]; exact hA) (by rw [zw_at, if_pos rfl]) (by rw [zw_at, if_neg n2]; exact hD) (by rw [zw_at, if_neg n3]; exact hb)
    refine ⟨G', ?_⟩
    rw [E_X0_howMany_h2]
    have e1 : ¬ nI N < nI d := by rw [zlt (by omega) (by omega)]; omega
    have e7 : nI d + 1 = nI (d + 1) := nI_1 d
    simp [E_X0_howMany, hA, zfok, zfv, zfs', ziok, ziv, zpok, zis', zlok, zlv', zls', zbok, zrok, zrv', zrs', zaok, zan, zcok, zcs', zis, zgv, zgh, zcat, zw_1, zw_21, zw_at, zclr_int, zclr_ref, zclr_null, zclr_none, zclr_long, zclr_clr, zbv_0, zbv_1, zbv_ite, zbv_ite', Value.category, e1, e5, e7, zfa]
    rw [k1, zw_w]
theorem s_howMany0 (hN : N ≤ 7) (hN1 : 1 ≤ N) (hf : ∀ k, fb k ≤ 1) (n1 : oa ≠ mx) (n2 : o ≠ mx) (n3 : b ≠ mx) (hA : h.2.2 oa = .inr (0, [.ref r, .ref mx])) (hM : h.2.2 mx = .inl (1, 64, .inr (.inl G))) (hD : h.2.2 o = .inr (2, [.ref w, .ref b])) (hb : h.2.2 b = .inl (0, 64, .inl (fun k => nI (fb k)))) :
    ∃ G', zC 127 [.ref oa, .ref o, .int (nI N)] h = some (some (.long (zdet N (N - 1) 1 1 (zfa fb N N 1 G))), zw h mx (.inl (1, 64, .inr (.inl G')))) := by
  obtain ⟨G', k1⟩ := l_hm1 hN hN1 hf n1 n2 n3 N 1 h G none none none none (by omega) hA hM hD hb
  refine ⟨G', ?_⟩
  simp only [I_X0_howMany, E_X0_howMany, zclr_int]
  exact k1
end CNT
