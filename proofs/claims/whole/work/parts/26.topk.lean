/-! TopKeys: cells a (object), k (keys) -/
section TOPK
variable {h : zH} {a k m lim : Nat} {f : Nat → Int64} {x : Int64}
theorem s_trestart {n : Int32} {s0 l0 : Int32} (hD : h.2.2 a = .inr (7, [.ref k, .int s0, .int l0])) : zC 66 [.ref a, .int n] h = some (none, zw h a (.inr (7, [.ref k, .int 0, .int (if (1 : Int32) < (if 31 < n then 31 else n) then (if 31 < n then 31 else n) else 1)]))) := by
  simp [I_X8_restart, E_X8_restart, hD, zfok, zfv, zfs', ziok, ziv, zpok, zis', zlok, zlv', zls', zbok, zrok, zrv', zrs', zaok, zan, zcok, zcs', zis, zgv, zgh, zcat, zw_1, zw_21, zw_at, zclr_int, zclr_ref, zclr_null, zclr_none, zclr_long, zclr_clr, zbv_0, zbv_1, zbv_ite, zbv_ite', Value.category, zw_w]
/-- the limit that is kept of a number -/
theorem zlim {n : Nat} (h1 : 1 ≤ n) (h2 : n ≤ 31) : (if (1 : Int32) < (if 31 < nI n then 31 else nI n) then (if 31 < nI n then 31 else nI n) else 1) = nI n := by
  have e1 : ¬ (31 : Int32) < nI n := by
    have : (31 : Int32) = nI 31 := rfl
    rw [this, zlt (by omega) (by omega)]; omega
  rw [if_neg e1]
  by_cases e2 : 1 < n
  · rw [if_pos (show (1 : Int32) < nI n from (zlt (a := 1) (by omega) (by omega)).mpr e2)]
  · have : n = 1 := by omega
    subst this
    rfl
theorem s_trestartN {n : Nat} {s0 l0 : Int32} (hD : h.2.2 a = .inr (7, [.ref k, .int s0, .int l0])) (h1 : 1 ≤ n) (h2 : n ≤ 31) : zC 66 [.ref a, .int (nI n)] h = some (none, zw h a (.inr (7, [.ref k, .int (nI 0), .int (nI n)]))) := by
  rw [s_trestart hD, zlim h1 h2]; rfl
/-- how many keys from the front stay ahead of x -/
def tat (f : Nat → Int64) (x : Int64) : Nat → Nat
  | 0 => 0
  | m + 1 => if f m < x then tat f x m else m + 1
theorem tat_le (f : Nat → Int64) (x : Int64) : ∀ m, tat f x m ≤ m
  | 0 => Nat.le_refl 0
  | m + 1 => by
    unfold tat
    split
    · exact Nat.le_succ_of_le (tat_le f x m)
    · exact Nat.le_refl _
def tsh (f : Nat → Int64) (i s : Nat) : Nat → Int64 := fun j => if i < j ∧ j < s then f (j - 1) else f j
def tfin (f : Nat → Int64) (x : Int64) (p s : Nat) : Nat → Int64 := fun j => if j = p then x else if p < j ∧ j < s then f (j - 1) else f j
theorem tsh_0 (f : Nat → Int64) (s : Nat) : tsh f (s - 1) s = f := by
  funext j
  unfold tsh
  rw [if_neg (by omega)]
theorem tsh_s (f : Nat → Int64) {i s : Nat} (hi : 0 < i) (hs : i < s) : vp_updL (tsh f i s) i (tsh f i s (i - 1)) = tsh f (i - 1) s := by
  funext j
  unfold vp_updL tsh
  by_cases e : j = i
  · subst e
    rw [if_pos rfl, if_neg (by omega), if_pos ⟨by omega, hs⟩]
  · rw [if_neg e]
    by_cases e2 : i < j ∧ j < s
    · rw [if_pos e2, if_pos ⟨by omega, e2.2⟩]
    · rw [if_neg e2, if_neg (by omega)]
theorem tsh_f (f : Nat → Int64) (x : Int64) (p s : Nat) : vp_updL (tsh f p s) p x = tfin f x p s := by
  funext j
  unfold vp_updL tsh tfin
  rfl
theorem l_offer2 {s p : Nat} (hs31 : s ≤ 31) : ∀ (c i : Nat) (h : zH) (l2 : Option Value), c + p = i → i < s → h.2.2 a = .inr (7, [.ref k, .int (nI s), .int (nI lim)]) → h.2.2 k = .inl (1, 31, .inr (.inl (tsh f i s))) → a ≠ k → zD 20 105 [some (.ref a), some (.long x), l2, some (.int (nI p)), some (.int (nI i))] [] h = some (some (.int 1), zw h k (.inl (1, 31, .inr (.inl (tfin f x p s)))))
  | 0, i, h, l2, hc, hi, hD, hk, hak => by
    rw [E_X8_offer_h105]
    have e0 : i = p := by omega
    subst e0
    have e1 : nI i ≤ nI i := Int32.le_refl _
    have e3 : zin (nI i) 31 = true := zin8 (by omega) (by omega)
    have e4 : (nI i).toNatClampNeg = i := zcl7 (by omega)
    simp [E_X8_offer, hD, hk, zfok, zfv, zfs', ziok, ziv, zpok, zis', zlok, zlv', zls', zbok, zrok, zrv', zrs', zaok, zan, zcok, zcs', zis, zgv, zgh, zcat, zw_1, zw_21, zw_at, zclr_int, zclr_ref, zclr_null, zclr_none, zclr_long, zclr_clr, zbv_0, zbv_1, zbv_ite, zbv_ite', Value.category, e3, e4, tsh_f]
  | c + 1, i, h, l2, hc, hi, hD, hk, hak => by
    rw [E_X8_offer_h105]
    have e1 : ¬ nI i ≤ nI p := by rw [zle (by omega) (by omega)]; omega
    have e3 : zin (nI i) 31 = true := zin8 (by omega) (by omega)
    have e4 : (nI i).toNatClampNeg = i := zcl7 (by omega)
    have e5 : nI i - 1 = nI (i - 1) := by
      obtain ⟨y, rfl⟩ : ∃ y, i = y + 1 := ⟨i - 1, by omega⟩
      exact nI_pred y
    have e6 : zin (nI (i - 1)) 31 = true := zin8 (by omega) (by omega)
    have e7 : (nI (i - 1)).toNatClampNeg = i - 1 := zcl7 (by omega)
    have e8 : nI i + (-1) = nI (i - 1) := by obtain ⟨y, rfl⟩ : ∃ y, i = y + 1 := ⟨i - 1, by omega⟩; exact pk_m1 y
    have e9 := tsh_s f (i := i) (s := s) (by omega) hi
    simp [E_X8_offer, hD, hk, zfok, zfv, zfs', ziok, ziv, zpok, zis', zlok, zlv', zls', zbok, zrok, zrv', zrs', zaok, zan, zcok, zcs', zis, zgv, zgh, zcat, zw_1, zw_21, zw_at, zclr_int, zclr_ref, zclr_null, zclr_none, zclr_long, zclr_clr, zbv_0, zbv_1, zbv_ite, zbv_ite', Value.category, e1, e3, e4, e5, e6, e7, e8, e9]
    rw [l_offer2 hs31 c (i - 1) _ _ (by omega) (by omega) (by rw [zw_at, if_neg hak]; exact hD) (by rw [zw_at, if_pos rfl]) hak, zw_w]
theorem l_offer1 (hD : h.2.2 a = .inr (7, [.ref k, .int (nI m), .int (nI lim)])) (hk : h.2.2 k = .inl (1, 31, .inr (.inl f))) (hm : m ≤ 31) :
    ∀ (p : Nat) (l2 l4 : Option Value), p ≤ m → ∃ l2', zD 20 34 [some (.ref a), some (.long x), l2, some (.int (nI p)), l4] [] h = zD 20 57 [some (.ref a), some (.long x), l2', some (.int (nI (tat f x p))), l4] [] h
  | 0, l2, l4, hp => by
    refine ⟨l2, ?_⟩
    rw [E_X8_offer_h34]
    have e1 : nI 0 ≤ 0 := Int32.le_refl _
    simp [E_X8_offer, zfok, zfv, zfs', ziok, ziv, zpok, zis', zlok, zlv', zls', zbok, zrok, zrv', zrs', zaok, zan, zcok, zcs', zis, zgv, zgh, zcat, zw_1, zw_21, zw_at, zclr_int, zclr_ref, zclr_null, zclr_none, zclr_long, zclr_clr, zbv_0, zbv_1, zbv_ite, zbv_ite', Value.category, e1, tat]
  | p + 1, l2, l4, hp => by
    by_cases e9 : f p < x
    · obtain ⟨l2', e0⟩ := l_offer1 hD hk hm p (zclr l2) l4 (by omega)
      refine ⟨l2', ?_⟩
      rw [E_X8_offer_h34]
      have e1 : ¬ nI (p + 1) ≤ 0 := nI_nle (by omega) (by omega)
      have e5 : nI (p + 1) - 1 = nI p := nI_pred p
      have e6 : zin (nI p) 31 = true := zin8 (by omega) (by omega)
      have e7 : (nI p).toNatClampNeg = p := zcl7 (by omega)
      have e8 : nI (p + 1) + (-1) = nI p := pk_m1 p
      have e10 : ¬ x ≤ f p := Int64.not_le.mpr e9
      simp [E_X8_offer, hD, hk, zfok, zfv, zfs', ziok, ziv, zpok, zis', zlok, zlv', zls', zbok, zrok, zrv', zrs', zaok, zan, zcok, zcs', zis, zgv, zgh, zcat, zw_1, zw_21, zw_at, zclr_int, zclr_ref, zclr_null, zclr_none, zclr_long, zclr_clr, zbv_0, zbv_1, zbv_ite, zbv_ite', Value.category, e1, e5, e6, e7, e8, lg_cmp_ge, e10, tat, e9]
      exact e0
    · refine ⟨l2, ?_⟩
      rw [E_X8_offer_h34]
      have e1 : ¬ nI (p + 1) ≤ 0 := nI_nle (by omega) (by omega)
      have e5 : nI (p + 1) - 1 = nI p := nI_pred p
      have e6 : zin (nI p) 31 = true := zin8 (by omega) (by omega)
      have e7 : (nI p).toNatClampNeg = p := zcl7 (by omega)
      have e10 : x ≤ f p := Int64.not_lt.mp e9
      simp [E_X8_offer, hD, hk, zfok, zfv, zfs', ziok, ziv, zpok, zis', zlok, zlv', zls', zbok, zrok, zrv', zrs', zaok, zan, zcok, zcs', zis, zgv, zgh, zcat, zw_1, zw_21, zw_at, zclr_int, zclr_ref, zclr_null, zclr_none, zclr_long, zclr_clr, zbv_0, zbv_1, zbv_ite, zbv_ite', Value.category, e1, e5, e6, e7, lg_cmp_ge, e10, tat, e9]
theorem s_offer (hD : h.2.2 a = .inr (7, [.ref k, .int (nI m), .int (nI lim)])) (hk : h.2.2 k = .inl (1, 31, .inr (.inl f))) (hak : a ≠ k) (hm : m ≤ lim) (h1 : 1 ≤ lim) (hl : lim ≤ 31) :
    zC 20 [.ref a, .long x] h = if lim ≤ m ∧ x ≤ f (lim - 1) then some (some (.int 0), h) else if 0 < tat f x m ∧ f (tat f x m - 1) = x then some (some (.int 1), h) else some (some (.int 1), zw (zw h a (.inr (7, [.ref k, .int (nI (if m < lim then m + 1 else m)), .int (nI lim)]))) k (.inl (1, 31, .inr (.inl (tfin f x (tat f x m) (if m < lim then m + 1 else m)))))) := by
  have d1 : (nI m < nI lim) ↔ m < lim := zlt (by omega) (by omega)
  have d2 : nI lim - 1 = nI (lim - 1) := by
    obtain ⟨y, rfl⟩ : ∃ y, lim = y + 1 := ⟨lim - 1, by omega⟩
    exact nI_pred y
  have d3 : zin (nI (lim - 1)) 31 = true := zin8 (by omega) (by omega)
  have d4 : (nI (lim - 1)).toNatClampNeg = lim - 1 := zcl7 (by omega)
  have tl := tat_le f x m
  obtain ⟨l2', e0⟩ := l_offer1 (x := x) hD hk (by omega) m none none (Nat.le_refl m)
  have hcut : ¬ (lim ≤ m ∧ x ≤ f (lim - 1)) → zD 20 57 [some (.ref a), some (.long x), l2', some (.int (nI (tat f x m))), none] [] h = if 0 < tat f x m ∧ f (tat f x m - 1) = x then some (some (.int 1), h) else some (some (.int 1), zw (zw h a (.inr (7, [.ref k, .int (nI (if m < lim then m + 1 else m)), .int (nI lim)]))) k (.inl (1, 31, .inr (.inl (tfin f x (tat f x m) (if m < lim then m + 1 else m)))))) := by
    intro hno
    have q1 : (nI (tat f x m) ≤ 0) ↔ tat f x m = 0 := by
      rw [show (0 : Int32) = nI 0 from rfl, zle (by omega) (by omega)]; omega
    have q2 : nI (tat f x m) - 1 = nI (tat f x m - 1) ∨ tat f x m = 0 := by
      rcases Nat.eq_zero_or_pos (tat f x m) with e | e
      · exact Or.inr e
      · left
        obtain ⟨y, hy⟩ : ∃ y, tat f x m = y + 1 := ⟨tat f x m - 1, by omega⟩
        rw [hy]
        exact nI_pred y
    have d5 : (nI lim ≤ nI m) ↔ lim ≤ m := zle (by omega) (by omega)
    have d6 : nI m + 1 = nI (m + 1) := nI_1 m
    have tail : zD 20 76 [some (.ref a), some (.long x), l2', some (.int (nI (tat f x m))), none] [] h = some (some (.int 1), zw (zw h a (.inr (7, [.ref k, .int (nI (if m < lim then m + 1 else m)), .int (nI lim)]))) k (.inl (1, 31, .inr (.inl (tfin f x (tat f x m) (if m < lim then m + 1 else m)))))) := by
      by_cases c1 : m < lim
      · have c2 : ¬ lim ≤ m := by omega
        have d7 : nI (m + 1) - 1 = nI m := nI_pred m
        simp [E_X8_offer, hD, hk, zfok, zfv, zfs', ziok, ziv, zpok, zis', zlok, zlv', zls', zbok, zrok, zrv', zrs', zaok, zan, zcok, zcs', zis, zgv, zgh, zcat, zw_1, zw_21, zw_at, zclr_int, zclr_ref, zclr_null, zclr_none, zclr_long, zclr_clr, zbv_0, zbv_1, zbv_ite, zbv_ite', Value.category, d5, c2, d6, d7, c1, hak]
        rw [l_offer2 (f := f) (x := x) (s := m + 1) (p := tat f x m) (by omega) (m - tat f x m) m _ _ (by omega) (by omega) (by rw [zw_at, if_pos rfl]) (by rw [zw_at, if_neg (Ne.symm hak), hk]; congr 5; exact (tsh_0 f (m + 1)).symm) hak]
      · have c2 : lim ≤ m := by omega
        have d7 : nI m - 1 = nI (m - 1) := by
          obtain ⟨y, rfl⟩ : ∃ y, m = y + 1 := ⟨m - 1, by omega⟩
          exact nI_pred y
        have c3 : f (m - 1) < x := by
          have : lim = m := by omega
          rw [this] at hno
          exact Int64.not_le.mp (fun z => hno ⟨Nat.le_refl m, z⟩)
        have c4 : tat f x m ≤ m - 1 := by
          obtain ⟨y, rfl⟩ : ∃ y, m = y + 1 := ⟨m - 1, by omega⟩
          unfold tat
          rw [if_pos (by simpa using c3)]
          exact tat_le f x y
        simp [E_X8_offer, hD, hk, zfok, zfv, zfs', ziok, ziv, zpok, zis', zlok, zlv', zls', zbok, zrok, zrv', zrs', zaok, zan, zcok, zcs', zis, zgv, zgh, zcat, zw_1, zw_21, zw_at, zclr_int, zclr_ref, zclr_null, zclr_none, zclr_long, zclr_clr, zbv_0, zbv_1, zbv_ite, zbv_ite', Value.category, d5, c2, d7, c1, hak]
        rw [l_offer2 (f := f) (x := x) (s := m) (p := tat f x m) (by omega) (m - 1 - tat f x m) (m - 1) _ _ (by omega) (by omega) hD (by rw [tsh_0]; exact hk) hak, zw_id h hD]
    rw [E_X8_offer_h57]
    rcases Nat.eq_zero_or_pos (tat f x m) with e | e
    · have e2 : (nI (tat f x m) ≤ 0) := q1.mpr e
      rw [if_neg (by omega)]
      rw [← tail]
      simp only [E_X8_offer, e2, if_true]
    · have e2 : ¬ (nI (tat f x m) ≤ 0) := fun z => by have := q1.mp z; omega
      have e3 : nI (tat f x m) - 1 = nI (tat f x m - 1) := q2.resolve_right (by omega)
      have e4 : zin (nI (tat f x m - 1)) 31 = true := zin8 (by omega) (by omega)
      have e5 : (nI (tat f x m - 1)).toNatClampNeg = tat f x m - 1 := zcl7 (by omega)
      by_cases c5 : f (tat f x m - 1) = x
      · rw [if_pos ⟨e, c5⟩]
        simp [E_X8_offer, hD, hk, zfok, zfv, zfs', ziok, ziv, zpok, zis', zlok, zlv', zls', zbok, zrok, zrv', zrs', zaok, zan, zcok, zcs', zis, zgv, zgh, zcat, zw_1, zw_21, zw_at, zclr_int, zclr_ref, zclr_null, zclr_none, zclr_long, zclr_clr, zbv_0, zbv_1, zbv_ite, zbv_ite', Value.category, e2, e3, e4, e5, lg_cmp_eq, c5]
      · rw [if_neg (fun z => c5 z.2), ← tail]
        simp [E_X8_offer, hD, hk, zfok, zfv, zfs', ziok, ziv, zpok, zis', zlok, zlv', zls', zbok, zrok, zrv', zrs', zaok, zan, zcok, zcs', zis, zgv, zgh, zcat, zw_1, zw_21, zw_at, zclr_int, zclr_ref, zclr_null, zclr_none, zclr_long, zclr_clr, zbv_0, zbv_1, zbv_ite, zbv_ite', Value.category, e2, e3, e4, e5, lg_cmp_eq, c5]
  simp [I_X8_offer, E_X8_offer, hD, hk, zfok, zfv, zfs', ziok, ziv, zpok, zis', zlok, zlv', zls', zbok, zrok, zrv', zrs', zaok, zan, zcok, zcs', zis, zgv, zgh, zcat, zw_1, zw_21, zw_at, zclr_int, zclr_ref, zclr_null, zclr_none, zclr_long, zclr_clr, zbv_0, zbv_1, zbv_ite, zbv_ite', Value.category, d1, d2, d3, d4, lg_cmp_gt]
  by_cases c1 : m < lim
  · have hno : ¬ (lim ≤ m ∧ x ≤ f (lim - 1)) := by omega
    rw [if_pos c1, if_neg (by omega)]
    exact e0.trans (hcut hno)
  · by_cases c2 : f (lim - 1) < x
    · have hno : ¬ (lim ≤ m ∧ x ≤ f (lim - 1)) := fun z => absurd c2 (Int64.not_lt.mpr z.2)
      rw [if_neg c1, if_pos c2, if_neg hno]
      exact e0.trans (hcut hno)
    · rw [if_neg c1, if_neg c2, if_pos ⟨by omega, Int64.not_lt.mp c2⟩]
end TOPK
