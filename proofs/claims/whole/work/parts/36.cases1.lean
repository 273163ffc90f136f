/-! calls that set and tell -/
section CASES1
variable {L s : Nat} {xs : Nat → Int32} {C : xC} {M : xM} {σ : xS} {ca : Nat → (Nat → Int32) → (Nat → Nat) → (Nat → Int64) → (Nat → Int32) → (Nat → Int32) → (Nat → Int32) → Prop}
def xOut (ca : Nat → (Nat → Int32) → (Nat → Nat) → (Nat → Int64) → (Nat → Int32) → (Nat → Int32) → (Nat → Int32) → Prop) (m9 m10 : Nat) (a9 a10 : List Value) (L : Nat) (xs : Nat → Int32) (s : Nat) (C : xC) (M : xM) (σ : xS) : Prop :=
  ∃ v σ' s' C' M', zC m9 (.ref 1 :: a9) (xW L xs s C M) = some (some v, xW L xs s' C' M) ∧ zC m10 (.ref 283 :: a10) (xW L xs s' C' M) = some (some v, xW L xs s' C' M') ∧ xOk σ' ∧ xRC σ' C' ∧ xRM ca σ' M' ∧ s' + 19 * σ.E = s + 19 * σ'.E
theorem x_drestart (ok : xOk σ) (rc : xRC σ C) {n : Int32} : zC 49 [.ref 2, .int n] (xW L xs s C M) = some (none, xW L xs s { C with N := n, tg := (fun d => nI (ztg0 d)), hd := Z0 } M) := by
  have e := s_drestart (h := xW L xs s C M) (o := 2) (t := 3) (q := 4) (tg := σ.tg) (hd := σ.hd) (n := n) xr2 (by rw [xr3, rc.tg]) (by rw [xr4, rc.hd]) (fun d h => ok.d.tz d (by have := ok.d.n7; omega)) (fun d h => ok.d.hz d (by have := ok.d.n7; omega)) (by omega) (by omega) (by omega)
  rw [e, xv3, xv4, xv2]
theorem x_arestart (ok : xOk σ) (rc : xRC σ C) : zC 47 [.ref 5] (xW L xs s C M) = some (none, xW L xs s { C with wt := Z0, fb := Z0 } M) := by
  have e := s_arestart (h := xW L xs s C M) (o := 5) (w := 6) (b := 7) (wt := σ.wt) (fb := σ.fb) xr5 (by rw [xr6, rc.wt]) (by rw [xr7, rc.fb]) ok.wz ok.fz (by omega) (by omega)
  rw [e, xv6, xv7]
theorem x_arestart' {C : xC} {wt : Nat → Int32} {fb : Nat → Nat} (hw : C.wt = wt) (hf : C.fb = fun k => nI (fb k)) (wz : ∀ k, 64 ≤ k → wt k = 0) (fz : ∀ k, 64 ≤ k → fb k = 0) : zC 47 [.ref 5] (xW L xs s C M) = some (none, xW L xs s { C with wt := Z0, fb := Z0 } M) := by
  have e := s_arestart (h := xW L xs s C M) (o := 5) (w := 6) (b := 7) (wt := wt) (fb := fb) xr5 (by rw [xr6, hw]) (by rw [xr7, hf]) wz fz (by omega) (by omega)
  rw [e, xv6, xv7]
theorem Z0_n : Z0 = fun d => nI ((fun _ => 0 : Nat → Nat) d) := by
  funext j; rfl
def σwords (σ : xS) (n : Nat) : xS := { σ with N := n, tg := ztg0, hd := (fun _ => 0), wt := Z0, fb := (fun _ => 0) }
theorem ok_words (ok : xOk σ) {n : Nat} (h1 : 1 ≤ n) (h7 : n ≤ 7) : xOk (σwords σ n) :=
  { ok with
    d := ⟨h1, h7, rfl, fun d hd => by show ztg0 d ≤ 9; unfold ztg0; rw [if_neg (by omega)]; omega, fun d hd => by show ztg0 d = 0; unfold ztg0; rw [if_neg (by omega)], fun d => Nat.zero_le _, rfl, fun d _ => rfl⟩
    w1 := fun k => (by decide : -1000000 ≤ (0 : Int32).toInt ∧ (0 : Int32).toInt ≤ 1000000)
    wz := fun k _ => rfl
    f1 := fun k => Nat.zero_le _
    fz := fun k _ => rfl }
theorem xtg0 : (Z0 : Nat → Int32) = fun d => if d = 0 then 0 else nI (ztg0 d) := by
  funext j
  unfold Z0 ztg0
  by_cases q : j = 0
  · rw [if_pos q]
  · rw [if_neg q, if_neg q]; rfl
theorem c_words (ok : xOk σ) (rc : xRC σ C) (rm : xRM ca σ M) (n : Int32) : xOut ca 104 77 [.int n] [.int n] L xs s C M σ := by
  have b1 : (n < 1) = ¬ (1 ≤ n) := by rw [Int32.not_le]
  rcases zrange n 1 7 (by omega) (by omega) with h | h | ⟨k, h1, h7, rfl⟩
  · refine ⟨.int (-102), σ, s, C, M, ?_, ?_, ok, rc, rm, rfl⟩
    · have h' : n < 1 := h
      simp [I_X9_words, E_X9_words, zfok, zfv, zfs', ziok, ziv, zpok, zis', zlok, zlv', zls', zbok, zrok, zrv', zrs', zaok, zan, zcok, zcs', zis, zgv, zgh, zcat, zw_1, zw_21, zw_at, zclr_int, zclr_ref, zclr_null, zclr_none, zclr_long, zclr_clr, zbv_0, zbv_1, zbv_ite, zbv_ite', Value.category, xr0, xr1, xr2, xr3, xr4, xr5, xr6, xr7, xr8, xr265, xr266, xr267, xr268, xr269, xr270, xr271, xr272, xr273, xr274, xr275, xr276, xr277, xr278, xr279, xr280, xr281, xr282, xr283, xr284, xr285, xr286, xr287, xr288, xr289, xr290, xr291, xr292, xr293, xr294, xr295, xr296, xr297, xr298, xr299, xr300, xr301, xr302, xv2, xv3, xv4, xv6, xv7, xv266, xv268, xv269, xv270, xv271, xv273, xv274, xv275, xv276, xv277, xv278, xv279, xv280, xv281, xv282, xv283, xv284, xv285, xv286, xv287, xv288, xv289, xv290, xv291, xv292, xv293, xv294, xv295, xv296, xv297, xv298, xv299, xv300, xv301, xv302, znar0, znar1, znarI, zfitb, zfitb1, h']
    · have h' : ¬ (1 ≤ n) := Int32.not_le.mpr h
      simp [I_X10_words, E_X10_words, zfok, zfv, zfs', ziok, ziv, zpok, zis', zlok, zlv', zls', zbok, zrok, zrv', zrs', zaok, zan, zcok, zcs', zis, zgv, zgh, zcat, zw_1, zw_21, zw_at, zclr_int, zclr_ref, zclr_null, zclr_none, zclr_long, zclr_clr, zbv_0, zbv_1, zbv_ite, zbv_ite', Value.category, xr0, xr1, xr2, xr3, xr4, xr5, xr6, xr7, xr8, xr265, xr266, xr267, xr268, xr269, xr270, xr271, xr272, xr273, xr274, xr275, xr276, xr277, xr278, xr279, xr280, xr281, xr282, xr283, xr284, xr285, xr286, xr287, xr288, xr289, xr290, xr291, xr292, xr293, xr294, xr295, xr296, xr297, xr298, xr299, xr300, xr301, xr302, xv2, xv3, xv4, xv6, xv7, xv266, xv268, xv269, xv270, xv271, xv273, xv274, xv275, xv276, xv277, xv278, xv279, xv280, xv281, xv282, xv283, xv284, xv285, xv286, xv287, xv288, xv289, xv290, xv291, xv292, xv293, xv294, xv295, xv296, xv297, xv298, xv299, xv300, xv301, xv302, znar0, znar1, znarI, zfitb, zfitb1, m_in, h']
  · refine ⟨.int (-102), σ, s, C, M, ?_, ?_, ok, rc, rm, rfl⟩
    · have h' : ¬ n ≤ 7 := Int32.not_le.mpr h
      by_cases q : n < 1
      · simp [I_X9_words, E_X9_words, zfok, zfv, zfs', ziok, ziv, zpok, zis', zlok, zlv', zls', zbok, zrok, zrv', zrs', zaok, zan, zcok, zcs', zis, zgv, zgh, zcat, zw_1, zw_21, zw_at, zclr_int, zclr_ref, zclr_null, zclr_none, zclr_long, zclr_clr, zbv_0, zbv_1, zbv_ite, zbv_ite', Value.category, xr0, xr1, xr2, xr3, xr4, xr5, xr6, xr7, xr8, xr265, xr266, xr267, xr268, xr269, xr270, xr271, xr272, xr273, xr274, xr275, xr276, xr277, xr278, xr279, xr280, xr281, xr282, xr283, xr284, xr285, xr286, xr287, xr288, xr289, xr290, xr291, xr292, xr293, xr294, xr295, xr296, xr297, xr298, xr299, xr300, xr301, xr302, xv2, xv3, xv4, xv6, xv7, xv266, xv268, xv269, xv270, xv271, xv273, xv274, xv275, xv276, xv277, xv278, xv279, xv280, xv281, xv282, xv283, xv284, xv285, xv286, xv287, xv288, xv289, xv290, xv291, xv292, xv293, xv294, xv295, xv296, xv297, xv298, xv299, xv300, xv301, xv302, znar0, znar1, znarI, zfitb, zfitb1, q]
      · simp [I_X9_words, E_X9_words, zfok, zfv, zfs', ziok, ziv, zpok, zis', zlok, zlv', zls', zbok, zrok, zrv', zrs', zaok, zan, zcok, zcs', zis, zgv, zgh, zcat, zw_1, zw_21, zw_at, zclr_int, zclr_ref, zclr_null, zclr_none, zclr_long, zclr_clr, zbv_0, zbv_1, zbv_ite, zbv_ite', Value.category, xr0, xr1, xr2, xr3, xr4, xr5, xr6, xr7, xr8, xr265, xr266, xr267, xr268, xr269, xr270, xr271, xr272, xr273, xr274, xr275, xr276, xr277, xr278, xr279, xr280, xr281, xr282, xr283, xr284, xr285, xr286, xr287, xr288, xr289, xr290, xr291, xr292, xr293, xr294, xr295, xr296, xr297, xr298, xr299, xr300, xr301, xr302, xv2, xv3, xv4, xv6, xv7, xv266, xv268, xv269, xv270, xv271, xv273, xv274, xv275, xv276, xv277, xv278, xv279, xv280, xv281, xv282, xv283, xv284, xv285, xv286, xv287, xv288, xv289, xv290, xv291, xv292, xv293, xv294, xv295, xv296, xv297, xv298, xv299, xv300, xv301, xv302, znar0, znar1, znarI, zfitb, zfitb1, q, h']
    · have h' : ¬ n ≤ 7 := Int32.not_le.mpr h
      simp [I_X10_words, E_X10_words, zfok, zfv, zfs', ziok, ziv, zpok, zis', zlok, zlv', zls', zbok, zrok, zrv', zrs', zaok, zan, zcok, zcs', zis, zgv, zgh, zcat, zw_1, zw_21, zw_at, zclr_int, zclr_ref, zclr_null, zclr_none, zclr_long, zclr_clr, zbv_0, zbv_1, zbv_ite, zbv_ite', Value.category, xr0, xr1, xr2, xr3, xr4, xr5, xr6, xr7, xr8, xr265, xr266, xr267, xr268, xr269, xr270, xr271, xr272, xr273, xr274, xr275, xr276, xr277, xr278, xr279, xr280, xr281, xr282, xr283, xr284, xr285, xr286, xr287, xr288, xr289, xr290, xr291, xr292, xr293, xr294, xr295, xr296, xr297, xr298, xr299, xr300, xr301, xr302, xv2, xv3, xv4, xv6, xv7, xv266, xv268, xv269, xv270, xv271, xv273, xv274, xv275, xv276, xv277, xv278, xv279, xv280, xv281, xv282, xv283, xv284, xv285, xv286, xv287, xv288, xv289, xv290, xv291, xv292, xv293, xv294, xv295, xv296, xv297, xv298, xv299, xv300, xv301, xv302, znar0, znar1, znarI, zfitb, zfitb1, m_in, h']
  · have a1 : (1 : Int32) ≤ nI k := (zle (a := 1) (by omega) (by omega)).mpr h1
    have a2 : nI k ≤ (7 : Int32) := (zle (b := 7) (by omega) (by omega)).mpr h7
    have a3 : ¬ nI k < (1 : Int32) := Int32.not_lt.mpr a1
    refine ⟨.int (nI k), σwords σ k, s, { C with N := nI k, tg := (fun d => nI (ztg0 d)), hd := Z0, wt := Z0, fb := Z0 }, { M with n := nI k, kn := 0, tg := Z0, hd := Z0, wt := Z0, fb := Z0 }, ?_, ?_, ok_words ok h1 h7, ?_, ?_, rfl⟩
    · have e1 := x_drestart (L := L) (s := s) (xs := xs) (M := M) ok rc (n := nI k)
      have e2 := x_arestart' (L := L) (s := s) (xs := xs) (M := M) (C := { C with N := nI k, tg := (fun d => nI (ztg0 d)), hd := Z0 }) rc.wt rc.fb ok.wz ok.fz
      simp [I_X9_words, E_X9_words, zfok, zfv, zfs', ziok, ziv, zpok, zis', zlok, zlv', zls', zbok, zrok, zrv', zrs', zaok, zan, zcok, zcs', zis, zgv, zgh, zcat, zw_1, zw_21, zw_at, zclr_int, zclr_ref, zclr_null, zclr_none, zclr_long, zclr_clr, zbv_0, zbv_1, zbv_ite, zbv_ite', Value.category, xr0, xr1, xr2, xr3, xr4, xr5, xr6, xr7, xr8, xr265, xr266, xr267, xr268, xr269, xr270, xr271, xr272, xr273, xr274, xr275, xr276, xr277, xr278, xr279, xr280, xr281, xr282, xr283, xr284, xr285, xr286, xr287, xr288, xr289, xr290, xr291, xr292, xr293, xr294, xr295, xr296, xr297, xr298, xr299, xr300, xr301, xr302, xv2, xv3, xv4, xv6, xv7, xv266, xv268, xv269, xv270, xv271, xv273, xv274, xv275, xv276, xv277, xv278, xv279, xv280, xv281, xv282, xv283, xv284, xv285, xv286, xv287, xv288, xv289, xv290, xv291, xv292, xv293, xv294, xv295, xv296, xv297, xv298, xv299, xv300, xv301, xv302, znar0, znar1, znarI, zfitb, zfitb1, a3, a2, e1, e2]
    · have e1 := fun C => m_begin (L := L) (s := s) (xs := xs) (C := C) (M := M) (N := k) (fun d h => by rw [rm.tg]; show (if d = 0 then 0 else nI (σ.tg d)) = 0; rw [if_neg (by omega), ok.d.tz d (by have := ok.d.n7; omega)]; rfl) (fun d h => by rw [rm.hd]; show nI (σ.hd d) = 0; rw [ok.d.hz d (by have := ok.d.n7; omega)]; rfl) (fun d h => by rw [rm.wt]; exact ok.wz d h) (fun d h => by rw [rm.fb]; show nI (σ.fb d) = 0; rw [ok.fz d h]; rfl)
      simp [I_X10_words, E_X10_words, zfok, zfv, zfs', ziok, ziv, zpok, zis', zlok, zlv', zls', zbok, zrok, zrv', zrs', zaok, zan, zcok, zcs', zis, zgv, zgh, zcat, zw_1, zw_21, zw_at, zclr_int, zclr_ref, zclr_null, zclr_none, zclr_long, zclr_clr, zbv_0, zbv_1, zbv_ite, zbv_ite', Value.category, xr0, xr1, xr2, xr3, xr4, xr5, xr6, xr7, xr8, xr265, xr266, xr267, xr268, xr269, xr270, xr271, xr272, xr273, xr274, xr275, xr276, xr277, xr278, xr279, xr280, xr281, xr282, xr283, xr284, xr285, xr286, xr287, xr288, xr289, xr290, xr291, xr292, xr293, xr294, xr295, xr296, xr297, xr298, xr299, xr300, xr301, xr302, xv2, xv3, xv4, xv6, xv7, xv266, xv268, xv269, xv270, xv271, xv273, xv274, xv275, xv276, xv277, xv278, xv279, xv280, xv281, xv282, xv283, xv284, xv285, xv286, xv287, xv288, xv289, xv290, xv291, xv292, xv293, xv294, xv295, xv296, xv297, xv298, xv299, xv300, xv301, xv302, znar0, znar1, znarI, zfitb, zfitb1, m_in, a1, a2, e1]
    · exact { rc with N := rfl, tg := rfl, hd := Z0_n, wt := rfl, fb := Z0_n }
    · exact { rm with N := rfl, tg := xtg0, hd := Z0_n, wt := rfl, fb := Z0_n, kn := Or.inl rfl }
theorem c_tag (ok : xOk σ) (rc : xRC σ C) (rm : xRM ca σ M) (d t : Int32) : xOut ca 68 114 [.int d, .int t] [.int d, .int t] L xs s C M σ := by
  have w1 := s_hasWord (h := xW L xs s C M) (o := 2) (t := 3) (q := 4) (n := C.N) (d := d) xr2
  have w2 := fun C => m_isWord (L := L) (s := s) (xs := xs) (C := C) (M := M) (d := d)
  rw [rm.N] at w2
  rw [rc.N] at w1
  have n7 := ok.d.n7
  by_cases h : 1 ≤ d ∧ d ≤ nI σ.N
  · rw [if_pos h] at w1
    simp only [if_pos h] at w2
    rcases zrange t 0 9 (by omega) (by omega) with q | q | ⟨k, _, k9, rfl⟩
    · have q' : t < 0 := q
      have q2 : ¬ 0 ≤ t := Int32.not_le.mpr q
      refine ⟨.int (-102), σ, s, C, M, ?_, ?_, ok, rc, rm, rfl⟩
      · simp [I_X9_tag, E_X9_tag, I_X9_isWordTag, E_X9_isWordTag, zfok, zfv, zfs', ziok, ziv, zpok, zis', zlok, zlv', zls', zbok, zrok, zrv', zrs', zaok, zan, zcok, zcs', zis, zgv, zgh, zcat, zw_1, zw_21, zw_at, zclr_int, zclr_ref, zclr_null, zclr_none, zclr_long, zclr_clr, zbv_0, zbv_1, zbv_ite, zbv_ite', Value.category, xr0, xr1, xr2, xr3, xr4, xr5, xr6, xr7, xr8, xr265, xr266, xr267, xr268, xr269, xr270, xr271, xr272, xr273, xr274, xr275, xr276, xr277, xr278, xr279, xr280, xr281, xr282, xr283, xr284, xr285, xr286, xr287, xr288, xr289, xr290, xr291, xr292, xr293, xr294, xr295, xr296, xr297, xr298, xr299, xr300, xr301, xr302, xv2, xv3, xv4, xv6, xv7, xv266, xv268, xv269, xv270, xv271, xv273, xv274, xv275, xv276, xv277, xv278, xv279, xv280, xv281, xv282, xv283, xv284, xv285, xv286, xv287, xv288, xv289, xv290, xv291, xv292, xv293, xv294, xv295, xv296, xv297, xv298, xv299, xv300, xv301, xv302, znar0, znar1, znarI, zfitb, zfitb1, w1, q']
      · simp [I_X10_tag, E_X10_tag, zfok, zfv, zfs', ziok, ziv, zpok, zis', zlok, zlv', zls', zbok, zrok, zrv', zrs', zaok, zan, zcok, zcs', zis, zgv, zgh, zcat, zw_1, zw_21, zw_at, zclr_int, zclr_ref, zclr_null, zclr_none, zclr_long, zclr_clr, zbv_0, zbv_1, zbv_ite, zbv_ite', Value.category, xr0, xr1, xr2, xr3, xr4, xr5, xr6, xr7, xr8, xr265, xr266, xr267, xr268, xr269, xr270, xr271, xr272, xr273, xr274, xr275, xr276, xr277, xr278, xr279, xr280, xr281, xr282, xr283, xr284, xr285, xr286, xr287, xr288, xr289, xr290, xr291, xr292, xr293, xr294, xr295, xr296, xr297, xr298, xr299, xr300, xr301, xr302, xv2, xv3, xv4, xv6, xv7, xv266, xv268, xv269, xv270, xv271, xv273, xv274, xv275, xv276, xv277, xv278, xv279, xv280, xv281, xv282, xv283, xv284, xv285, xv286, xv287, xv288, xv289, xv290, xv291, xv292, xv293, xv294, xv295, xv296, xv297, xv298, xv299, xv300, xv301, xv302, znar0, znar1, znarI, zfitb, zfitb1, w2, m_in, q2]
    · have q1 : ¬ t ≤ 9 := Int32.not_le.mpr q
      have q2 : (10 : Int32) ≤ t := by
        rcases zrange t 0 9 (by omega) (by omega) with z | z | ⟨k, _, k9, rfl⟩
        · exact absurd (Int32.le_of_lt (Int32.lt_trans q z)) (by decide)
        · rw [Int32.le_iff_toInt_le]; rw [Int32.lt_iff_toInt_lt] at z; have : (nI 9).toInt = 9 := by decide
          have h10 : (10 : Int32).toInt = 10 := by decide
          omega
        · exact absurd ((zle (b := 9) (by omega) (by omega)).mpr k9) q1
      refine ⟨.int (-102), σ, s, C, M, ?_, ?_, ok, rc, rm, rfl⟩
      · by_cases q3 : t < 0
        · simp [I_X9_tag, E_X9_tag, I_X9_isWordTag, E_X9_isWordTag, zfok, zfv, zfs', ziok, ziv, zpok, zis', zlok, zlv', zls', zbok, zrok, zrv', zrs', zaok, zan, zcok, zcs', zis, zgv, zgh, zcat, zw_1, zw_21, zw_at, zclr_int, zclr_ref, zclr_null, zclr_none, zclr_long, zclr_clr, zbv_0, zbv_1, zbv_ite, zbv_ite', Value.category, xr0, xr1, xr2, xr3, xr4, xr5, xr6, xr7, xr8, xr265, xr266, xr267, xr268, xr269, xr270, xr271, xr272, xr273, xr274, xr275, xr276, xr277, xr278, xr279, xr280, xr281, xr282, xr283, xr284, xr285, xr286, xr287, xr288, xr289, xr290, xr291, xr292, xr293, xr294, xr295, xr296, xr297, xr298, xr299, xr300, xr301, xr302, xv2, xv3, xv4, xv6, xv7, xv266, xv268, xv269, xv270, xv271, xv273, xv274, xv275, xv276, xv277, xv278, xv279, xv280, xv281, xv282, xv283, xv284, xv285, xv286, xv287, xv288, xv289, xv290, xv291, xv292, xv293, xv294, xv295, xv296, xv297, xv298, xv299, xv300, xv301, xv302, znar0, znar1, znarI, zfitb, zfitb1, w1, q3]
        · simp [I_X9_tag, E_X9_tag, I_X9_isWordTag, E_X9_isWordTag, zfok, zfv, zfs', ziok, ziv, zpok, zis', zlok, zlv', zls', zbok, zrok, zrv', zrs', zaok, zan, zcok, zcs', zis, zgv, zgh, zcat, zw_1, zw_21, zw_at, zclr_int, zclr_ref, zclr_null, zclr_none, zclr_long, zclr_clr, zbv_0, zbv_1, zbv_ite, zbv_ite', Value.category, xr0, xr1, xr2, xr3, xr4, xr5, xr6, xr7, xr8, xr265, xr266, xr267, xr268, xr269, xr270, xr271, xr272, xr273, xr274, xr275, xr276, xr277, xr278, xr279, xr280, xr281, xr282, xr283, xr284, xr285, xr286, xr287, xr288, xr289, xr290, xr291, xr292, xr293, xr294, xr295, xr296, xr297, xr298, xr299, xr300, xr301, xr302, xv2, xv3, xv4, xv6, xv7, xv266, xv268, xv269, xv270, xv271, xv273, xv274, xv275, xv276, xv277, xv278, xv279, xv280, xv281, xv282, xv283, xv284, xv285, xv286, xv287, xv288, xv289, xv290, xv291, xv292, xv293, xv294, xv295, xv296, xv297, xv298, xv299, xv300, xv301, xv302, znar0, znar1, znarI, zfitb, zfitb1, w1, q2, q3]
      · simp [I_X10_tag, E_X10_tag, zfok, zfv, zfs', ziok, ziv, zpok, zis', zlok, zlv', zls', zbok, zrok, zrv', zrs', zaok, zan, zcok, zcs', zis, zgv, zgh, zcat, zw_1, zw_21, zw_at, zclr_int, zclr_ref, zclr_null, zclr_none, zclr_long, zclr_clr, zbv_0, zbv_1, zbv_ite, zbv_ite', Value.category, xr0, xr1, xr2, xr3, xr4, xr5, xr6, xr7, xr8, xr265, xr266, xr267, xr268, xr269, xr270, xr271, xr272, xr273, xr274, xr275, xr276, xr277, xr278, xr279, xr280, xr281, xr282, xr283, xr284, xr285, xr286, xr287, xr288, xr289, xr290, xr291, xr292, xr293, xr294, xr295, xr296, xr297, xr298, xr299, xr300, xr301, xr302, xv2, xv3, xv4, xv6, xv7, xv266, xv268, xv269, xv270, xv271, xv273, xv274, xv275, xv276, xv277, xv278, xv279, xv280, xv281, xv282, xv283, xv284, xv285, xv286, xv287, xv288, xv289, xv290, xv291, xv292, xv293, xv294, xv295, xv296, xv297, xv298, xv299, xv300, xv301, xv302, znar0, znar1, znarI, zfitb, zfitb1, w2, m_in, q1]
    · obtain ⟨k', h1, h2, rfl⟩ : ∃ k', 1 ≤ k' ∧ k' ≤ σ.N ∧ d = nI k' := by
        rcases zrange d 1 σ.N (by omega) (by omega) with z | z | z
        · exact absurd h.1 (Int32.not_le.mpr z)
        · exact absurd h.2 (Int32.not_le.mpr z)
        · exact z
      have q1 : ¬ nI k < 0 := zge0 (by omega)
      have q2 : ¬ (10 : Int32) ≤ nI k := by rw [show (10 : Int32) = nI 10 from rfl, zle (by omega) (by omega)]; omega
      have q3 : (0 : Int32) ≤ nI k := Int32.not_lt.mp q1
      have q4 : nI k ≤ 9 := (zle (b := 9) (by omega) (by omega)).mpr k9
      have e3 : zin (nI k') 8 = true := zin8 (by omega) (by omega)
      have e4 : (nI k').toNatClampNeg = k' := zcl7 (by omega)
      have e5 : ¬ k' = 0 := by omega
      refine ⟨.int (nI (σ.tg k')), { σ with tg := zupd σ.tg k' k }, s, { C with tg := upd C.tg k' (nI k) }, { M with tg := upd M.tg k' (nI k) }, ?_, ?_, ?_, ?_, ?_, rfl⟩
      · simp [I_X9_tag, E_X9_tag, I_X9_isWordTag, E_X9_isWordTag, zfok, zfv, zfs', ziok, ziv, zpok, zis', zlok, zlv', zls', zbok, zrok, zrv', zrs', zaok, zan, zcok, zcs', zis, zgv, zgh, zcat, zw_1, zw_21, zw_at, zclr_int, zclr_ref, zclr_null, zclr_none, zclr_long, zclr_clr, zbv_0, zbv_1, zbv_ite, zbv_ite', Value.category, xr0, xr1, xr2, xr3, xr4, xr5, xr6, xr7, xr8, xr265, xr266, xr267, xr268, xr269, xr270, xr271, xr272, xr273, xr274, xr275, xr276, xr277, xr278, xr279, xr280, xr281, xr282, xr283, xr284, xr285, xr286, xr287, xr288, xr289, xr290, xr291, xr292, xr293, xr294, xr295, xr296, xr297, xr298, xr299, xr300, xr301, xr302, xv2, xv3, xv4, xv6, xv7, xv266, xv268, xv269, xv270, xv271, xv273, xv274, xv275, xv276, xv277, xv278, xv279, xv280, xv281, xv282, xv283, xv284, xv285, xv286, xv287, xv288, xv289, xv290, xv291, xv292, xv293, xv294, xv295, xv296, xv297, xv298, xv299, xv300, xv301, xv302, znar0, znar1, znarI, zfitb, zfitb1, w1, q1, q2, e3, e4, rc.tg]
      · simp [I_X10_tag, E_X10_tag, zfok, zfv, zfs', ziok, ziv, zpok, zis', zlok, zlv', zls', zbok, zrok, zrv', zrs', zaok, zan, zcok, zcs', zis, zgv, zgh, zcat, zw_1, zw_21, zw_at, zclr_int, zclr_ref, zclr_null, zclr_none, zclr_long, zclr_clr, zbv_0, zbv_1, zbv_ite, zbv_ite', Value.category, xr0, xr1, xr2, xr3, xr4, xr5, xr6, xr7, xr8, xr265, xr266, xr267, xr268, xr269, xr270, xr271, xr272, xr273, xr274, xr275, xr276, xr277, xr278, xr279, xr280, xr281, xr282, xr283, xr284, xr285, xr286, xr287, xr288, xr289, xr290, xr291, xr292, xr293, xr294, xr295, xr296, xr297, xr298, xr299, xr300, xr301, xr302, xv2, xv3, xv4, xv6, xv7, xv266, xv268, xv269, xv270, xv271, xv273, xv274, xv275, xv276, xv277, xv278, xv279, xv280, xv281, xv282, xv283, xv284, xv285, xv286, xv287, xv288, xv289, xv290, xv291, xv292, xv293, xv294, xv295, xv296, xv297, xv298, xv299, xv300, xv301, xv302, znar0, znar1, znarI, zfitb, zfitb1, w2, m_in, q3, q4, e3, e4, rm.tg, e5]
      · refine { ok with d := { ok.d with t0 := ?_, t9 := ?_, tz := ?_ } }
        · show zupd σ.tg k' k 0 = 10
          unfold zupd; rw [if_neg (by omega)]; exact ok.d.t0
        · intro d hd
          show zupd σ.tg k' k d ≤ 9
          unfold zupd
          split
          · exact k9
          · exact ok.d.t9 d hd
        · intro d hd
          show zupd σ.tg k' k d = 0
          have hd' : σ.N < d := hd
          unfold zupd; rw [if_neg (by omega)]; exact ok.d.tz d hd
      · refine { rc with tg := ?_ }
        show upd C.tg k' (nI k) = fun d => nI (zupd σ.tg k' k d)
        rw [rc.tg, z_updN]
      · refine { rm with tg := ?_ }
        show upd M.tg k' (nI k) = fun d => if d = 0 then 0 else nI (zupd σ.tg k' k d)
        rw [rm.tg]
        funext j
        unfold upd zupd
        by_cases z : j = k'
        · rw [if_pos z, if_pos z, if_neg (by omega)]
        · rw [if_neg z, if_neg z]
  · rw [if_neg h] at w1
    simp only [if_neg h] at w2
    refine ⟨.int (-101), σ, s, C, M, ?_, ?_, ok, rc, rm, rfl⟩
    · simp [I_X9_tag, E_X9_tag, zfok, zfv, zfs', ziok, ziv, zpok, zis', zlok, zlv', zls', zbok, zrok, zrv', zrs', zaok, zan, zcok, zcs', zis, zgv, zgh, zcat, zw_1, zw_21, zw_at, zclr_int, zclr_ref, zclr_null, zclr_none, zclr_long, zclr_clr, zbv_0, zbv_1, zbv_ite, zbv_ite', Value.category, xr0, xr1, xr2, xr3, xr4, xr5, xr6, xr7, xr8, xr265, xr266, xr267, xr268, xr269, xr270, xr271, xr272, xr273, xr274, xr275, xr276, xr277, xr278, xr279, xr280, xr281, xr282, xr283, xr284, xr285, xr286, xr287, xr288, xr289, xr290, xr291, xr292, xr293, xr294, xr295, xr296, xr297, xr298, xr299, xr300, xr301, xr302, xv2, xv3, xv4, xv6, xv7, xv266, xv268, xv269, xv270, xv271, xv273, xv274, xv275, xv276, xv277, xv278, xv279, xv280, xv281, xv282, xv283, xv284, xv285, xv286, xv287, xv288, xv289, xv290, xv291, xv292, xv293, xv294, xv295, xv296, xv297, xv298, xv299, xv300, xv301, xv302, znar0, znar1, znarI, zfitb, zfitb1, w1]
    · simp [I_X10_tag, E_X10_tag, zfok, zfv, zfs', ziok, ziv, zpok, zis', zlok, zlv', zls', zbok, zrok, zrv', zrs', zaok, zan, zcok, zcs', zis, zgv, zgh, zcat, zw_1, zw_21, zw_at, zclr_int, zclr_ref, zclr_null, zclr_none, zclr_long, zclr_clr, zbv_0, zbv_1, zbv_ite, zbv_ite', Value.category, xr0, xr1, xr2, xr3, xr4, xr5, xr6, xr7, xr8, xr265, xr266, xr267, xr268, xr269, xr270, xr271, xr272, xr273, xr274, xr275, xr276, xr277, xr278, xr279, xr280, xr281, xr282, xr283, xr284, xr285, xr286, xr287, xr288, xr289, xr290, xr291, xr292, xr293, xr294, xr295, xr296, xr297, xr298, xr299, xr300, xr301, xr302, xv2, xv3, xv4, xv6, xv7, xv266, xv268, xv269, xv270, xv271, xv273, xv274, xv275, xv276, xv277, xv278, xv279, xv280, xv281, xv282, xv283, xv284, xv285, xv286, xv287, xv288, xv289, xv290, xv291, xv292, xv293, xv294, xv295, xv296, xv297, xv298, xv299, xv300, xv301, xv302, znar0, znar1, znarI, zfitb, zfitb1, w2]
theorem x_word (ok : xOk σ) {d : Int32} (h : 1 ≤ d ∧ d ≤ nI σ.N) : ∃ k, 1 ≤ k ∧ k ≤ σ.N ∧ d = nI k := by
  have n7 := ok.d.n7
  rcases zrange d 1 σ.N (by omega) (by omega) with z | z | z
  · exact absurd h.1 (Int32.not_le.mpr z)
  · exact absurd h.2 (Int32.not_le.mpr z)
  · exact z
theorem x_place (ok : xOk σ) {d : Int32} (h : 0 ≤ d ∧ d ≤ nI σ.N) : ∃ k, k ≤ σ.N ∧ d = nI k := by
  have n7 := ok.d.n7
  rcases zrange d 0 σ.N (by omega) (by omega) with z | z | ⟨k, _, z⟩
  · exact absurd h.1 (Int32.not_le.mpr z)
  · exact absurd h.2 (Int32.not_le.mpr z)
  · exact ⟨k, z⟩
theorem x_pair (ok : xOk σ) {p d : Int32} (h : (0 ≤ p ∧ p ≤ nI σ.N) ∧ (1 ≤ d ∧ d ≤ nI σ.N) ∧ ¬ p = d) : ∃ i j, i ≤ σ.N ∧ 1 ≤ j ∧ j ≤ σ.N ∧ i ≠ j ∧ p = nI i ∧ d = nI j := by
  obtain ⟨i, h1, rfl⟩ := x_place ok h.1
  obtain ⟨j, h2, h3, rfl⟩ := x_word ok h.2.1
  exact ⟨i, j, h1, h2, h3, fun z => h.2.2 (by rw [z]), rfl, rfl⟩
theorem c_weighs (ok : xOk σ) (rc : xRC σ C) (rm : xRM ca σ M) (p d : Int32) : xOut ca 107 141 [.int p, .int d] [.int p, .int d] L xs s C M σ := by
  have w1 := s_hasArc (h := xW L xs s C M) (o := 2) (t := 3) (q := 4) (n := C.N) (p := p) (d := d) xr2
  have w2 := m_isPair (L := L) (s := s) (xs := xs) (C := C) (M := M) (p := p) (d := d)
  rw [rm.N] at w2
  rw [rc.N] at w1
  have n7 := ok.d.n7
  by_cases h : (0 ≤ p ∧ p ≤ nI σ.N) ∧ (1 ≤ d ∧ d ≤ nI σ.N) ∧ ¬ p = d
  · rw [if_pos h] at w1 w2
    obtain ⟨i, j, h1, h2, h3, h4, rfl, rfl⟩ := x_pair ok h
    have e1 := s_slot (h := xW L xs s C M) (p := i) (d := j) (by omega) (by omega)
    have e2 : zin (nI (8 * j + i)) 64 = true := zin8 (by omega) (by omega)
    have e3 : (nI (8 * j + i)).toNatClampNeg = 8 * j + i := zcl7 (by omega)
    refine ⟨.int (σ.wt (8 * j + i)), σ, s, C, M, ?_, ?_, ok, rc, rm, rfl⟩
    · simp [I_X9_weighs, E_X9_weighs, zfok, zfv, zfs', ziok, ziv, zpok, zis', zlok, zlv', zls', zbok, zrok, zrv', zrs', zaok, zan, zcok, zcs', zis, zgv, zgh, zcat, zw_1, zw_21, zw_at, zclr_int, zclr_ref, zclr_null, zclr_none, zclr_long, zclr_clr, zbv_0, zbv_1, zbv_ite, zbv_ite', Value.category, xr0, xr1, xr2, xr3, xr4, xr5, xr6, xr7, xr8, xr265, xr266, xr267, xr268, xr269, xr270, xr271, xr272, xr273, xr274, xr275, xr276, xr277, xr278, xr279, xr280, xr281, xr282, xr283, xr284, xr285, xr286, xr287, xr288, xr289, xr290, xr291, xr292, xr293, xr294, xr295, xr296, xr297, xr298, xr299, xr300, xr301, xr302, xv2, xv3, xv4, xv6, xv7, xv266, xv268, xv269, xv270, xv271, xv273, xv274, xv275, xv276, xv277, xv278, xv279, xv280, xv281, xv282, xv283, xv284, xv285, xv286, xv287, xv288, xv289, xv290, xv291, xv292, xv293, xv294, xv295, xv296, xv297, xv298, xv299, xv300, xv301, xv302, znar0, znar1, znarI, zfitb, zfitb1, w1, e1, e2, e3, rc.wt]
    · simp [I_X10_weighs, E_X10_weighs, zfok, zfv, zfs', ziok, ziv, zpok, zis', zlok, zlv', zls', zbok, zrok, zrv', zrs', zaok, zan, zcok, zcs', zis, zgv, zgh, zcat, zw_1, zw_21, zw_at, zclr_int, zclr_ref, zclr_null, zclr_none, zclr_long, zclr_clr, zbv_0, zbv_1, zbv_ite, zbv_ite', Value.category, xr0, xr1, xr2, xr3, xr4, xr5, xr6, xr7, xr8, xr265, xr266, xr267, xr268, xr269, xr270, xr271, xr272, xr273, xr274, xr275, xr276, xr277, xr278, xr279, xr280, xr281, xr282, xr283, xr284, xr285, xr286, xr287, xr288, xr289, xr290, xr291, xr292, xr293, xr294, xr295, xr296, xr297, xr298, xr299, xr300, xr301, xr302, xv2, xv3, xv4, xv6, xv7, xv266, xv268, xv269, xv270, xv271, xv273, xv274, xv275, xv276, xv277, xv278, xv279, xv280, xv281, xv282, xv283, xv284, xv285, xv286, xv287, xv288, xv289, xv290, xv291, xv292, xv293, xv294, xv295, xv296, xv297, xv298, xv299, xv300, xv301, xv302, znar0, znar1, znarI, zfitb, zfitb1, w2, z8, e2, e3, rm.wt]
  · rw [if_neg h] at w1 w2
    refine ⟨.int (-2000000), σ, s, C, M, ?_, ?_, ok, rc, rm, rfl⟩
    · simp [I_X9_weighs, E_X9_weighs, zfok, zfv, zfs', ziok, ziv, zpok, zis', zlok, zlv', zls', zbok, zrok, zrv', zrs', zaok, zan, zcok, zcs', zis, zgv, zgh, zcat, zw_1, zw_21, zw_at, zclr_int, zclr_ref, zclr_null, zclr_none, zclr_long, zclr_clr, zbv_0, zbv_1, zbv_ite, zbv_ite', Value.category, xr0, xr1, xr2, xr3, xr4, xr5, xr6, xr7, xr8, xr265, xr266, xr267, xr268, xr269, xr270, xr271, xr272, xr273, xr274, xr275, xr276, xr277, xr278, xr279, xr280, xr281, xr282, xr283, xr284, xr285, xr286, xr287, xr288, xr289, xr290, xr291, xr292, xr293, xr294, xr295, xr296, xr297, xr298, xr299, xr300, xr301, xr302, xv2, xv3, xv4, xv6, xv7, xv266, xv268, xv269, xv270, xv271, xv273, xv274, xv275, xv276, xv277, xv278, xv279, xv280, xv281, xv282, xv283, xv284, xv285, xv286, xv287, xv288, xv289, xv290, xv291, xv292, xv293, xv294, xv295, xv296, xv297, xv298, xv299, xv300, xv301, xv302, znar0, znar1, znarI, zfitb, zfitb1, w1]
    · simp [I_X10_weighs, E_X10_weighs, zfok, zfv, zfs', ziok, ziv, zpok, zis', zlok, zlv', zls', zbok, zrok, zrv', zrs', zaok, zan, zcok, zcs', zis, zgv, zgh, zcat, zw_1, zw_21, zw_at, zclr_int, zclr_ref, zclr_null, zclr_none, zclr_long, zclr_clr, zbv_0, zbv_1, zbv_ite, zbv_ite', Value.category, xr0, xr1, xr2, xr3, xr4, xr5, xr6, xr7, xr8, xr265, xr266, xr267, xr268, xr269, xr270, xr271, xr272, xr273, xr274, xr275, xr276, xr277, xr278, xr279, xr280, xr281, xr282, xr283, xr284, xr285, xr286, xr287, xr288, xr289, xr290, xr291, xr292, xr293, xr294, xr295, xr296, xr297, xr298, xr299, xr300, xr301, xr302, xv2, xv3, xv4, xv6, xv7, xv266, xv268, xv269, xv270, xv271, xv273, xv274, xv275, xv276, xv277, xv278, xv279, xv280, xv281, xv282, xv283, xv284, xv285, xv286, xv287, xv288, xv289, xv290, xv291, xv292, xv293, xv294, xv295, xv296, xv297, xv298, xv299, xv300, xv301, xv302, znar0, znar1, znarI, zfitb, zfitb1, w2]
theorem c_headOf (ok : xOk σ) (rc : xRC σ C) (rm : xRM ca σ M) (d : Int32) : xOut ca 69 115 [.int d] [.int d] L xs s C M σ := by
  have w1 := s_hasWord (h := xW L xs s C M) (o := 2) (t := 3) (q := 4) (n := C.N) (d := d) xr2
  have w2 := m_isWord (L := L) (s := s) (xs := xs) (C := C) (M := M) (d := d)
  rw [rm.N] at w2
  rw [rc.N] at w1
  have n7 := ok.d.n7
  by_cases h : 1 ≤ d ∧ d ≤ nI σ.N
  · rw [if_pos h] at w1 w2
    obtain ⟨j, h2, h3, rfl⟩ := x_word ok h
    have e2 : zin (nI j) 8 = true := zin8 (by omega) (by omega)
    have e3 : (nI j).toNatClampNeg = j := zcl7 (by omega)
    refine ⟨.int (nI (σ.hd j)), σ, s, C, M, ?_, ?_, ok, rc, rm, rfl⟩
    · simp [I_X9_headOf, E_X9_headOf, zfok, zfv, zfs', ziok, ziv, zpok, zis', zlok, zlv', zls', zbok, zrok, zrv', zrs', zaok, zan, zcok, zcs', zis, zgv, zgh, zcat, zw_1, zw_21, zw_at, zclr_int, zclr_ref, zclr_null, zclr_none, zclr_long, zclr_clr, zbv_0, zbv_1, zbv_ite, zbv_ite', Value.category, xr0, xr1, xr2, xr3, xr4, xr5, xr6, xr7, xr8, xr265, xr266, xr267, xr268, xr269, xr270, xr271, xr272, xr273, xr274, xr275, xr276, xr277, xr278, xr279, xr280, xr281, xr282, xr283, xr284, xr285, xr286, xr287, xr288, xr289, xr290, xr291, xr292, xr293, xr294, xr295, xr296, xr297, xr298, xr299, xr300, xr301, xr302, xv2, xv3, xv4, xv6, xv7, xv266, xv268, xv269, xv270, xv271, xv273, xv274, xv275, xv276, xv277, xv278, xv279, xv280, xv281, xv282, xv283, xv284, xv285, xv286, xv287, xv288, xv289, xv290, xv291, xv292, xv293, xv294, xv295, xv296, xv297, xv298, xv299, xv300, xv301, xv302, znar0, znar1, znarI, zfitb, zfitb1, w1, e2, e3, rc.hd]
    · simp [I_X10_headOf, E_X10_headOf, zfok, zfv, zfs', ziok, ziv, zpok, zis', zlok, zlv', zls', zbok, zrok, zrv', zrs', zaok, zan, zcok, zcs', zis, zgv, zgh, zcat, zw_1, zw_21, zw_at, zclr_int, zclr_ref, zclr_null, zclr_none, zclr_long, zclr_clr, zbv_0, zbv_1, zbv_ite, zbv_ite', Value.category, xr0, xr1, xr2, xr3, xr4, xr5, xr6, xr7, xr8, xr265, xr266, xr267, xr268, xr269, xr270, xr271, xr272, xr273, xr274, xr275, xr276, xr277, xr278, xr279, xr280, xr281, xr282, xr283, xr284, xr285, xr286, xr287, xr288, xr289, xr290, xr291, xr292, xr293, xr294, xr295, xr296, xr297, xr298, xr299, xr300, xr301, xr302, xv2, xv3, xv4, xv6, xv7, xv266, xv268, xv269, xv270, xv271, xv273, xv274, xv275, xv276, xv277, xv278, xv279, xv280, xv281, xv282, xv283, xv284, xv285, xv286, xv287, xv288, xv289, xv290, xv291, xv292, xv293, xv294, xv295, xv296, xv297, xv298, xv299, xv300, xv301, xv302, znar0, znar1, znarI, zfitb, zfitb1, w2, e2, e3, rm.hd]
  · rw [if_neg h] at w1 w2
    refine ⟨.int (-1), σ, s, C, M, ?_, ?_, ok, rc, rm, rfl⟩
    · simp [I_X9_headOf, E_X9_headOf, zfok, zfv, zfs', ziok, ziv, zpok, zis', zlok, zlv', zls', zbok, zrok, zrv', zrs', zaok, zan, zcok, zcs', zis, zgv, zgh, zcat, zw_1, zw_21, zw_at, zclr_int, zclr_ref, zclr_null, zclr_none, zclr_long, zclr_clr, zbv_0, zbv_1, zbv_ite, zbv_ite', Value.category, xr0, xr1, xr2, xr3, xr4, xr5, xr6, xr7, xr8, xr265, xr266, xr267, xr268, xr269, xr270, xr271, xr272, xr273, xr274, xr275, xr276, xr277, xr278, xr279, xr280, xr281, xr282, xr283, xr284, xr285, xr286, xr287, xr288, xr289, xr290, xr291, xr292, xr293, xr294, xr295, xr296, xr297, xr298, xr299, xr300, xr301, xr302, xv2, xv3, xv4, xv6, xv7, xv266, xv268, xv269, xv270, xv271, xv273, xv274, xv275, xv276, xv277, xv278, xv279, xv280, xv281, xv282, xv283, xv284, xv285, xv286, xv287, xv288, xv289, xv290, xv291, xv292, xv293, xv294, xv295, xv296, xv297, xv298, xv299, xv300, xv301, xv302, znar0, znar1, znarI, zfitb, zfitb1, w1]
    · simp [I_X10_headOf, E_X10_headOf, zfok, zfv, zfs', ziok, ziv, zpok, zis', zlok, zlv', zls', zbok, zrok, zrv', zrs', zaok, zan, zcok, zcs', zis, zgv, zgh, zcat, zw_1, zw_21, zw_at, zclr_int, zclr_ref, zclr_null, zclr_none, zclr_long, zclr_clr, zbv_0, zbv_1, zbv_ite, zbv_ite', Value.category, xr0, xr1, xr2, xr3, xr4, xr5, xr6, xr7, xr8, xr265, xr266, xr267, xr268, xr269, xr270, xr271, xr272, xr273, xr274, xr275, xr276, xr277, xr278, xr279, xr280, xr281, xr282, xr283, xr284, xr285, xr286, xr287, xr288, xr289, xr290, xr291, xr292, xr293, xr294, xr295, xr296, xr297, xr298, xr299, xr300, xr301, xr302, xv2, xv3, xv4, xv6, xv7, xv266, xv268, xv269, xv270, xv271, xv273, xv274, xv275, xv276, xv277, xv278, xv279, xv280, xv281, xv282, xv283, xv284, xv285, xv286, xv287, xv288, xv289, xv290, xv291, xv292, xv293, xv294, xv295, xv296, xv297, xv298, xv299, xv300, xv301, xv302, znar0, znar1, znarI, zfitb, zfitb1, w2]
theorem c_head (ok : xOk σ) (rc : xRC σ C) (rm : xRM ca σ M) (d p : Int32) : xOut ca 108 142 [.int d, .int p] [.int d, .int p] L xs s C M σ := by
  have w1 := s_hasArc (h := xW L xs s C M) (o := 2) (t := 3) (q := 4) (n := C.N) (p := p) (d := d) xr2
  have w2 := fun C => m_isPair (L := L) (s := s) (xs := xs) (C := C) (M := M) (p := p) (d := d)
  rw [rm.N] at w2
  rw [rc.N] at w1
  have n7 := ok.d.n7
  by_cases h : (0 ≤ p ∧ p ≤ nI σ.N) ∧ (1 ≤ d ∧ d ≤ nI σ.N) ∧ ¬ p = d
  · rw [if_pos h] at w1
    simp only [if_pos h] at w2
    obtain ⟨i, j, h1, h2, h3, h4, rfl, rfl⟩ := x_pair ok h
    have e2 : zin (nI j) 8 = true := zin8 (by omega) (by omega)
    have e3 : (nI j).toNatClampNeg = j := zcl7 (by omega)
    refine ⟨.int (nI (σ.hd j)), { σ with hd := zupd σ.hd j i }, s, { C with hd := upd C.hd j (nI i) }, { M with hd := upd M.hd j (nI i) }, ?_, ?_, ?_, ?_, ?_, rfl⟩
    · simp [I_X9_head, E_X9_head, zfok, zfv, zfs', ziok, ziv, zpok, zis', zlok, zlv', zls', zbok, zrok, zrv', zrs', zaok, zan, zcok, zcs', zis, zgv, zgh, zcat, zw_1, zw_21, zw_at, zclr_int, zclr_ref, zclr_null, zclr_none, zclr_long, zclr_clr, zbv_0, zbv_1, zbv_ite, zbv_ite', Value.category, xr0, xr1, xr2, xr3, xr4, xr5, xr6, xr7, xr8, xr265, xr266, xr267, xr268, xr269, xr270, xr271, xr272, xr273, xr274, xr275, xr276, xr277, xr278, xr279, xr280, xr281, xr282, xr283, xr284, xr285, xr286, xr287, xr288, xr289, xr290, xr291, xr292, xr293, xr294, xr295, xr296, xr297, xr298, xr299, xr300, xr301, xr302, xv2, xv3, xv4, xv6, xv7, xv266, xv268, xv269, xv270, xv271, xv273, xv274, xv275, xv276, xv277, xv278, xv279, xv280, xv281, xv282, xv283, xv284, xv285, xv286, xv287, xv288, xv289, xv290, xv291, xv292, xv293, xv294, xv295, xv296, xv297, xv298, xv299, xv300, xv301, xv302, znar0, znar1, znarI, zfitb, zfitb1, w1, e2, e3, rc.hd]
    · simp [I_X10_head, E_X10_head, zfok, zfv, zfs', ziok, ziv, zpok, zis', zlok, zlv', zls', zbok, zrok, zrv', zrs', zaok, zan, zcok, zcs', zis, zgv, zgh, zcat, zw_1, zw_21, zw_at, zclr_int, zclr_ref, zclr_null, zclr_none, zclr_long, zclr_clr, zbv_0, zbv_1, zbv_ite, zbv_ite', Value.category, xr0, xr1, xr2, xr3, xr4, xr5, xr6, xr7, xr8, xr265, xr266, xr267, xr268, xr269, xr270, xr271, xr272, xr273, xr274, xr275, xr276, xr277, xr278, xr279, xr280, xr281, xr282, xr283, xr284, xr285, xr286, xr287, xr288, xr289, xr290, xr291, xr292, xr293, xr294, xr295, xr296, xr297, xr298, xr299, xr300, xr301, xr302, xv2, xv3, xv4, xv6, xv7, xv266, xv268, xv269, xv270, xv271, xv273, xv274, xv275, xv276, xv277, xv278, xv279, xv280, xv281, xv282, xv283, xv284, xv285, xv286, xv287, xv288, xv289, xv290, xv291, xv292, xv293, xv294, xv295, xv296, xv297, xv298, xv299, xv300, xv301, xv302, znar0, znar1, znarI, zfitb, zfitb1, w2, e2, e3, rm.hd]
    · refine { ok with d := { ok.d with hn := ?_, h0 := ?_, hz := ?_ } }
      · intro d
        show zupd σ.hd j i d ≤ σ.N
        unfold zupd
        split
        · exact h1
        · exact ok.d.hn d
      · show zupd σ.hd j i 0 = 0
        unfold zupd; rw [if_neg (by omega)]; exact ok.d.h0
      · intro d hd
        show zupd σ.hd j i d = 0
        have hd' : σ.N < d := hd
        unfold zupd; rw [if_neg (by omega)]; exact ok.d.hz d hd
    · refine { rc with hd := ?_ }
      show upd C.hd j (nI i) = fun d => nI (zupd σ.hd j i d)
      rw [rc.hd, z_updN]
    · refine { rm with hd := ?_ }
      show upd M.hd j (nI i) = fun d => nI (zupd σ.hd j i d)
      rw [rm.hd, z_updN]
  · rw [if_neg h] at w1
    simp only [if_neg h] at w2
    refine ⟨.int (-101), σ, s, C, M, ?_, ?_, ok, rc, rm, rfl⟩
    · simp [I_X9_head, E_X9_head, zfok, zfv, zfs', ziok, ziv, zpok, zis', zlok, zlv', zls', zbok, zrok, zrv', zrs', zaok, zan, zcok, zcs', zis, zgv, zgh, zcat, zw_1, zw_21, zw_at, zclr_int, zclr_ref, zclr_null, zclr_none, zclr_long, zclr_clr, zbv_0, zbv_1, zbv_ite, zbv_ite', Value.category, xr0, xr1, xr2, xr3, xr4, xr5, xr6, xr7, xr8, xr265, xr266, xr267, xr268, xr269, xr270, xr271, xr272, xr273, xr274, xr275, xr276, xr277, xr278, xr279, xr280, xr281, xr282, xr283, xr284, xr285, xr286, xr287, xr288, xr289, xr290, xr291, xr292, xr293, xr294, xr295, xr296, xr297, xr298, xr299, xr300, xr301, xr302, xv2, xv3, xv4, xv6, xv7, xv266, xv268, xv269, xv270, xv271, xv273, xv274, xv275, xv276, xv277, xv278, xv279, xv280, xv281, xv282, xv283, xv284, xv285, xv286, xv287, xv288, xv289, xv290, xv291, xv292, xv293, xv294, xv295, xv296, xv297, xv298, xv299, xv300, xv301, xv302, znar0, znar1, znarI, zfitb, zfitb1, w1]
    · simp [I_X10_head, E_X10_head, zfok, zfv, zfs', ziok, ziv, zpok, zis', zlok, zlv', zls', zbok, zrok, zrv', zrs', zaok, zan, zcok, zcs', zis, zgv, zgh, zcat, zw_1, zw_21, zw_at, zclr_int, zclr_ref, zclr_null, zclr_none, zclr_long, zclr_clr, zbv_0, zbv_1, zbv_ite, zbv_ite', Value.category, xr0, xr1, xr2, xr3, xr4, xr5, xr6, xr7, xr8, xr265, xr266, xr267, xr268, xr269, xr270, xr271, xr272, xr273, xr274, xr275, xr276, xr277, xr278, xr279, xr280, xr281, xr282, xr283, xr284, xr285, xr286, xr287, xr288, xr289, xr290, xr291, xr292, xr293, xr294, xr295, xr296, xr297, xr298, xr299, xr300, xr301, xr302, xv2, xv3, xv4, xv6, xv7, xv266, xv268, xv269, xv270, xv271, xv273, xv274, xv275, xv276, xv277, xv278, xv279, xv280, xv281, xv282, xv283, xv284, xv285, xv286, xv287, xv288, xv289, xv290, xv291, xv292, xv293, xv294, xv295, xv296, xv297, xv298, xv299, xv300, xv301, xv302, znar0, znar1, znarI, zfitb, zfitb1, w2]
theorem c_weight (ok : xOk σ) (rc : xRC σ C) (rm : xRM ca σ M) (p d w : Int32) : xOut ca 105 139 [.int p, .int d, .int w] [.int p, .int d, .int w] L xs s C M σ := by
  have w1 := s_hasArc (h := xW L xs s C M) (o := 2) (t := 3) (q := 4) (n := C.N) (p := p) (d := d) xr2
  have w2 := fun C => m_isPair (L := L) (s := s) (xs := xs) (C := C) (M := M) (p := p) (d := d)
  rw [rm.N] at w2
  rw [rc.N] at w1
  have n7 := ok.d.n7
  by_cases h : (0 ≤ p ∧ p ≤ nI σ.N) ∧ (1 ≤ d ∧ d ≤ nI σ.N) ∧ ¬ p = d
  · rw [if_pos h] at w1
    simp only [if_pos h] at w2
    by_cases q : -1000000 ≤ w ∧ w ≤ 1000000
    · obtain ⟨i, j, h1, h2, h3, h4, rfl, rfl⟩ := x_pair ok h
      have q1 : ¬ w < -1000000 := Int32.not_lt.mpr q.1
      have e1 := s_slot (h := xW L xs s C M) (p := i) (d := j) (by omega) (by omega)
      have e2 : zin (nI (8 * j + i)) 64 = true := zin8 (by omega) (by omega)
      have e3 : (nI (8 * j + i)).toNatClampNeg = 8 * j + i := zcl7 (by omega)
      refine ⟨.int (σ.wt (8 * j + i)), { σ with wt := upd σ.wt (8 * j + i) w }, s, { C with wt := upd C.wt (8 * j + i) w }, { M with wt := upd M.wt (8 * j + i) w, kn := 0 }, ?_, ?_, ?_, ?_, ?_, rfl⟩
      · simp [I_X9_weight, E_X9_weight, zfok, zfv, zfs', ziok, ziv, zpok, zis', zlok, zlv', zls', zbok, zrok, zrv', zrs', zaok, zan, zcok, zcs', zis, zgv, zgh, zcat, zw_1, zw_21, zw_at, zclr_int, zclr_ref, zclr_null, zclr_none, zclr_long, zclr_clr, zbv_0, zbv_1, zbv_ite, zbv_ite', Value.category, xr0, xr1, xr2, xr3, xr4, xr5, xr6, xr7, xr8, xr265, xr266, xr267, xr268, xr269, xr270, xr271, xr272, xr273, xr274, xr275, xr276, xr277, xr278, xr279, xr280, xr281, xr282, xr283, xr284, xr285, xr286, xr287, xr288, xr289, xr290, xr291, xr292, xr293, xr294, xr295, xr296, xr297, xr298, xr299, xr300, xr301, xr302, xv2, xv3, xv4, xv6, xv7, xv266, xv268, xv269, xv270, xv271, xv273, xv274, xv275, xv276, xv277, xv278, xv279, xv280, xv281, xv282, xv283, xv284, xv285, xv286, xv287, xv288, xv289, xv290, xv291, xv292, xv293, xv294, xv295, xv296, xv297, xv298, xv299, xv300, xv301, xv302, znar0, znar1, znarI, zfitb, zfitb1, w1, e1, e2, e3, rc.wt, q1, q.2]
      · simp [I_X10_weight, E_X10_weight, zfok, zfv, zfs', ziok, ziv, zpok, zis', zlok, zlv', zls', zbok, zrok, zrv', zrs', zaok, zan, zcok, zcs', zis, zgv, zgh, zcat, zw_1, zw_21, zw_at, zclr_int, zclr_ref, zclr_null, zclr_none, zclr_long, zclr_clr, zbv_0, zbv_1, zbv_ite, zbv_ite', Value.category, xr0, xr1, xr2, xr3, xr4, xr5, xr6, xr7, xr8, xr265, xr266, xr267, xr268, xr269, xr270, xr271, xr272, xr273, xr274, xr275, xr276, xr277, xr278, xr279, xr280, xr281, xr282, xr283, xr284, xr285, xr286, xr287, xr288, xr289, xr290, xr291, xr292, xr293, xr294, xr295, xr296, xr297, xr298, xr299, xr300, xr301, xr302, xv2, xv3, xv4, xv6, xv7, xv266, xv268, xv269, xv270, xv271, xv273, xv274, xv275, xv276, xv277, xv278, xv279, xv280, xv281, xv282, xv283, xv284, xv285, xv286, xv287, xv288, xv289, xv290, xv291, xv292, xv293, xv294, xv295, xv296, xv297, xv298, xv299, xv300, xv301, xv302, znar0, znar1, znarI, zfitb, zfitb1, w2, z8, e2, e3, rm.wt, m_in, q]
      · refine { ok with w1 := ?_, wz := ?_ }
        · intro k
          show -1000000 ≤ (upd σ.wt (8 * j + i) w k).toInt ∧ (upd σ.wt (8 * j + i) w k).toInt ≤ 1000000
          unfold upd
          split
          · have a1 := Int32.le_iff_toInt_le.mp q.1
            have a2 := Int32.le_iff_toInt_le.mp q.2
            have b1 : (-1000000 : Int32).toInt = -1000000 := by decide
            have b2 : (1000000 : Int32).toInt = 1000000 := by decide
            omega
          · exact ok.w1 k
        · intro k hk
          show upd σ.wt (8 * j + i) w k = 0
          unfold upd
          rw [if_neg (by omega)]
          exact ok.wz k hk
      · refine { rc with wt := ?_ }
        show upd C.wt (8 * j + i) w = upd σ.wt (8 * j + i) w
        rw [rc.wt]
      · refine { rm with wt := ?_, kn := Or.inl rfl }
        show upd M.wt (8 * j + i) w = upd σ.wt (8 * j + i) w
        rw [rm.wt]
    · refine ⟨.int (-102), σ, s, C, M, ?_, ?_, ok, rc, rm, rfl⟩
      · by_cases q1 : w < -1000000
        · simp [I_X9_weight, E_X9_weight, zfok, zfv, zfs', ziok, ziv, zpok, zis', zlok, zlv', zls', zbok, zrok, zrv', zrs', zaok, zan, zcok, zcs', zis, zgv, zgh, zcat, zw_1, zw_21, zw_at, zclr_int, zclr_ref, zclr_null, zclr_none, zclr_long, zclr_clr, zbv_0, zbv_1, zbv_ite, zbv_ite', Value.category, xr0, xr1, xr2, xr3, xr4, xr5, xr6, xr7, xr8, xr265, xr266, xr267, xr268, xr269, xr270, xr271, xr272, xr273, xr274, xr275, xr276, xr277, xr278, xr279, xr280, xr281, xr282, xr283, xr284, xr285, xr286, xr287, xr288, xr289, xr290, xr291, xr292, xr293, xr294, xr295, xr296, xr297, xr298, xr299, xr300, xr301, xr302, xv2, xv3, xv4, xv6, xv7, xv266, xv268, xv269, xv270, xv271, xv273, xv274, xv275, xv276, xv277, xv278, xv279, xv280, xv281, xv282, xv283, xv284, xv285, xv286, xv287, xv288, xv289, xv290, xv291, xv292, xv293, xv294, xv295, xv296, xv297, xv298, xv299, xv300, xv301, xv302, znar0, znar1, znarI, zfitb, zfitb1, w1, q1]
        · have q2 : ¬ w ≤ 1000000 := fun z => q ⟨Int32.not_lt.mp q1, z⟩
          simp [I_X9_weight, E_X9_weight, zfok, zfv, zfs', ziok, ziv, zpok, zis', zlok, zlv', zls', zbok, zrok, zrv', zrs', zaok, zan, zcok, zcs', zis, zgv, zgh, zcat, zw_1, zw_21, zw_at, zclr_int, zclr_ref, zclr_null, zclr_none, zclr_long, zclr_clr, zbv_0, zbv_1, zbv_ite, zbv_ite', Value.category, xr0, xr1, xr2, xr3, xr4, xr5, xr6, xr7, xr8, xr265, xr266, xr267, xr268, xr269, xr270, xr271, xr272, xr273, xr274, xr275, xr276, xr277, xr278, xr279, xr280, xr281, xr282, xr283, xr284, xr285, xr286, xr287, xr288, xr289, xr290, xr291, xr292, xr293, xr294, xr295, xr296, xr297, xr298, xr299, xr300, xr301, xr302, xv2, xv3, xv4, xv6, xv7, xv266, xv268, xv269, xv270, xv271, xv273, xv274, xv275, xv276, xv277, xv278, xv279, xv280, xv281, xv282, xv283, xv284, xv285, xv286, xv287, xv288, xv289, xv290, xv291, xv292, xv293, xv294, xv295, xv296, xv297, xv298, xv299, xv300, xv301, xv302, znar0, znar1, znarI, zfitb, zfitb1, w1, q1, q2]
      · simp [I_X10_weight, E_X10_weight, zfok, zfv, zfs', ziok, ziv, zpok, zis', zlok, zlv', zls', zbok, zrok, zrv', zrs', zaok, zan, zcok, zcs', zis, zgv, zgh, zcat, zw_1, zw_21, zw_at, zclr_int, zclr_ref, zclr_null, zclr_none, zclr_long, zclr_clr, zbv_0, zbv_1, zbv_ite, zbv_ite', Value.category, xr0, xr1, xr2, xr3, xr4, xr5, xr6, xr7, xr8, xr265, xr266, xr267, xr268, xr269, xr270, xr271, xr272, xr273, xr274, xr275, xr276, xr277, xr278, xr279, xr280, xr281, xr282, xr283, xr284, xr285, xr286, xr287, xr288, xr289, xr290, xr291, xr292, xr293, xr294, xr295, xr296, xr297, xr298, xr299, xr300, xr301, xr302, xv2, xv3, xv4, xv6, xv7, xv266, xv268, xv269, xv270, xv271, xv273, xv274, xv275, xv276, xv277, xv278, xv279, xv280, xv281, xv282, xv283, xv284, xv285, xv286, xv287, xv288, xv289, xv290, xv291, xv292, xv293, xv294, xv295, xv296, xv297, xv298, xv299, xv300, xv301, xv302, znar0, znar1, znarI, zfitb, zfitb1, w2, m_in, q]
  · rw [if_neg h] at w1
    simp only [if_neg h] at w2
    refine ⟨.int (-101), σ, s, C, M, ?_, ?_, ok, rc, rm, rfl⟩
    · simp [I_X9_weight, E_X9_weight, zfok, zfv, zfs', ziok, ziv, zpok, zis', zlok, zlv', zls', zbok, zrok, zrv', zrs', zaok, zan, zcok, zcs', zis, zgv, zgh, zcat, zw_1, zw_21, zw_at, zclr_int, zclr_ref, zclr_null, zclr_none, zclr_long, zclr_clr, zbv_0, zbv_1, zbv_ite, zbv_ite', Value.category, xr0, xr1, xr2, xr3, xr4, xr5, xr6, xr7, xr8, xr265, xr266, xr267, xr268, xr269, xr270, xr271, xr272, xr273, xr274, xr275, xr276, xr277, xr278, xr279, xr280, xr281, xr282, xr283, xr284, xr285, xr286, xr287, xr288, xr289, xr290, xr291, xr292, xr293, xr294, xr295, xr296, xr297, xr298, xr299, xr300, xr301, xr302, xv2, xv3, xv4, xv6, xv7, xv266, xv268, xv269, xv270, xv271, xv273, xv274, xv275, xv276, xv277, xv278, xv279, xv280, xv281, xv282, xv283, xv284, xv285, xv286, xv287, xv288, xv289, xv290, xv291, xv292, xv293, xv294, xv295, xv296, xv297, xv298, xv299, xv300, xv301, xv302, znar0, znar1, znarI, zfitb, zfitb1, w1]
    · simp [I_X10_weight, E_X10_weight, zfok, zfv, zfs', ziok, ziv, zpok, zis', zlok, zlv', zls', zbok, zrok, zrv', zrs', zaok, zan, zcok, zcs', zis, zgv, zgh, zcat, zw_1, zw_21, zw_at, zclr_int, zclr_ref, zclr_null, zclr_none, zclr_long, zclr_clr, zbv_0, zbv_1, zbv_ite, zbv_ite', Value.category, xr0, xr1, xr2, xr3, xr4, xr5, xr6, xr7, xr8, xr265, xr266, xr267, xr268, xr269, xr270, xr271, xr272, xr273, xr274, xr275, xr276, xr277, xr278, xr279, xr280, xr281, xr282, xr283, xr284, xr285, xr286, xr287, xr288, xr289, xr290, xr291, xr292, xr293, xr294, xr295, xr296, xr297, xr298, xr299, xr300, xr301, xr302, xv2, xv3, xv4, xv6, xv7, xv266, xv268, xv269, xv270, xv271, xv273, xv274, xv275, xv276, xv277, xv278, xv279, xv280, xv281, xv282, xv283, xv284, xv285, xv286, xv287, xv288, xv289, xv290, xv291, xv292, xv293, xv294, xv295, xv296, xv297, xv298, xv299, xv300, xv301, xv302, znar0, znar1, znarI, zfitb, zfitb1, w2]
theorem c_forbid (ok : xOk σ) (rc : xRC σ C) (rm : xRM ca σ M) (p d : Int32) (y : Bool) : xOut ca 106 140 [.int p, .int d, .int (if y = true then 1 else 0)] [.int p, .int d, .int (if y = true then 1 else 0)] L xs s C M σ := by
  have w1 := s_hasArc (h := xW L xs s C M) (o := 2) (t := 3) (q := 4) (n := C.N) (p := p) (d := d) xr2
  have w2 := fun C => m_isPair (L := L) (s := s) (xs := xs) (C := C) (M := M) (p := p) (d := d)
  rw [rm.N] at w2
  rw [rc.N] at w1
  have n7 := ok.d.n7
  by_cases h : (0 ≤ p ∧ p ≤ nI σ.N) ∧ (1 ≤ d ∧ d ≤ nI σ.N) ∧ ¬ p = d
  · rw [if_pos h] at w1
    simp only [if_pos h] at w2
    obtain ⟨i, j, h1, h2, h3, h4, rfl, rfl⟩ := x_pair ok h
    have e1 := s_slot (h := xW L xs s C M) (p := i) (d := j) (by omega) (by omega)
    have e2 : zin (nI (8 * j + i)) 64 = true := zin8 (by omega) (by omega)
    have e3 : (nI (8 * j + i)).toNatClampNeg = 8 * j + i := zcl7 (by omega)
    have f1 := ok.f1 (8 * j + i)
    have e4 : (if nI (σ.fb (8 * j + i)) = 0 then (0 : Int32) else 1) = nI (σ.fb (8 * j + i)) := by
      have : σ.fb (8 * j + i) = 0 ∨ σ.fb (8 * j + i) = 1 := by omega
      rcases this with z | z <;> rw [z] <;> rfl
    refine ⟨.int (nI (σ.fb (8 * j + i))), { σ with fb := zupd σ.fb (8 * j + i) (if y = true then 1 else 0) }, s, { C with fb := upd C.fb (8 * j + i) (if y = true then 1 else 0) }, { M with fb := upd M.fb (8 * j + i) (if y = true then 1 else 0), kn := 0 }, ?_, ?_, ?_, ?_, ?_, rfl⟩
    · cases y
      · simp [I_X9_forbid, E_X9_forbid, zfok, zfv, zfs', ziok, ziv, zpok, zis', zlok, zlv', zls', zbok, zrok, zrv', zrs', zaok, zan, zcok, zcs', zis, zgv, zgh, zcat, zw_1, zw_21, zw_at, zclr_int, zclr_ref, zclr_null, zclr_none, zclr_long, zclr_clr, zbv_0, zbv_1, zbv_ite, zbv_ite', Value.category, xr0, xr1, xr2, xr3, xr4, xr5, xr6, xr7, xr8, xr265, xr266, xr267, xr268, xr269, xr270, xr271, xr272, xr273, xr274, xr275, xr276, xr277, xr278, xr279, xr280, xr281, xr282, xr283, xr284, xr285, xr286, xr287, xr288, xr289, xr290, xr291, xr292, xr293, xr294, xr295, xr296, xr297, xr298, xr299, xr300, xr301, xr302, xv2, xv3, xv4, xv6, xv7, xv266, xv268, xv269, xv270, xv271, xv273, xv274, xv275, xv276, xv277, xv278, xv279, xv280, xv281, xv282, xv283, xv284, xv285, xv286, xv287, xv288, xv289, xv290, xv291, xv292, xv293, xv294, xv295, xv296, xv297, xv298, xv299, xv300, xv301, xv302, znar0, znar1, znarI, zfitb, zfitb1, w1, e1, e2, e3, rc.fb]
      · simp [I_X9_forbid, E_X9_forbid, zfok, zfv, zfs', ziok, ziv, zpok, zis', zlok, zlv', zls', zbok, zrok, zrv', zrs', zaok, zan, zcok, zcs', zis, zgv, zgh, zcat, zw_1, zw_21, zw_at, zclr_int, zclr_ref, zclr_null, zclr_none, zclr_long, zclr_clr, zbv_0, zbv_1, zbv_ite, zbv_ite', Value.category, xr0, xr1, xr2, xr3, xr4, xr5, xr6, xr7, xr8, xr265, xr266, xr267, xr268, xr269, xr270, xr271, xr272, xr273, xr274, xr275, xr276, xr277, xr278, xr279, xr280, xr281, xr282, xr283, xr284, xr285, xr286, xr287, xr288, xr289, xr290, xr291, xr292, xr293, xr294, xr295, xr296, xr297, xr298, xr299, xr300, xr301, xr302, xv2, xv3, xv4, xv6, xv7, xv266, xv268, xv269, xv270, xv271, xv273, xv274, xv275, xv276, xv277, xv278, xv279, xv280, xv281, xv282, xv283, xv284, xv285, xv286, xv287, xv288, xv289, xv290, xv291, xv292, xv293, xv294, xv295, xv296, xv297, xv298, xv299, xv300, xv301, xv302, znar0, znar1, znarI, zfitb, zfitb1, w1, e1, e2, e3, rc.fb]
    · have z : σ.fb (8 * j + i) = 0 ∨ σ.fb (8 * j + i) = 1 := by omega
      have n1 : ¬ nI 1 = 0 := by decide
      rcases z with z | z
      · cases y
        · simp [I_X10_forbid, E_X10_forbid, zfok, zfv, zfs', ziok, ziv, zpok, zis', zlok, zlv', zls', zbok, zrok, zrv', zrs', zaok, zan, zcok, zcs', zis, zgv, zgh, zcat, zw_1, zw_21, zw_at, zclr_int, zclr_ref, zclr_null, zclr_none, zclr_long, zclr_clr, zbv_0, zbv_1, zbv_ite, zbv_ite', Value.category, xr0, xr1, xr2, xr3, xr4, xr5, xr6, xr7, xr8, xr265, xr266, xr267, xr268, xr269, xr270, xr271, xr272, xr273, xr274, xr275, xr276, xr277, xr278, xr279, xr280, xr281, xr282, xr283, xr284, xr285, xr286, xr287, xr288, xr289, xr290, xr291, xr292, xr293, xr294, xr295, xr296, xr297, xr298, xr299, xr300, xr301, xr302, xv2, xv3, xv4, xv6, xv7, xv266, xv268, xv269, xv270, xv271, xv273, xv274, xv275, xv276, xv277, xv278, xv279, xv280, xv281, xv282, xv283, xv284, xv285, xv286, xv287, xv288, xv289, xv290, xv291, xv292, xv293, xv294, xv295, xv296, xv297, xv298, xv299, xv300, xv301, xv302, znar0, znar1, znarI, zfitb, zfitb1, w2, z8, e2, e3, rm.fb, z, nI_0]
        · simp [I_X10_forbid, E_X10_forbid, zfok, zfv, zfs', ziok, ziv, zpok, zis', zlok, zlv', zls', zbok, zrok, zrv', zrs', zaok, zan, zcok, zcs', zis, zgv, zgh, zcat, zw_1, zw_21, zw_at, zclr_int, zclr_ref, zclr_null, zclr_none, zclr_long, zclr_clr, zbv_0, zbv_1, zbv_ite, zbv_ite', Value.category, xr0, xr1, xr2, xr3, xr4, xr5, xr6, xr7, xr8, xr265, xr266, xr267, xr268, xr269, xr270, xr271, xr272, xr273, xr274, xr275, xr276, xr277, xr278, xr279, xr280, xr281, xr282, xr283, xr284, xr285, xr286, xr287, xr288, xr289, xr290, xr291, xr292, xr293, xr294, xr295, xr296, xr297, xr298, xr299, xr300, xr301, xr302, xv2, xv3, xv4, xv6, xv7, xv266, xv268, xv269, xv270, xv271, xv273, xv274, xv275, xv276, xv277, xv278, xv279, xv280, xv281, xv282, xv283, xv284, xv285, xv286, xv287, xv288, xv289, xv290, xv291, xv292, xv293, xv294, xv295, xv296, xv297, xv298, xv299, xv300, xv301, xv302, znar0, znar1, znarI, zfitb, zfitb1, w2, z8, e2, e3, rm.fb, z, nI_0]
      · cases y
        · simp [I_X10_forbid, E_X10_forbid, zfok, zfv, zfs', ziok, ziv, zpok, zis', zlok, zlv', zls', zbok, zrok, zrv', zrs', zaok, zan, zcok, zcs', zis, zgv, zgh, zcat, zw_1, zw_21, zw_at, zclr_int, zclr_ref, zclr_null, zclr_none, zclr_long, zclr_clr, zbv_0, zbv_1, zbv_ite, zbv_ite', Value.category, xr0, xr1, xr2, xr3, xr4, xr5, xr6, xr7, xr8, xr265, xr266, xr267, xr268, xr269, xr270, xr271, xr272, xr273, xr274, xr275, xr276, xr277, xr278, xr279, xr280, xr281, xr282, xr283, xr284, xr285, xr286, xr287, xr288, xr289, xr290, xr291, xr292, xr293, xr294, xr295, xr296, xr297, xr298, xr299, xr300, xr301, xr302, xv2, xv3, xv4, xv6, xv7, xv266, xv268, xv269, xv270, xv271, xv273, xv274, xv275, xv276, xv277, xv278, xv279, xv280, xv281, xv282, xv283, xv284, xv285, xv286, xv287, xv288, xv289, xv290, xv291, xv292, xv293, xv294, xv295, xv296, xv297, xv298, xv299, xv300, xv301, xv302, znar0, znar1, znarI, zfitb, zfitb1, w2, z8, e2, e3, rm.fb, z, n1]; rfl
        · simp [I_X10_forbid, E_X10_forbid, zfok, zfv, zfs', ziok, ziv, zpok, zis', zlok, zlv', zls', zbok, zrok, zrv', zrs', zaok, zan, zcok, zcs', zis, zgv, zgh, zcat, zw_1, zw_21, zw_at, zclr_int, zclr_ref, zclr_null, zclr_none, zclr_long, zclr_clr, zbv_0, zbv_1, zbv_ite, zbv_ite', Value.category, xr0, xr1, xr2, xr3, xr4, xr5, xr6, xr7, xr8, xr265, xr266, xr267, xr268, xr269, xr270, xr271, xr272, xr273, xr274, xr275, xr276, xr277, xr278, xr279, xr280, xr281, xr282, xr283, xr284, xr285, xr286, xr287, xr288, xr289, xr290, xr291, xr292, xr293, xr294, xr295, xr296, xr297, xr298, xr299, xr300, xr301, xr302, xv2, xv3, xv4, xv6, xv7, xv266, xv268, xv269, xv270, xv271, xv273, xv274, xv275, xv276, xv277, xv278, xv279, xv280, xv281, xv282, xv283, xv284, xv285, xv286, xv287, xv288, xv289, xv290, xv291, xv292, xv293, xv294, xv295, xv296, xv297, xv298, xv299, xv300, xv301, xv302, znar0, znar1, znarI, zfitb, zfitb1, w2, z8, e2, e3, rm.fb, z, n1]; rfl
    · refine { ok with f1 := ?_, fz := ?_ }
      · intro k
        show zupd σ.fb (8 * j + i) (if y = true then 1 else 0) k ≤ 1
        unfold zupd
        split
        · split <;> omega
        · exact ok.f1 k
      · intro k hk
        show zupd σ.fb (8 * j + i) (if y = true then 1 else 0) k = 0
        unfold zupd
        rw [if_neg (by omega)]
        exact ok.fz k hk
    · refine { rc with fb := ?_ }
      show upd C.fb (8 * j + i) (if y = true then 1 else 0) = fun d => nI (zupd σ.fb (8 * j + i) (if y = true then 1 else 0) d)
      rw [rc.fb, ← z_updN]
      cases y <;> rfl
    · refine { rm with fb := ?_, kn := Or.inl rfl }
      show upd M.fb (8 * j + i) (if y = true then 1 else 0) = fun d => nI (zupd σ.fb (8 * j + i) (if y = true then 1 else 0) d)
      rw [rm.fb, ← z_updN]
      cases y <;> rfl
  · rw [if_neg h] at w1
    simp only [if_neg h] at w2
    refine ⟨.int (-101), σ, s, C, M, ?_, ?_, ok, rc, rm, rfl⟩
    · simp [I_X9_forbid, E_X9_forbid, zfok, zfv, zfs', ziok, ziv, zpok, zis', zlok, zlv', zls', zbok, zrok, zrv', zrs', zaok, zan, zcok, zcs', zis, zgv, zgh, zcat, zw_1, zw_21, zw_at, zclr_int, zclr_ref, zclr_null, zclr_none, zclr_long, zclr_clr, zbv_0, zbv_1, zbv_ite, zbv_ite', Value.category, xr0, xr1, xr2, xr3, xr4, xr5, xr6, xr7, xr8, xr265, xr266, xr267, xr268, xr269, xr270, xr271, xr272, xr273, xr274, xr275, xr276, xr277, xr278, xr279, xr280, xr281, xr282, xr283, xr284, xr285, xr286, xr287, xr288, xr289, xr290, xr291, xr292, xr293, xr294, xr295, xr296, xr297, xr298, xr299, xr300, xr301, xr302, xv2, xv3, xv4, xv6, xv7, xv266, xv268, xv269, xv270, xv271, xv273, xv274, xv275, xv276, xv277, xv278, xv279, xv280, xv281, xv282, xv283, xv284, xv285, xv286, xv287, xv288, xv289, xv290, xv291, xv292, xv293, xv294, xv295, xv296, xv297, xv298, xv299, xv300, xv301, xv302, znar0, znar1, znarI, zfitb, zfitb1, w1]
    · simp [I_X10_forbid, E_X10_forbid, zfok, zfv, zfs', ziok, ziv, zpok, zis', zlok, zlv', zls', zbok, zrok, zrv', zrs', zaok, zan, zcok, zcs', zis, zgv, zgh, zcat, zw_1, zw_21, zw_at, zclr_int, zclr_ref, zclr_null, zclr_none, zclr_long, zclr_clr, zbv_0, zbv_1, zbv_ite, zbv_ite', Value.category, xr0, xr1, xr2, xr3, xr4, xr5, xr6, xr7, xr8, xr265, xr266, xr267, xr268, xr269, xr270, xr271, xr272, xr273, xr274, xr275, xr276, xr277, xr278, xr279, xr280, xr281, xr282, xr283, xr284, xr285, xr286, xr287, xr288, xr289, xr290, xr291, xr292, xr293, xr294, xr295, xr296, xr297, xr298, xr299, xr300, xr301, xr302, xv2, xv3, xv4, xv6, xv7, xv266, xv268, xv269, xv270, xv271, xv273, xv274, xv275, xv276, xv277, xv278, xv279, xv280, xv281, xv282, xv283, xv284, xv285, xv286, xv287, xv288, xv289, xv290, xv291, xv292, xv293, xv294, xv295, xv296, xv297, xv298, xv299, xv300, xv301, xv302, znar0, znar1, znarI, zfitb, zfitb1, w2]
theorem c_clear (ok : xOk σ) (rc : xRC σ C) (rm : xRM ca σ M) : xOut ca 21 35 [] [] L xs s C M σ := by
  refine ⟨.int (nI σ.A), { σ with A := 0 }, s, { C with A := 0 }, { M with A := 0 }, ?_, ?_, ?_, ?_, ?_, rfl⟩
  · simp [I_X9_clear, E_X9_clear, zfok, zfv, zfs', ziok, ziv, zpok, zis', zlok, zlv', zls', zbok, zrok, zrv', zrs', zaok, zan, zcok, zcs', zis, zgv, zgh, zcat, zw_1, zw_21, zw_at, zclr_int, zclr_ref, zclr_null, zclr_none, zclr_long, zclr_clr, zbv_0, zbv_1, zbv_ite, zbv_ite', Value.category, xr0, xr1, xr2, xr3, xr4, xr5, xr6, xr7, xr8, xr265, xr266, xr267, xr268, xr269, xr270, xr271, xr272, xr273, xr274, xr275, xr276, xr277, xr278, xr279, xr280, xr281, xr282, xr283, xr284, xr285, xr286, xr287, xr288, xr289, xr290, xr291, xr292, xr293, xr294, xr295, xr296, xr297, xr298, xr299, xr300, xr301, xr302, xv2, xv3, xv4, xv6, xv7, xv266, xv268, xv269, xv270, xv271, xv273, xv274, xv275, xv276, xv277, xv278, xv279, xv280, xv281, xv282, xv283, xv284, xv285, xv286, xv287, xv288, xv289, xv290, xv291, xv292, xv293, xv294, xv295, xv296, xv297, xv298, xv299, xv300, xv301, xv302, znar0, znar1, znarI, zfitb, zfitb1, rc.A]
  · simp [I_X10_clear, E_X10_clear, zfok, zfv, zfs', ziok, ziv, zpok, zis', zlok, zlv', zls', zbok, zrok, zrv', zrs', zaok, zan, zcok, zcs', zis, zgv, zgh, zcat, zw_1, zw_21, zw_at, zclr_int, zclr_ref, zclr_null, zclr_none, zclr_long, zclr_clr, zbv_0, zbv_1, zbv_ite, zbv_ite', Value.category, xr0, xr1, xr2, xr3, xr4, xr5, xr6, xr7, xr8, xr265, xr266, xr267, xr268, xr269, xr270, xr271, xr272, xr273, xr274, xr275, xr276, xr277, xr278, xr279, xr280, xr281, xr282, xr283, xr284, xr285, xr286, xr287, xr288, xr289, xr290, xr291, xr292, xr293, xr294, xr295, xr296, xr297, xr298, xr299, xr300, xr301, xr302, xv2, xv3, xv4, xv6, xv7, xv266, xv268, xv269, xv270, xv271, xv273, xv274, xv275, xv276, xv277, xv278, xv279, xv280, xv281, xv282, xv283, xv284, xv285, xv286, xv287, xv288, xv289, xv290, xv291, xv292, xv293, xv294, xv295, xv296, xv297, xv298, xv299, xv300, xv301, xv302, znar0, znar1, znarI, zfitb, zfitb1, rm.A]
  · exact { ok with A6 := Nat.zero_le _, q4 := fun i hi => absurd hi (Nat.not_lt_zero i) }
  · exact { rc with A := rfl, q := fun i hi => absurd hi (Nat.not_lt_zero i) }
  · exact { rm with A := rfl, q := fun i hi => absurd hi (Nat.not_lt_zero i) }
end CASES1
