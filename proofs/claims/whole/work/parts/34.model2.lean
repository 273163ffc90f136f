/-! the reference: trees -/
section MODEL2
variable {L s : Nat} {xs : Nat → Int32} {C : xC} {M : xM} {N : Nat} {f : Nat → Nat}
theorem zit_0 (hf0 : f 0 = 0) : ∀ c, zit f c 0 = 0
  | 0 => rfl
  | c + 1 => by
    show zit f c (f 0) = 0
    rw [hf0]; exact zit_0 hf0 c
theorem l_mtree2 (hr : M.rw = fun d => nI (f d)) (hf : ∀ d, f d ≤ 7) (hf0 : f 0 = 0) (hN : N ≤ 7) {d : Nat} (hd : d ≤ 7) : ∀ (c x : Nat) (l2 : Option Value), c ≤ N + 1 → x ≤ 7 →
    ∃ l4 l5, zD 29 19 [some (.ref 283), some (.int (nI N)), l2, some (.int (nI d)), some (.int (nI x)), some (.int (nI (N + 1 - c)))] [] (xW L xs s C M) = zD 29 4 [some (.ref 283), some (.int (nI N)), some (.int (if zit f c x = 0 then 1 else 0)), some (.int (nI (d + 1))), l4, l5] [] (xW L xs s C M)
  | 0, x, l2, hc, hx => by
    refine ⟨some (.int (nI x)), some (.int (nI (N + 1))), ?_⟩
    rw [E_X10_isTree_h19]
    have e1 : nI N < nI (N + 1) := by rw [zlt (by omega) (by omega)]; omega
    have e2 : nI d + 1 = nI (d + 1) := nI_1 d
    have e3 : (nI x = 0) ↔ x = 0 := zeq (b := 0) (by omega) (by omega)
    simp [E_X10_isTree, zfok, zfv, zfs', ziok, ziv, zpok, zis', zlok, zlv', zls', zbok, zrok, zrv', zrs', zaok, zan, zcok, zcs', zis, zgv, zgh, zcat, zw_1, zw_21, zw_at, zclr_int, zclr_ref, zclr_null, zclr_none, zclr_long, zclr_clr, zbv_0, zbv_1, zbv_ite, zbv_ite', Value.category, xr0, xr1, xr2, xr3, xr4, xr5, xr6, xr7, xr8, xr265, xr266, xr267, xr268, xr269, xr270, xr271, xr272, xr273, xr274, xr275, xr276, xr277, xr278, xr279, xr280, xr281, xr282, xr283, xr284, xr285, xr286, xr287, xr288, xr289, xr290, xr291, xr292, xr293, xr294, xr295, xr296, xr297, xr298, xr299, xr300, xr301, xr302, xv2, xv3, xv4, xv6, xv7, xv266, xv268, xv269, xv270, xv271, xv273, xv274, xv275, xv276, xv277, xv278, xv279, xv280, xv281, xv282, xv283, xv284, xv285, xv286, xv287, xv288, xv289, xv290, xv291, xv292, xv293, xv294, xv295, xv296, xv297, xv298, xv299, xv300, xv301, xv302, znar0, znar1, znarI, zfitb, zfitb1, e1, e2, e3, zit]
    by_cases q : x = 0 <;> simp [q]
  | c + 1, x, l2, hc, hx => by
    have e1 : ¬ nI N < nI (N - c) := by rw [zlt (by omega) (by omega)]; omega
    have e2 : nI d + 1 = nI (d + 1) := nI_1 d
    have e3 : (nI x ≤ 0) ↔ x = 0 := by rw [show (0 : Int32) = nI 0 from rfl, zle (by omega) (by omega)]; omega
    by_cases q : x = 0
    · refine ⟨some (.int (nI x)), some (.int (nI (N + 1 - (c + 1)))), ?_⟩
      rw [E_X10_isTree_h19]
      subst q
      have e4 : zit f (c + 1) 0 = 0 := zit_0 hf0 _
      rw [nI_0] at *
      simp [E_X10_isTree, zfok, zfv, zfs', ziok, ziv, zpok, zis', zlok, zlv', zls', zbok, zrok, zrv', zrs', zaok, zan, zcok, zcs', zis, zgv, zgh, zcat, zw_1, zw_21, zw_at, zclr_int, zclr_ref, zclr_null, zclr_none, zclr_long, zclr_clr, zbv_0, zbv_1, zbv_ite, zbv_ite', Value.category, xr0, xr1, xr2, xr3, xr4, xr5, xr6, xr7, xr8, xr265, xr266, xr267, xr268, xr269, xr270, xr271, xr272, xr273, xr274, xr275, xr276, xr277, xr278, xr279, xr280, xr281, xr282, xr283, xr284, xr285, xr286, xr287, xr288, xr289, xr290, xr291, xr292, xr293, xr294, xr295, xr296, xr297, xr298, xr299, xr300, xr301, xr302, xv2, xv3, xv4, xv6, xv7, xv266, xv268, xv269, xv270, xv271, xv273, xv274, xv275, xv276, xv277, xv278, xv279, xv280, xv281, xv282, xv283, xv284, xv285, xv286, xv287, xv288, xv289, xv290, xv291, xv292, xv293, xv294, xv295, xv296, xv297, xv298, xv299, xv300, xv301, xv302, znar0, znar1, znarI, zfitb, zfitb1, e1, e2, e4]
    · have e4 : zin (nI x) 8 = true := zin8 (by omega) (by omega)
      have e5 : (nI x).toNatClampNeg = x := zcl7 (by omega)
      have e6 : nI (N - c) + 1 = nI (N + 1 - c) := by rw [nI_1]; congr 1; omega
      obtain ⟨l4, l5, k⟩ := l_mtree2 hr hf hf0 hN hd c (f x) l2 (by omega) (hf x)
      refine ⟨l4, l5, ?_⟩
      rw [E_X10_isTree_h19]
      simp [E_X10_isTree, zfok, zfv, zfs', ziok, ziv, zpok, zis', zlok, zlv', zls', zbok, zrok, zrv', zrs', zaok, zan, zcok, zcs', zis, zgv, zgh, zcat, zw_1, zw_21, zw_at, zclr_int, zclr_ref, zclr_null, zclr_none, zclr_long, zclr_clr, zbv_0, zbv_1, zbv_ite, zbv_ite', Value.category, xr0, xr1, xr2, xr3, xr4, xr5, xr6, xr7, xr8, xr265, xr266, xr267, xr268, xr269, xr270, xr271, xr272, xr273, xr274, xr275, xr276, xr277, xr278, xr279, xr280, xr281, xr282, xr283, xr284, xr285, xr286, xr287, xr288, xr289, xr290, xr291, xr292, xr293, xr294, xr295, xr296, xr297, xr298, xr299, xr300, xr301, xr302, xv2, xv3, xv4, xv6, xv7, xv266, xv268, xv269, xv270, xv271, xv273, xv274, xv275, xv276, xv277, xv278, xv279, xv280, xv281, xv282, xv283, xv284, xv285, xv286, xv287, xv288, xv289, xv290, xv291, xv292, xv293, xv294, xv295, xv296, xv297, xv298, xv299, xv300, xv301, xv302, znar0, znar1, znarI, zfitb, zfitb1, e1, e3, e4, e5, e6, q, hr]
      exact k
theorem l_mtree1 (hr : M.rw = fun d => nI (f d)) (hf : ∀ d, f d ≤ 7) (hf0 : f 0 = 0) (hN : N ≤ 7) : ∀ (c d : Nat) (l4 l5 : Option Value), c + d = N + 1 →
    zD 29 4 [some (.ref 283), some (.int (nI N)), some (.int 1), some (.int (nI d)), l4, l5] [] (xW L xs s C M) = some (some (.int (if zall (fun x => decide (zit f (N + 1) x = 0)) c d = true then 1 else 0)), xW L xs s C M)
  | 0, d, l4, l5, hc => by
    rw [E_X10_isTree_h4]
    have e1 : nI N < nI d := by rw [zlt (by omega) (by omega)]; omega
    simp [E_X10_isTree, zfok, zfv, zfs', ziok, ziv, zpok, zis', zlok, zlv', zls', zbok, zrok, zrv', zrs', zaok, zan, zcok, zcs', zis, zgv, zgh, zcat, zw_1, zw_21, zw_at, zclr_int, zclr_ref, zclr_null, zclr_none, zclr_long, zclr_clr, zbv_0, zbv_1, zbv_ite, zbv_ite', Value.category, xr0, xr1, xr2, xr3, xr4, xr5, xr6, xr7, xr8, xr265, xr266, xr267, xr268, xr269, xr270, xr271, xr272, xr273, xr274, xr275, xr276, xr277, xr278, xr279, xr280, xr281, xr282, xr283, xr284, xr285, xr286, xr287, xr288, xr289, xr290, xr291, xr292, xr293, xr294, xr295, xr296, xr297, xr298, xr299, xr300, xr301, xr302, xv2, xv3, xv4, xv6, xv7, xv266, xv268, xv269, xv270, xv271, xv273, xv274, xv275, xv276, xv277, xv278, xv279, xv280, xv281, xv282, xv283, xv284, xv285, xv286, xv287, xv288, xv289, xv290, xv291, xv292, xv293, xv294, xv295, xv296, xv297, xv298, xv299, xv300, xv301, xv302, znar0, znar1, znarI, zfitb, zfitb1, e1, zall]
  | c + 1, d, l4, l5, hc => by
    rw [E_X10_isTree_h4]
    have e1 : ¬ nI N < nI d := by rw [zlt (by omega) (by omega)]; omega
    obtain ⟨m4, m5, k⟩ := l_mtree2 (L := L) (s := s) (xs := xs) (C := C) hr hf hf0 hN (d := d) (by omega) (N + 1) d (some (.int 1)) (by omega) (by omega)
    rw [Nat.sub_self, nI_0] at k
    simp [E_X10_isTree, zfok, zfv, zfs', ziok, ziv, zpok, zis', zlok, zlv', zls', zbok, zrok, zrv', zrs', zaok, zan, zcok, zcs', zis, zgv, zgh, zcat, zw_1, zw_21, zw_at, zclr_int, zclr_ref, zclr_null, zclr_none, zclr_long, zclr_clr, zbv_0, zbv_1, zbv_ite, zbv_ite', Value.category, xr0, xr1, xr2, xr3, xr4, xr5, xr6, xr7, xr8, xr265, xr266, xr267, xr268, xr269, xr270, xr271, xr272, xr273, xr274, xr275, xr276, xr277, xr278, xr279, xr280, xr281, xr282, xr283, xr284, xr285, xr286, xr287, xr288, xr289, xr290, xr291, xr292, xr293, xr294, xr295, xr296, xr297, xr298, xr299, xr300, xr301, xr302, xv2, xv3, xv4, xv6, xv7, xv266, xv268, xv269, xv270, xv271, xv273, xv274, xv275, xv276, xv277, xv278, xv279, xv280, xv281, xv282, xv283, xv284, xv285, xv286, xv287, xv288, xv289, xv290, xv291, xv292, xv293, xv294, xv295, xv296, xv297, xv298, xv299, xv300, xv301, xv302, znar0, znar1, znarI, zfitb, zfitb1, e1]
    rw [k]
    unfold zall
    by_cases q : zit f (N + 1) d = 0
    · rw [if_pos q, l_mtree1 hr hf hf0 hN c (d + 1) m4 m5 (by omega)]
      simp [q]
    · rw [if_neg q, E_X10_isTree_h4]
      simp [E_X10_isTree, zfok, zfv, zfs', ziok, ziv, zpok, zis', zlok, zlv', zls', zbok, zrok, zrv', zrs', zaok, zan, zcok, zcs', zis, zgv, zgh, zcat, zw_1, zw_21, zw_at, zclr_int, zclr_ref, zclr_null, zclr_none, zclr_long, zclr_clr, zbv_0, zbv_1, zbv_ite, zbv_ite', Value.category, xr0, xr1, xr2, xr3, xr4, xr5, xr6, xr7, xr8, xr265, xr266, xr267, xr268, xr269, xr270, xr271, xr272, xr273, xr274, xr275, xr276, xr277, xr278, xr279, xr280, xr281, xr282, xr283, xr284, xr285, xr286, xr287, xr288, xr289, xr290, xr291, xr292, xr293, xr294, xr295, xr296, xr297, xr298, xr299, xr300, xr301, xr302, xv2, xv3, xv4, xv6, xv7, xv266, xv268, xv269, xv270, xv271, xv273, xv274, xv275, xv276, xv277, xv278, xv279, xv280, xv281, xv282, xv283, xv284, xv285, xv286, xv287, xv288, xv289, xv290, xv291, xv292, xv293, xv294, xv295, xv296, xv297, xv298, xv299, xv300, xv301, xv302, znar0, znar1, znarI, zfitb, zfitb1, q]
theorem m_isTree (hr : M.rw = fun d => nI (f d)) (hf : ∀ d, f d ≤ 7) (hf0 : f 0 = 0) (hN : N ≤ 7) : zC 29 [.ref 283, .int (nI N)] (xW L xs s C M) = some (some (.int (if zall (fun x => decide (zit f (N + 1) x = 0)) N 1 = true then 1 else 0)), xW L xs s C M) := by
  have k := l_mtree1 (L := L) (s := s) (xs := xs) (C := C) hr hf hf0 hN N 1 none none (by omega)
  rw [show nI 1 = 1 from rfl] at k
  simp only [I_X10_isTree, E_X10_isTree, zclr_none]
  exact k
/-- is a above x? s steps are enough -/
def zov (f : Nat → Nat) (a : Nat) : Nat → Nat → Bool
  | 0, _ => false
  | s + 1, x => if x = 0 then false else if f x = a then true else zov f a s (f x)
theorem l_mover (hr : M.rw = fun d => nI (f d)) (hf : ∀ d, f d ≤ 7) {a : Nat} (ha : a ≤ 7) : ∀ (c x : Nat) (l2 : Option Value), x ≤ 7 → zit f c x = 0 →
    zD 30 2 [some (.ref 283), some (.int (nI a)), l2, some (.int (nI x))] [] (xW L xs s C M) = some (some (.int (if zov f a c x = true then 1 else 0)), xW L xs s C M)
  | 0, x, l2, hx, hz => by
    rw [E_X10_isOver_h2]
    have : x = 0 := hz
    subst this
    rw [nI_0]
    simp [E_X10_isOver, zfok, zfv, zfs', ziok, ziv, zpok, zis', zlok, zlv', zls', zbok, zrok, zrv', zrs', zaok, zan, zcok, zcs', zis, zgv, zgh, zcat, zw_1, zw_21, zw_at, zclr_int, zclr_ref, zclr_null, zclr_none, zclr_long, zclr_clr, zbv_0, zbv_1, zbv_ite, zbv_ite', Value.category, xr0, xr1, xr2, xr3, xr4, xr5, xr6, xr7, xr8, xr265, xr266, xr267, xr268, xr269, xr270, xr271, xr272, xr273, xr274, xr275, xr276, xr277, xr278, xr279, xr280, xr281, xr282, xr283, xr284, xr285, xr286, xr287, xr288, xr289, xr290, xr291, xr292, xr293, xr294, xr295, xr296, xr297, xr298, xr299, xr300, xr301, xr302, xv2, xv3, xv4, xv6, xv7, xv266, xv268, xv269, xv270, xv271, xv273, xv274, xv275, xv276, xv277, xv278, xv279, xv280, xv281, xv282, xv283, xv284, xv285, xv286, xv287, xv288, xv289, xv290, xv291, xv292, xv293, xv294, xv295, xv296, xv297, xv298, xv299, xv300, xv301, xv302, znar0, znar1, znarI, zfitb, zfitb1, zov]
  | c + 1, x, l2, hx, hz => by
    rw [E_X10_isOver_h2]
    have e3 : (nI x ≤ 0) ↔ x = 0 := by rw [show (0 : Int32) = nI 0 from rfl, zle (by omega) (by omega)]; omega
    have e4 : zin (nI x) 8 = true := zin8 (by omega) (by omega)
    have e5 : (nI x).toNatClampNeg = x := zcl7 (by omega)
    have e6 : (nI (f x) = nI a) ↔ f x = a := zeq (by have := hf x; omega) (by omega)
    by_cases q : x = 0
    · subst q
      rw [nI_0]
      simp [E_X10_isOver, zfok, zfv, zfs', ziok, ziv, zpok, zis', zlok, zlv', zls', zbok, zrok, zrv', zrs', zaok, zan, zcok, zcs', zis, zgv, zgh, zcat, zw_1, zw_21, zw_at, zclr_int, zclr_ref, zclr_null, zclr_none, zclr_long, zclr_clr, zbv_0, zbv_1, zbv_ite, zbv_ite', Value.category, xr0, xr1, xr2, xr3, xr4, xr5, xr6, xr7, xr8, xr265, xr266, xr267, xr268, xr269, xr270, xr271, xr272, xr273, xr274, xr275, xr276, xr277, xr278, xr279, xr280, xr281, xr282, xr283, xr284, xr285, xr286, xr287, xr288, xr289, xr290, xr291, xr292, xr293, xr294, xr295, xr296, xr297, xr298, xr299, xr300, xr301, xr302, xv2, xv3, xv4, xv6, xv7, xv266, xv268, xv269, xv270, xv271, xv273, xv274, xv275, xv276, xv277, xv278, xv279, xv280, xv281, xv282, xv283, xv284, xv285, xv286, xv287, xv288, xv289, xv290, xv291, xv292, xv293, xv294, xv295, xv296, xv297, xv298, xv299, xv300, xv301, xv302, znar0, znar1, znarI, zfitb, zfitb1, zov]
    · by_cases q2 : f x = a
      · simp [E_X10_isOver, zfok, zfv, zfs', ziok, ziv, zpok, zis', zlok, zlv', zls', zbok, zrok, zrv', zrs', zaok, zan, zcok, zcs', zis, zgv, zgh, zcat, zw_1, zw_21, zw_at, zclr_int, zclr_ref, zclr_null, zclr_none, zclr_long, zclr_clr, zbv_0, zbv_1, zbv_ite, zbv_ite', Value.category, xr0, xr1, xr2, xr3, xr4, xr5, xr6, xr7, xr8, xr265, xr266, xr267, xr268, xr269, xr270, xr271, xr272, xr273, xr274, xr275, xr276, xr277, xr278, xr279, xr280, xr281, xr282, xr283, xr284, xr285, xr286, xr287, xr288, xr289, xr290, xr291, xr292, xr293, xr294, xr295, xr296, xr297, xr298, xr299, xr300, xr301, xr302, xv2, xv3, xv4, xv6, xv7, xv266, xv268, xv269, xv270, xv271, xv273, xv274, xv275, xv276, xv277, xv278, xv279, xv280, xv281, xv282, xv283, xv284, xv285, xv286, xv287, xv288, xv289, xv290, xv291, xv292, xv293, xv294, xv295, xv296, xv297, xv298, xv299, xv300, xv301, xv302, znar0, znar1, znarI, zfitb, zfitb1, zov, e3, e4, e5, e6, q, q2, hr]
      · simp [E_X10_isOver, zfok, zfv, zfs', ziok, ziv, zpok, zis', zlok, zlv', zls', zbok, zrok, zrv', zrs', zaok, zan, zcok, zcs', zis, zgv, zgh, zcat, zw_1, zw_21, zw_at, zclr_int, zclr_ref, zclr_null, zclr_none, zclr_long, zclr_clr, zbv_0, zbv_1, zbv_ite, zbv_ite', Value.category, xr0, xr1, xr2, xr3, xr4, xr5, xr6, xr7, xr8, xr265, xr266, xr267, xr268, xr269, xr270, xr271, xr272, xr273, xr274, xr275, xr276, xr277, xr278, xr279, xr280, xr281, xr282, xr283, xr284, xr285, xr286, xr287, xr288, xr289, xr290, xr291, xr292, xr293, xr294, xr295, xr296, xr297, xr298, xr299, xr300, xr301, xr302, xv2, xv3, xv4, xv6, xv7, xv266, xv268, xv269, xv270, xv271, xv273, xv274, xv275, xv276, xv277, xv278, xv279, xv280, xv281, xv282, xv283, xv284, xv285, xv286, xv287, xv288, xv289, xv290, xv291, xv292, xv293, xv294, xv295, xv296, xv297, xv298, xv299, xv300, xv301, xv302, znar0, znar1, znarI, zfitb, zfitb1, zov, e3, e4, e5, e6, q, q2, hr]
        exact l_mover hr hf ha c (f x) (zclr l2) (hf x) hz
theorem m_isOver (hr : M.rw = fun d => nI (f d)) (hf : ∀ d, f d ≤ 7) {a x c : Nat} (ha : a ≤ 7) (hx : x ≤ 7) (hz : zit f c x = 0) : zC 30 [.ref 283, .int (nI a), .int (nI x)] (xW L xs s C M) = some (some (.int (if zov f a c x = true then 1 else 0)), xW L xs s C M) := by
  have k := l_mover (L := L) (s := s) (xs := xs) (C := C) hr hf ha c x (some (.int (nI x))) hx hz
  simp only [I_X10_isOver, E_X10_isOver, zclr_none]
  exact k
/-- smooth at a word -/
def zmsd (f : Nat → Nat) (c d : Nat) : Bool := zall (fun x => zov f (f d) c x) (max (f d) d - (min (f d) d + 1)) (min (f d) d + 1)
theorem l_msm2 (hr : M.rw = fun d => nI (f d)) (hf : ∀ d, f d ≤ 7) {c0 d p hi : Nat} (hp : p ≤ 7) (hhi : hi ≤ 7) (hz : ∀ x, x ≤ 7 → zit f c0 x = 0) (hd : d ≤ 7) : ∀ (c x : Nat) (l4 : Option Value), (hc : c + x = hi ∨ (c = 0 ∧ hi ≤ x ∧ x ≤ 8)) →
    ∃ l3 l4' l5 l6, zD 79 44 [some (.ref 283), some (.int (nI N)), some (.int (nI d)), some (.int (nI p)), l4, some (.int (nI hi)), some (.int (nI x))] [] (xW L xs s C M) = if zall (fun x => zov f p c0 x) c x = true then zD 79 2 [some (.ref 283), some (.int (nI N)), some (.int (nI (d + 1))), l3, l4', l5, l6] [] (xW L xs s C M) else some (some (.int 0), xW L xs s C M)
  | 0, x, l4, hc => by
    refine ⟨some (.int (nI p)), l4, some (.int (nI hi)), some (.int (nI x)), ?_⟩
    rw [E_X10_isSmooth_h44]
    have e1 : nI hi ≤ nI x := by rw [zle (by omega) (by omega)]; omega
    have e2 : nI d + 1 = nI (d + 1) := nI_1 d
    simp [E_X10_isSmooth, zfok, zfv, zfs', ziok, ziv, zpok, zis', zlok, zlv', zls', zbok, zrok, zrv', zrs', zaok, zan, zcok, zcs', zis, zgv, zgh, zcat, zw_1, zw_21, zw_at, zclr_int, zclr_ref, zclr_null, zclr_none, zclr_long, zclr_clr, zbv_0, zbv_1, zbv_ite, zbv_ite', Value.category, xr0, xr1, xr2, xr3, xr4, xr5, xr6, xr7, xr8, xr265, xr266, xr267, xr268, xr269, xr270, xr271, xr272, xr273, xr274, xr275, xr276, xr277, xr278, xr279, xr280, xr281, xr282, xr283, xr284, xr285, xr286, xr287, xr288, xr289, xr290, xr291, xr292, xr293, xr294, xr295, xr296, xr297, xr298, xr299, xr300, xr301, xr302, xv2, xv3, xv4, xv6, xv7, xv266, xv268, xv269, xv270, xv271, xv273, xv274, xv275, xv276, xv277, xv278, xv279, xv280, xv281, xv282, xv283, xv284, xv285, xv286, xv287, xv288, xv289, xv290, xv291, xv292, xv293, xv294, xv295, xv296, xv297, xv298, xv299, xv300, xv301, xv302, znar0, znar1, znarI, zfitb, zfitb1, e1, e2, zall]
  | c + 1, x, l4, hc => by
    have hx : c + 1 + x = hi := by omega
    have e1 : ¬ nI hi ≤ nI x := by rw [zle (by omega) (by omega)]; omega
    have e2 : nI x + 1 = nI (x + 1) := nI_1 x
    have e3 := m_isOver (L := L) (s := s) (xs := xs) (C := C) hr hf (a := p) (x := x) (c := c0) hp (by omega) (hz x (by omega))
    obtain ⟨l3, l4', l5, l6, k⟩ := l_msm2 hr hf hp hhi hz hd c (x + 1) l4 (by omega)
    refine ⟨l3, l4', l5, l6, ?_⟩
    rw [E_X10_isSmooth_h44]
    unfold zall
    by_cases q : zov f p c0 x = true
    · simp [E_X10_isSmooth, zfok, zfv, zfs', ziok, ziv, zpok, zis', zlok, zlv', zls', zbok, zrok, zrv', zrs', zaok, zan, zcok, zcs', zis, zgv, zgh, zcat, zw_1, zw_21, zw_at, zclr_int, zclr_ref, zclr_null, zclr_none, zclr_long, zclr_clr, zbv_0, zbv_1, zbv_ite, zbv_ite', Value.category, xr0, xr1, xr2, xr3, xr4, xr5, xr6, xr7, xr8, xr265, xr266, xr267, xr268, xr269, xr270, xr271, xr272, xr273, xr274, xr275, xr276, xr277, xr278, xr279, xr280, xr281, xr282, xr283, xr284, xr285, xr286, xr287, xr288, xr289, xr290, xr291, xr292, xr293, xr294, xr295, xr296, xr297, xr298, xr299, xr300, xr301, xr302, xv2, xv3, xv4, xv6, xv7, xv266, xv268, xv269, xv270, xv271, xv273, xv274, xv275, xv276, xv277, xv278, xv279, xv280, xv281, xv282, xv283, xv284, xv285, xv286, xv287, xv288, xv289, xv290, xv291, xv292, xv293, xv294, xv295, xv296, xv297, xv298, xv299, xv300, xv301, xv302, znar0, znar1, znarI, zfitb, zfitb1, e1, e2, e3, q]
      exact k
    · simp [E_X10_isSmooth, zfok, zfv, zfs', ziok, ziv, zpok, zis', zlok, zlv', zls', zbok, zrok, zrv', zrs', zaok, zan, zcok, zcs', zis, zgv, zgh, zcat, zw_1, zw_21, zw_at, zclr_int, zclr_ref, zclr_null, zclr_none, zclr_long, zclr_clr, zbv_0, zbv_1, zbv_ite, zbv_ite', Value.category, xr0, xr1, xr2, xr3, xr4, xr5, xr6, xr7, xr8, xr265, xr266, xr267, xr268, xr269, xr270, xr271, xr272, xr273, xr274, xr275, xr276, xr277, xr278, xr279, xr280, xr281, xr282, xr283, xr284, xr285, xr286, xr287, xr288, xr289, xr290, xr291, xr292, xr293, xr294, xr295, xr296, xr297, xr298, xr299, xr300, xr301, xr302, xv2, xv3, xv4, xv6, xv7, xv266, xv268, xv269, xv270, xv271, xv273, xv274, xv275, xv276, xv277, xv278, xv279, xv280, xv281, xv282, xv283, xv284, xv285, xv286, xv287, xv288, xv289, xv290, xv291, xv292, xv293, xv294, xv295, xv296, xv297, xv298, xv299, xv300, xv301, xv302, znar0, znar1, znarI, zfitb, zfitb1, e1, e2, e3, q]
theorem l_msm1 (hr : M.rw = fun d => nI (f d)) (hf : ∀ d, f d ≤ 7) {c0 : Nat} (hz : ∀ x, x ≤ 7 → zit f c0 x = 0) (hN : N ≤ 7) : ∀ (c d : Nat) (l3 l4 l5 l6 : Option Value), c + d = N + 1 →
    zD 79 2 [some (.ref 283), some (.int (nI N)), some (.int (nI d)), l3, l4, l5, l6] [] (xW L xs s C M) = some (some (.int (if zall (zmsd f c0) c d = true then 1 else 0)), xW L xs s C M)
  | 0, d, l3, l4, l5, l6, hc => by
    rw [E_X10_isSmooth_h2]
    have e1 : nI N < nI d := by rw [zlt (by omega) (by omega)]; omega
    simp [E_X10_isSmooth, zfok, zfv, zfs', ziok, ziv, zpok, zis', zlok, zlv', zls', zbok, zrok, zrv', zrs', zaok, zan, zcok, zcs', zis, zgv, zgh, zcat, zw_1, zw_21, zw_at, zclr_int, zclr_ref, zclr_null, zclr_none, zclr_long, zclr_clr, zbv_0, zbv_1, zbv_ite, zbv_ite', Value.category, xr0, xr1, xr2, xr3, xr4, xr5, xr6, xr7, xr8, xr265, xr266, xr267, xr268, xr269, xr270, xr271, xr272, xr273, xr274, xr275, xr276, xr277, xr278, xr279, xr280, xr281, xr282, xr283, xr284, xr285, xr286, xr287, xr288, xr289, xr290, xr291, xr292, xr293, xr294, xr295, xr296, xr297, xr298, xr299, xr300, xr301, xr302, xv2, xv3, xv4, xv6, xv7, xv266, xv268, xv269, xv270, xv271, xv273, xv274, xv275, xv276, xv277, xv278, xv279, xv280, xv281, xv282, xv283, xv284, xv285, xv286, xv287, xv288, xv289, xv290, xv291, xv292, xv293, xv294, xv295, xv296, xv297, xv298, xv299, xv300, xv301, xv302, znar0, znar1, znarI, zfitb, zfitb1, e1, zall]
  | c + 1, d, l3, l4, l5, l6, hc => by
    rw [E_X10_isSmooth_h2]
    have e1 : ¬ nI N < nI d := by rw [zlt (by omega) (by omega)]; omega
    have e4 : zin (nI d) 8 = true := zin8 (by omega) (by omega)
    have e5 : (nI d).toNatClampNeg = d := zcl7 (by omega)
    have h7 := hf d
    have e6 : (nI d ≤ nI (f d)) ↔ d ≤ f d := zle (by omega) (by omega)
    have e7 : nI (f d) + 1 = nI (f d + 1) := nI_1 _
    have e8 : nI d + 1 = nI (d + 1) := nI_1 _
    unfold zall
    have hw : zmsd f c0 d = zall (fun x => zov f (f d) c0 x) (max (f d) d - (min (f d) d + 1)) (min (f d) d + 1) := rfl
    by_cases q : d ≤ f d
    · obtain ⟨m3, m4, m5, m6, k⟩ := l_msm2 (L := L) (s := s) (xs := xs) (C := C) (N := N) hr hf (c0 := c0) (d := d) (p := f d) (hi := f d) h7 h7 hz (by omega) (f d - (d + 1)) (d + 1) (some (.int (nI d))) (by omega)
      rw [show max (f d) d - (min (f d) d + 1) = f d - (d + 1) by omega, show min (f d) d + 1 = d + 1 by omega] at hw
      simp [E_X10_isSmooth, zfok, zfv, zfs', ziok, ziv, zpok, zis', zlok, zlv', zls', zbok, zrok, zrv', zrs', zaok, zan, zcok, zcs', zis, zgv, zgh, zcat, zw_1, zw_21, zw_at, zclr_int, zclr_ref, zclr_null, zclr_none, zclr_long, zclr_clr, zbv_0, zbv_1, zbv_ite, zbv_ite', Value.category, xr0, xr1, xr2, xr3, xr4, xr5, xr6, xr7, xr8, xr265, xr266, xr267, xr268, xr269, xr270, xr271, xr272, xr273, xr274, xr275, xr276, xr277, xr278, xr279, xr280, xr281, xr282, xr283, xr284, xr285, xr286, xr287, xr288, xr289, xr290, xr291, xr292, xr293, xr294, xr295, xr296, xr297, xr298, xr299, xr300, xr301, xr302, xv2, xv3, xv4, xv6, xv7, xv266, xv268, xv269, xv270, xv271, xv273, xv274, xv275, xv276, xv277, xv278, xv279, xv280, xv281, xv282, xv283, xv284, xv285, xv286, xv287, xv288, xv289, xv290, xv291, xv292, xv293, xv294, xv295, xv296, xv297, xv298, xv299, xv300, xv301, xv302, znar0, znar1, znarI, zfitb, zfitb1, e1, e4, e5, e6, e8, hr, q]
      rw [k, hw]
      by_cases q2 : zall (fun x => zov f (f d) c0 x) (f d - (d + 1)) (d + 1) = true
      · rw [if_pos q2, l_msm1 hr hf hz hN c (d + 1) _ _ _ _ (by omega)]
        simp [q2]
      · simp [q2]
    · obtain ⟨m3, m4, m5, m6, k⟩ := l_msm2 (L := L) (s := s) (xs := xs) (C := C) (N := N) hr hf (c0 := c0) (d := d) (p := f d) (hi := d) h7 (by omega) hz (by omega) (d - (f d + 1)) (f d + 1) (some (.int (nI (f d)))) (by omega)
      rw [show max (f d) d - (min (f d) d + 1) = d - (f d + 1) by omega, show min (f d) d + 1 = f d + 1 by omega] at hw
      simp [E_X10_isSmooth, zfok, zfv, zfs', ziok, ziv, zpok, zis', zlok, zlv', zls', zbok, zrok, zrv', zrs', zaok, zan, zcok, zcs', zis, zgv, zgh, zcat, zw_1, zw_21, zw_at, zclr_int, zclr_ref, zclr_null, zclr_none, zclr_long, zclr_clr, zbv_0, zbv_1, zbv_ite, zbv_ite', Value.category, xr0, xr1, xr2, xr3, xr4, xr5, xr6, xr7, xr8, xr265, xr266, xr267, xr268, xr269, xr270, xr271, xr272, xr273, xr274, xr275, xr276, xr277, xr278, xr279, xr280, xr281, xr282, xr283, xr284, xr285, xr286, xr287, xr288, xr289, xr290, xr291, xr292, xr293, xr294, xr295, xr296, xr297, xr298, xr299, xr300, xr301, xr302, xv2, xv3, xv4, xv6, xv7, xv266, xv268, xv269, xv270, xv271, xv273, xv274, xv275, xv276, xv277, xv278, xv279, xv280, xv281, xv282, xv283, xv284, xv285, xv286, xv287, xv288, xv289, xv290, xv291, xv292, xv293, xv294, xv295, xv296, xv297, xv298, xv299, xv300, xv301, xv302, znar0, znar1, znarI, zfitb, zfitb1, e1, e4, e5, e6, e7, hr, q]
      rw [k, hw]
      by_cases q2 : zall (fun x => zov f (f d) c0 x) (d - (f d + 1)) (f d + 1) = true
      · rw [if_pos q2, l_msm1 hr hf hz hN c (d + 1) _ _ _ _ (by omega)]
        simp [q2]
      · simp [q2]
theorem m_isSmooth (hr : M.rw = fun d => nI (f d)) (hf : ∀ d, f d ≤ 7) {c0 : Nat} (hz : ∀ x, x ≤ 7 → zit f c0 x = 0) (hN : N ≤ 7) : zC 79 [.ref 283, .int (nI N)] (xW L xs s C M) = some (some (.int (if zall (zmsd f c0) N 1 = true then 1 else 0)), xW L xs s C M) := by
  have k := l_msm1 (L := L) (s := s) (xs := xs) (C := C) hr hf hz hN N 1 none none none none (by omega)
  rw [show nI 1 = 1 from rfl] at k
  simp only [I_X10_isSmooth, E_X10_isSmooth, zclr_none]
  exact k
end MODEL2
