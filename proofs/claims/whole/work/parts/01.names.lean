-- ===== PART A: goes FIRST, ahead of the names: the tables' words, and 'selects' of the private methods out of them =====
/-- a private method of a class that the tables say can be made, by its rows of tables_1 -/
def lw_okq (q : MethodName × Nat) : Prop := (q.1.cls ≠ "java/lang/invoke/MethodHandle" ∧ q.1.cls ≠ "java/lang/invoke/VarHandle") ∧ Cond.instantiable q.1.cls q.2 ∈ tables_1 ∧ Cond.privateMethod q.1 ∈ tables_1 ∧ Cond.instanceMethod q.1 ∈ tables_1
theorem lw_p0 : lw_okq (⟨"HeadTrees", "firstTrees", "(II)LHeadTrees$TopKeys;"⟩, 7) := ⟨⟨by decide +kernel, by decide +kernel⟩, List.mem_of_getElem? (i := 17) (by decide +kernel), List.mem_of_getElem? (i := 379) (by decide +kernel), List.mem_of_getElem? (i := 380) (by decide +kernel)⟩
theorem lw_p1 : lw_okq (⟨"HeadTrees$SmoothTrees", "span", "(II)LHeadTrees$TopKeys;"⟩, 3) := ⟨⟨by decide +kernel, by decide +kernel⟩, List.mem_of_getElem? (i := 121) (by decide +kernel), List.mem_of_getElem? (i := 387) (by decide +kernel), List.mem_of_getElem? (i := 388) (by decide +kernel)⟩
theorem lw_p2 : lw_okq (⟨"HeadTrees$SmoothTrees", "meet", "(III)V"⟩, 3) := ⟨⟨by decide +kernel, by decide +kernel⟩, List.mem_of_getElem? (i := 121) (by decide +kernel), List.mem_of_getElem? (i := 402) (by decide +kernel), List.mem_of_getElem? (i := 403) (by decide +kernel)⟩
theorem lw_p3 : lw_okq (⟨"HeadTrees$SmoothTrees", "meeting", "(II)LHeadTrees$TopKeys;"⟩, 3) := ⟨⟨by decide +kernel, by decide +kernel⟩, List.mem_of_getElem? (i := 121) (by decide +kernel), List.mem_of_getElem? (i := 406) (by decide +kernel), List.mem_of_getElem? (i := 407) (by decide +kernel)⟩
theorem lw_p4 : lw_okq (⟨"HeadTrees$SmoothTrees", "spread", "(LHeadTrees$Arcs;III)V"⟩, 3) := ⟨⟨by decide +kernel, by decide +kernel⟩, List.mem_of_getElem? (i := 121) (by decide +kernel), List.mem_of_getElem? (i := 424) (by decide +kernel), List.mem_of_getElem? (i := 425) (by decide +kernel)⟩
theorem lw_p5 : lw_okq (⟨"HeadTrees$AllTrees", "hangLast", "(LHeadTrees$Arcs;II)V"⟩, 2) := ⟨⟨by decide +kernel, by decide +kernel⟩, List.mem_of_getElem? (i := 108) (by decide +kernel), List.mem_of_getElem? (i := 442) (by decide +kernel), List.mem_of_getElem? (i := 443) (by decide +kernel)⟩
theorem lw_p6 : lw_okq (⟨"HeadTrees$SmoothTrees", "waysToMeet", "(II)J"⟩, 3) := ⟨⟨by decide +kernel, by decide +kernel⟩, List.mem_of_getElem? (i := 121) (by decide +kernel), List.mem_of_getElem? (i := 466) (by decide +kernel), List.mem_of_getElem? (i := 467) (by decide +kernel)⟩
theorem lw_p7 : lw_okq (⟨"HeadTrees$SmoothTrees", "waysToSpread", "(LHeadTrees$Arcs;II)J"⟩, 3) := ⟨⟨by decide +kernel, by decide +kernel⟩, List.mem_of_getElem? (i := 121) (by decide +kernel), List.mem_of_getElem? (i := 470) (by decide +kernel), List.mem_of_getElem? (i := 471) (by decide +kernel)⟩
theorem lw_p8 : lw_okq (⟨"HeadTrees$AllTrees", "fillRow", "(LHeadTrees$Arcs;II)V"⟩, 2) := ⟨⟨by decide +kernel, by decide +kernel⟩, List.mem_of_getElem? (i := 108) (by decide +kernel), List.mem_of_getElem? (i := 478) (by decide +kernel), List.mem_of_getElem? (i := 479) (by decide +kernel)⟩
theorem lw_p9 : lw_okq (⟨"HeadTrees$AllTrees", "eliminate", "(IIJJ)V"⟩, 2) := ⟨⟨by decide +kernel, by decide +kernel⟩, List.mem_of_getElem? (i := 108) (by decide +kernel), List.mem_of_getElem? (i := 486) (by decide +kernel), List.mem_of_getElem? (i := 487) (by decide +kernel)⟩
theorem lw_p10 : lw_okq (⟨"HeadTrees", "searched", "(II)I"⟩, 7) := ⟨⟨by decide +kernel, by decide +kernel⟩, List.mem_of_getElem? (i := 17) (by decide +kernel), List.mem_of_getElem? (i := 575) (by decide +kernel), List.mem_of_getElem? (i := 576) (by decide +kernel)⟩
theorem lw_p11 : lw_okq (⟨"HeadTrees", "drawn", "(I)LHeadTrees$Drawing;"⟩, 7) := ⟨⟨by decide +kernel, by decide +kernel⟩, List.mem_of_getElem? (i := 17) (by decide +kernel), List.mem_of_getElem? (i := 579) (by decide +kernel), List.mem_of_getElem? (i := 580) (by decide +kernel)⟩
theorem lw_p12 : lw_okq (⟨"HeadTrees$Questions", "prepare", "(LHeadTrees$Drawing;)V"⟩, 10) := ⟨⟨by decide +kernel, by decide +kernel⟩, List.mem_of_getElem? (i := 167) (by decide +kernel), List.mem_of_getElem? (i := 587) (by decide +kernel), List.mem_of_getElem? (i := 588) (by decide +kernel)⟩
theorem lw_p13 : lw_okq (⟨"HeadTrees$Questions", "isAskedOf", "(I)Z"⟩, 10) := ⟨⟨by decide +kernel, by decide +kernel⟩, List.mem_of_getElem? (i := 167) (by decide +kernel), List.mem_of_getElem? (i := 592) (by decide +kernel), List.mem_of_getElem? (i := 593) (by decide +kernel)⟩
theorem lw_p14 : lw_okq (⟨"HeadTrees$Questions", "isFit", "(LHeadTrees$Drawing;II)Z"⟩, 10) := ⟨⟨by decide +kernel, by decide +kernel⟩, List.mem_of_getElem? (i := 167) (by decide +kernel), List.mem_of_getElem? (i := 596) (by decide +kernel), List.mem_of_getElem? (i := 597) (by decide +kernel)⟩
theorem lw_p15 : lw_okq (⟨"HeadTrees$Questions", "lastVariable", "(I)I"⟩, 10) := ⟨⟨by decide +kernel, by decide +kernel⟩, List.mem_of_getElem? (i := 167) (by decide +kernel), List.mem_of_getElem? (i := 600) (by decide +kernel), List.mem_of_getElem? (i := 601) (by decide +kernel)⟩
def lw_privs_1 : List (MethodName × Nat) := [(⟨"HeadTrees", "firstTrees", "(II)LHeadTrees$TopKeys;"⟩, 7), (⟨"HeadTrees$SmoothTrees", "span", "(II)LHeadTrees$TopKeys;"⟩, 3), (⟨"HeadTrees$SmoothTrees", "meet", "(III)V"⟩, 3), (⟨"HeadTrees$SmoothTrees", "meeting", "(II)LHeadTrees$TopKeys;"⟩, 3), (⟨"HeadTrees$SmoothTrees", "spread", "(LHeadTrees$Arcs;III)V"⟩, 3), (⟨"HeadTrees$AllTrees", "hangLast", "(LHeadTrees$Arcs;II)V"⟩, 2), (⟨"HeadTrees$SmoothTrees", "waysToMeet", "(II)J"⟩, 3), (⟨"HeadTrees$SmoothTrees", "waysToSpread", "(LHeadTrees$Arcs;II)J"⟩, 3), (⟨"HeadTrees$AllTrees", "fillRow", "(LHeadTrees$Arcs;II)V"⟩, 2), (⟨"HeadTrees$AllTrees", "eliminate", "(IIJJ)V"⟩, 2), (⟨"HeadTrees", "searched", "(II)I"⟩, 7), (⟨"HeadTrees", "drawn", "(I)LHeadTrees$Drawing;"⟩, 7), (⟨"HeadTrees$Questions", "prepare", "(LHeadTrees$Drawing;)V"⟩, 10), (⟨"HeadTrees$Questions", "isAskedOf", "(I)Z"⟩, 10), (⟨"HeadTrees$Questions", "isFit", "(LHeadTrees$Drawing;II)Z"⟩, 10), (⟨"HeadTrees$Questions", "lastVariable", "(I)I"⟩, 10)]
theorem lw_r1 : ∀ q ∈ lw_privs_1, lw_okq q := List.forall_mem_cons.mpr ⟨lw_p0, List.forall_mem_cons.mpr ⟨lw_p1, List.forall_mem_cons.mpr ⟨lw_p2, List.forall_mem_cons.mpr ⟨lw_p3, List.forall_mem_cons.mpr ⟨lw_p4, List.forall_mem_cons.mpr ⟨lw_p5, List.forall_mem_cons.mpr ⟨lw_p6, List.forall_mem_cons.mpr ⟨lw_p7, List.forall_mem_cons.mpr ⟨lw_p8, List.forall_mem_cons.mpr ⟨lw_p9, List.forall_mem_cons.mpr ⟨lw_p10, List.forall_mem_cons.mpr ⟨lw_p11, List.forall_mem_cons.mpr ⟨lw_p12, List.forall_mem_cons.mpr ⟨lw_p13, List.forall_mem_cons.mpr ⟨lw_p14, List.forall_mem_cons.mpr ⟨lw_p15, fun _ h => absurd h List.not_mem_nil⟩⟩⟩⟩⟩⟩⟩⟩⟩⟩⟩⟩⟩⟩⟩⟩
theorem lw_p16 : lw_okq (⟨"HeadTrees$Questions", "holds", "(LHeadTrees$Drawing;I)Z"⟩, 10) := ⟨⟨by decide +kernel, by decide +kernel⟩, List.mem_of_getElem? (i := 167) (by decide +kernel), List.mem_of_getElem? (i := 605) (by decide +kernel), List.mem_of_getElem? (i := 606) (by decide +kernel)⟩
theorem lw_p17 : lw_okq (⟨"HeadTrees$Questions", "searchBehind", "(LHeadTrees$Drawing;I)V"⟩, 10) := ⟨⟨by decide +kernel, by decide +kernel⟩, List.mem_of_getElem? (i := 167) (by decide +kernel), List.mem_of_getElem? (i := 609) (by decide +kernel), List.mem_of_getElem? (i := 610) (by decide +kernel)⟩
theorem lw_p18 : lw_okq (⟨"HeadTrees$Questions", "note", "(I)V"⟩, 10) := ⟨⟨by decide +kernel, by decide +kernel⟩, List.mem_of_getElem? (i := 167) (by decide +kernel), List.mem_of_getElem? (i := 613) (by decide +kernel), List.mem_of_getElem? (i := 614) (by decide +kernel)⟩
theorem lw_p19 : lw_okq (⟨"HeadTrees", "mixedArcs", "(JI)J"⟩, 7) := ⟨⟨by decide +kernel, by decide +kernel⟩, List.mem_of_getElem? (i := 17) (by decide +kernel), List.mem_of_getElem? (i := 659) (by decide +kernel), List.mem_of_getElem? (i := 660) (by decide +kernel)⟩
theorem lw_p20 : lw_okq (⟨"HeadTreesModel", "begin", "(I)V"⟩, 25) := ⟨⟨by decide +kernel, by decide +kernel⟩, List.mem_of_getElem? (i := 666) (by decide +kernel), List.mem_of_getElem? (i := 756) (by decide +kernel), List.mem_of_getElem? (i := 757) (by decide +kernel)⟩
theorem lw_p21 : lw_okq (⟨"HeadTreesModel", "isWord", "(I)Z"⟩, 25) := ⟨⟨by decide +kernel, by decide +kernel⟩, List.mem_of_getElem? (i := 666) (by decide +kernel), List.mem_of_getElem? (i := 764) (by decide +kernel), List.mem_of_getElem? (i := 765) (by decide +kernel)⟩
theorem lw_p22 : lw_okq (⟨"HeadTreesModel", "isPair", "(II)Z"⟩, 25) := ⟨⟨by decide +kernel, by decide +kernel⟩, List.mem_of_getElem? (i := 666) (by decide +kernel), List.mem_of_getElem? (i := 772) (by decide +kernel), List.mem_of_getElem? (i := 773) (by decide +kernel)⟩
theorem lw_p23 : lw_okq (⟨"HeadTreesModel", "isTreeAtHand", "()Z"⟩, 25) := ⟨⟨by decide +kernel, by decide +kernel⟩, List.mem_of_getElem? (i := 666) (by decide +kernel), List.mem_of_getElem? (i := 799) (by decide +kernel), List.mem_of_getElem? (i := 800) (by decide +kernel)⟩
theorem lw_p24 : lw_okq (⟨"HeadTreesModel", "lay", "(I)V"⟩, 25) := ⟨⟨by decide +kernel, by decide +kernel⟩, List.mem_of_getElem? (i := 666) (by decide +kernel), List.mem_of_getElem? (i := 803) (by decide +kernel), List.mem_of_getElem? (i := 804) (by decide +kernel)⟩
theorem lw_p25 : lw_okq (⟨"HeadTreesModel", "isTree", "(I)Z"⟩, 25) := ⟨⟨by decide +kernel, by decide +kernel⟩, List.mem_of_getElem? (i := 666) (by decide +kernel), List.mem_of_getElem? (i := 807) (by decide +kernel), List.mem_of_getElem? (i := 808) (by decide +kernel)⟩
theorem lw_p26 : lw_okq (⟨"HeadTreesModel", "isSmooth", "(I)Z"⟩, 25) := ⟨⟨by decide +kernel, by decide +kernel⟩, List.mem_of_getElem? (i := 666) (by decide +kernel), List.mem_of_getElem? (i := 811) (by decide +kernel), List.mem_of_getElem? (i := 812) (by decide +kernel)⟩
theorem lw_p27 : lw_okq (⟨"HeadTreesModel", "isOver", "(II)Z"⟩, 25) := ⟨⟨by decide +kernel, by decide +kernel⟩, List.mem_of_getElem? (i := 666) (by decide +kernel), List.mem_of_getElem? (i := 815) (by decide +kernel), List.mem_of_getElem? (i := 816) (by decide +kernel)⟩
theorem lw_p28 : lw_okq (⟨"HeadTreesModel", "look", "()V"⟩, 25) := ⟨⟨by decide +kernel, by decide +kernel⟩, List.mem_of_getElem? (i := 666) (by decide +kernel), List.mem_of_getElem? (i := 836) (by decide +kernel), List.mem_of_getElem? (i := 837) (by decide +kernel)⟩
theorem lw_p29 : lw_okq (⟨"HeadTreesModel", "rings", "(I)Z"⟩, 25) := ⟨⟨by decide +kernel, by decide +kernel⟩, List.mem_of_getElem? (i := 666) (by decide +kernel), List.mem_of_getElem? (i := 840) (by decide +kernel), List.mem_of_getElem? (i := 841) (by decide +kernel)⟩
theorem lw_p30 : lw_okq (⟨"HeadTreesModel", "note", "(II)V"⟩, 25) := ⟨⟨by decide +kernel, by decide +kernel⟩, List.mem_of_getElem? (i := 666) (by decide +kernel), List.mem_of_getElem? (i := 844) (by decide +kernel), List.mem_of_getElem? (i := 845) (by decide +kernel)⟩
theorem lw_p31 : lw_okq (⟨"HeadTreesModel", "isKept", "(I)Z"⟩, 25) := ⟨⟨by decide +kernel, by decide +kernel⟩, List.mem_of_getElem? (i := 666) (by decide +kernel), List.mem_of_getElem? (i := 866) (by decide +kernel), List.mem_of_getElem? (i := 867) (by decide +kernel)⟩
def lw_privs_2 : List (MethodName × Nat) := [(⟨"HeadTrees$Questions", "holds", "(LHeadTrees$Drawing;I)Z"⟩, 10), (⟨"HeadTrees$Questions", "searchBehind", "(LHeadTrees$Drawing;I)V"⟩, 10), (⟨"HeadTrees$Questions", "note", "(I)V"⟩, 10), (⟨"HeadTrees", "mixedArcs", "(JI)J"⟩, 7), (⟨"HeadTreesModel", "begin", "(I)V"⟩, 25), (⟨"HeadTreesModel", "isWord", "(I)Z"⟩, 25), (⟨"HeadTreesModel", "isPair", "(II)Z"⟩, 25), (⟨"HeadTreesModel", "isTreeAtHand", "()Z"⟩, 25), (⟨"HeadTreesModel", "lay", "(I)V"⟩, 25), (⟨"HeadTreesModel", "isTree", "(I)Z"⟩, 25), (⟨"HeadTreesModel", "isSmooth", "(I)Z"⟩, 25), (⟨"HeadTreesModel", "isOver", "(II)Z"⟩, 25), (⟨"HeadTreesModel", "look", "()V"⟩, 25), (⟨"HeadTreesModel", "rings", "(I)Z"⟩, 25), (⟨"HeadTreesModel", "note", "(II)V"⟩, 25), (⟨"HeadTreesModel", "isKept", "(I)Z"⟩, 25)]
theorem lw_r2 : ∀ q ∈ lw_privs_2, lw_okq q := List.forall_mem_cons.mpr ⟨lw_p16, List.forall_mem_cons.mpr ⟨lw_p17, List.forall_mem_cons.mpr ⟨lw_p18, List.forall_mem_cons.mpr ⟨lw_p19, List.forall_mem_cons.mpr ⟨lw_p20, List.forall_mem_cons.mpr ⟨lw_p21, List.forall_mem_cons.mpr ⟨lw_p22, List.forall_mem_cons.mpr ⟨lw_p23, List.forall_mem_cons.mpr ⟨lw_p24, List.forall_mem_cons.mpr ⟨lw_p25, List.forall_mem_cons.mpr ⟨lw_p26, List.forall_mem_cons.mpr ⟨lw_p27, List.forall_mem_cons.mpr ⟨lw_p28, List.forall_mem_cons.mpr ⟨lw_p29, List.forall_mem_cons.mpr ⟨lw_p30, List.forall_mem_cons.mpr ⟨lw_p31, fun _ h => absurd h List.not_mem_nil⟩⟩⟩⟩⟩⟩⟩⟩⟩⟩⟩⟩⟩⟩⟩⟩
theorem lw_p32 : lw_okq (⟨"HeadTreesModel", "counted", "(III)I"⟩, 25) := ⟨⟨by decide +kernel, by decide +kernel⟩, List.mem_of_getElem? (i := 666) (by decide +kernel), List.mem_of_getElem? (i := 878) (by decide +kernel), List.mem_of_getElem? (i := 879) (by decide +kernel)⟩
theorem lw_p33 : lw_okq (⟨"HeadTreesModel", "barred", "(I)I"⟩, 25) := ⟨⟨by decide +kernel, by decide +kernel⟩, List.mem_of_getElem? (i := 666) (by decide +kernel), List.mem_of_getElem? (i := 898) (by decide +kernel), List.mem_of_getElem? (i := 899) (by decide +kernel)⟩
theorem lw_p34 : lw_okq (⟨"HeadTreesModel", "search", "(II)I"⟩, 25) := ⟨⟨by decide +kernel, by decide +kernel⟩, List.mem_of_getElem? (i := 666) (by decide +kernel), List.mem_of_getElem? (i := 902) (by decide +kernel), List.mem_of_getElem? (i := 903) (by decide +kernel)⟩
theorem lw_p35 : lw_okq (⟨"HeadTreesModel", "holds", "(I)Z"⟩, 25) := ⟨⟨by decide +kernel, by decide +kernel⟩, List.mem_of_getElem? (i := 666) (by decide +kernel), List.mem_of_getElem? (i := 906) (by decide +kernel), List.mem_of_getElem? (i := 907) (by decide +kernel)⟩
theorem lw_p36 : lw_okq (⟨"HeadTreesModel", "unlike", "(II)I"⟩, 25) := ⟨⟨by decide +kernel, by decide +kernel⟩, List.mem_of_getElem? (i := 666) (by decide +kernel), List.mem_of_getElem? (i := 918) (by decide +kernel), List.mem_of_getElem? (i := 919) (by decide +kernel)⟩
theorem lw_p37 : lw_okq (⟨"HeadTreesModel", "sizeOf", "(I)I"⟩, 25) := ⟨⟨by decide +kernel, by decide +kernel⟩, List.mem_of_getElem? (i := 666) (by decide +kernel), List.mem_of_getElem? (i := 922) (by decide +kernel), List.mem_of_getElem? (i := 923) (by decide +kernel)⟩
theorem lw_p38 : lw_okq (⟨"HeadTreesModel", "headAt", "(II)I"⟩, 25) := ⟨⟨by decide +kernel, by decide +kernel⟩, List.mem_of_getElem? (i := 666) (by decide +kernel), List.mem_of_getElem? (i := 926) (by decide +kernel), List.mem_of_getElem? (i := 927) (by decide +kernel)⟩
theorem lw_p39 : lw_okq (⟨"HeadTreesModel", "mix", "(J)V"⟩, 25) := ⟨⟨by decide +kernel, by decide +kernel⟩, List.mem_of_getElem? (i := 666) (by decide +kernel), List.mem_of_getElem? (i := 943) (by decide +kernel), List.mem_of_getElem? (i := 944) (by decide +kernel)⟩
def lw_privs_3 : List (MethodName × Nat) := [(⟨"HeadTreesModel", "counted", "(III)I"⟩, 25), (⟨"HeadTreesModel", "barred", "(I)I"⟩, 25), (⟨"HeadTreesModel", "search", "(II)I"⟩, 25), (⟨"HeadTreesModel", "holds", "(I)Z"⟩, 25), (⟨"HeadTreesModel", "unlike", "(II)I"⟩, 25), (⟨"HeadTreesModel", "sizeOf", "(I)I"⟩, 25), (⟨"HeadTreesModel", "headAt", "(II)I"⟩, 25), (⟨"HeadTreesModel", "mix", "(J)V"⟩, 25)]
theorem lw_r3 : ∀ q ∈ lw_privs_3, lw_okq q := List.forall_mem_cons.mpr ⟨lw_p32, List.forall_mem_cons.mpr ⟨lw_p33, List.forall_mem_cons.mpr ⟨lw_p34, List.forall_mem_cons.mpr ⟨lw_p35, List.forall_mem_cons.mpr ⟨lw_p36, List.forall_mem_cons.mpr ⟨lw_p37, List.forall_mem_cons.mpr ⟨lw_p38, List.forall_mem_cons.mpr ⟨lw_p39, fun _ h => absurd h List.not_mem_nil⟩⟩⟩⟩⟩⟩⟩⟩
def lw_privs : List (MethodName × Nat) := lw_privs_1 ++ (lw_privs_2 ++ (lw_privs_3))
def lw_tbl : List Cond := k2_sels lw_privs ++ tables_1
theorem lw_privs_ok : ∀ q ∈ lw_privs, lw_okq q := by
  show ∀ q ∈ lw_privs_1 ++ (lw_privs_2 ++ (lw_privs_3)), lw_okq q
  exact List.forall_mem_append.mpr ⟨lw_r1, List.forall_mem_append.mpr ⟨lw_r2, lw_r3⟩⟩

def RX0 : String := "HeadTrees$AllTrees"
def TX0 : u_T := fun k => match k with
  | 0 => ("HeadTrees$AllTrees", "bySet", "[LHeadTrees$TopKeys;", true)
  | _ => ("HeadTrees$AllTrees", "matrix", "[J", true)
def tyX0 : Nat → FieldType := fun k => match k with
  | 0 => .array (.object "HeadTrees$TopKeys")
  | _ => .array .long
theorem nmX0 : ∀ a, a < 2 → ∀ b, b < 2 → a ≠ b → (TX0 a).2.1 ≠ (TX0 b).2.1 := by decide +kernel
theorem tyX0_ok : ∀ k, k < 2 → parseFieldDescriptor (TX0 k).2.2.1 = some (tyX0 k) := by decide +kernel
abbrev cX0_init : ByteArray := prog_2_method_1_code
def yX0_init : MethodName := ⟨RX0, "<init>", "([LHeadTrees$TopKeys;)V"⟩
abbrev cX0_first : ByteArray := prog_2_method_2_code
def yX0_first : MethodName := ⟨RX0, "first", "(LHeadTrees$Arcs;II)LHeadTrees$TopKeys;"⟩
abbrev cX0_hangLast : ByteArray := prog_2_method_3_code
def yX0_hangLast : MethodName := ⟨RX0, "hangLast", "(LHeadTrees$Arcs;II)V"⟩
abbrev cX0_howMany : ByteArray := prog_2_method_4_code
def yX0_howMany : MethodName := ⟨RX0, "howMany", "(LHeadTrees$Arcs;I)J"⟩
abbrev cX0_fillRow : ByteArray := prog_2_method_5_code
def yX0_fillRow : MethodName := ⟨RX0, "fillRow", "(LHeadTrees$Arcs;II)V"⟩
abbrev cX0_eliminate : ByteArray := prog_2_method_6_code
def yX0_eliminate : MethodName := ⟨RX0, "eliminate", "(IIJJ)V"⟩
abbrev cX0_cell : ByteArray := prog_2_method_7_code
def yX0_cell : MethodName := ⟨RX0, "cell", "(II)I"⟩
def RX1 : String := "HeadTrees$Archive"
def TX1 : u_T := fun k => match k with
  | 0 => ("HeadTrees$Archive", "ones", "[LHeadTrees$Drawing;", true)
  | _ => ("HeadTrees$Archive", "ever", "I", false)
def tyX1 : Nat → FieldType := fun k => match k with
  | 0 => .array (.object "HeadTrees$Drawing")
  | _ => .int
theorem nmX1 : ∀ a, a < 2 → ∀ b, b < 2 → a ≠ b → (TX1 a).2.1 ≠ (TX1 b).2.1 := by decide +kernel
theorem tyX1_ok : ∀ k, k < 2 → parseFieldDescriptor (TX1 k).2.2.1 = some (tyX1 k) := by decide +kernel
abbrev cX1_init : ByteArray := prog_3_method_1_code
def yX1_init : MethodName := ⟨RX1, "<init>", "()V"⟩
abbrev cX1_find : ByteArray := prog_3_method_2_code
def yX1_find : MethodName := ⟨RX1, "find", "(I)LHeadTrees$Drawing;"⟩
abbrev cX1_add : ByteArray := prog_3_method_3_code
def yX1_add : MethodName := ⟨RX1, "add", "(LHeadTrees$Drawing;)I"⟩
abbrev cX1_remove : ByteArray := prog_3_method_4_code
def yX1_remove : MethodName := ⟨RX1, "remove", "(I)LHeadTrees$Drawing;"⟩
abbrev cX1_here : ByteArray := prog_3_method_5_code
def yX1_here : MethodName := ⟨RX1, "here", "()I"⟩
def RX2 : String := "HeadTrees$Arcs"
def TX2 : u_T := fun k => match k with
  | 0 => ("HeadTrees$Arcs", "weights", "[I", true)
  | _ => ("HeadTrees$Arcs", "forbidden", "[I", true)
def tyX2 : Nat → FieldType := fun k => match k with
  | 0 => .array .int
  | _ => .array .int
theorem nmX2 : ∀ a, a < 2 → ∀ b, b < 2 → a ≠ b → (TX2 a).2.1 ≠ (TX2 b).2.1 := by decide +kernel
theorem tyX2_ok : ∀ k, k < 2 → parseFieldDescriptor (TX2 k).2.2.1 = some (tyX2 k) := by decide +kernel
abbrev cX2_init : ByteArray := prog_4_method_1_code
def yX2_init : MethodName := ⟨RX2, "<init>", "()V"⟩
abbrev cX2_slot : ByteArray := prog_4_method_2_code
def yX2_slot : MethodName := ⟨RX2, "slot", "(II)I"⟩
abbrev cX2_restart : ByteArray := prog_4_method_3_code
def yX2_restart : MethodName := ⟨RX2, "restart", "()V"⟩
abbrev cX2_allow : ByteArray := prog_4_method_4_code
def yX2_allow : MethodName := ⟨RX2, "allow", "(II)Z"⟩
abbrev cX2_allowAll : ByteArray := prog_4_method_5_code
def yX2_allowAll : MethodName := ⟨RX2, "allowAll", "(LHeadTrees$Drawing;)Z"⟩
abbrev cX2_key : ByteArray := prog_4_method_6_code
def yX2_key : MethodName := ⟨RX2, "key", "(II)J"⟩
abbrev cX2_keyOf : ByteArray := prog_4_method_7_code
def yX2_keyOf : MethodName := ⟨RX2, "keyOf", "(LHeadTrees$Drawing;)J"⟩
abbrev cX2_howManyForbidden : ByteArray := prog_4_method_8_code
def yX2_howManyForbidden : MethodName := ⟨RX2, "howManyForbidden", "()I"⟩
def RX3 : String := "HeadTrees$Drawing"
def TX3 : u_T := fun k => match k with
  | 0 => ("HeadTrees$Drawing", "tags", "[I", true)
  | 1 => ("HeadTrees$Drawing", "heads", "[I", true)
  | _ => ("HeadTrees$Drawing", "size", "I", false)
def tyX3 : Nat → FieldType := fun k => match k with
  | 0 => .array .int
  | 1 => .array .int
  | _ => .int
theorem nmX3 : ∀ a, a < 3 → ∀ b, b < 3 → a ≠ b → (TX3 a).2.1 ≠ (TX3 b).2.1 := by decide +kernel
theorem tyX3_ok : ∀ k, k < 3 → parseFieldDescriptor (TX3 k).2.2.1 = some (tyX3 k) := by decide +kernel
abbrev cX3_init : ByteArray := prog_5_method_1_code
def yX3_init : MethodName := ⟨RX3, "<init>", "()V"⟩
abbrev cX3_restart : ByteArray := prog_5_method_2_code
def yX3_restart : MethodName := ⟨RX3, "restart", "(I)V"⟩
abbrev cX3_copyFrom : ByteArray := prog_5_method_3_code
def yX3_copyFrom : MethodName := ⟨RX3, "copyFrom", "(LHeadTrees$Drawing;)V"⟩
abbrev cX3_takeHeads : ByteArray := prog_5_method_4_code
def yX3_takeHeads : MethodName := ⟨RX3, "takeHeads", "(J)V"⟩
abbrev cX3_hasWord : ByteArray := prog_5_method_5_code
def yX3_hasWord : MethodName := ⟨RX3, "hasWord", "(I)Z"⟩
abbrev cX3_hasPlace : ByteArray := prog_5_method_6_code
def yX3_hasPlace : MethodName := ⟨RX3, "hasPlace", "(I)Z"⟩
abbrev cX3_hasArc : ByteArray := prog_5_method_7_code
def yX3_hasArc : MethodName := ⟨RX3, "hasArc", "(II)Z"⟩
abbrev cX3_sideOf : ByteArray := prog_5_method_8_code
def yX3_sideOf : MethodName := ⟨RX3, "sideOf", "(II)I"⟩
abbrev cX3_placesAbove : ByteArray := prog_5_method_9_code
def yX3_placesAbove : MethodName := ⟨RX3, "placesAbove", "(I)I"⟩
abbrev cX3_isAbove : ByteArray := prog_5_method_10_code
def yX3_isAbove : MethodName := ⟨RX3, "isAbove", "(II)Z"⟩
abbrev cX3_isTree : ByteArray := prog_5_method_11_code
def yX3_isTree : MethodName := ⟨RX3, "isTree", "()Z"⟩
abbrev cX3_isSmooth : ByteArray := prog_5_method_12_code
def yX3_isSmooth : MethodName := ⟨RX3, "isSmooth", "()Z"⟩
abbrev cX3_headsBeforeRoot : ByteArray := prog_5_method_13_code
def yX3_headsBeforeRoot : MethodName := ⟨RX3, "headsBeforeRoot", "(I)I"⟩
abbrev cX3_wordsBelow : ByteArray := prog_5_method_14_code
def yX3_wordsBelow : MethodName := ⟨RX3, "wordsBelow", "(I)I"⟩
abbrev cX3_firstWithin : ByteArray := prog_5_method_15_code
def yX3_firstWithin : MethodName := ⟨RX3, "firstWithin", "(I)I"⟩
abbrev cX3_lastWithin : ByteArray := prog_5_method_16_code
def yX3_lastWithin : MethodName := ⟨RX3, "lastWithin", "(I)I"⟩
abbrev cX3_likeHeads : ByteArray := prog_5_method_17_code
def yX3_likeHeads : MethodName := ⟨RX3, "likeHeads", "(LHeadTrees$Drawing;LHeadTrees$Drawing;)I"⟩
abbrev cX3_likePairs : ByteArray := prog_5_method_18_code
def yX3_likePairs : MethodName := ⟨RX3, "likePairs", "(LHeadTrees$Drawing;LHeadTrees$Drawing;)I"⟩
def RX4 : String := "HeadTrees$Keys"
def TX4 : u_T := fun k => match k with
  | _ => ("", "", "", false)
def tyX4 : Nat → FieldType := fun k => match k with
  | _ => .int
theorem nmX4 : ∀ a, a < 0 → ∀ b, b < 0 → a ≠ b → (TX4 a).2.1 ≠ (TX4 b).2.1 := by decide +kernel
theorem tyX4_ok : ∀ k, k < 0 → parseFieldDescriptor (TX4 k).2.2.1 = some (tyX4 k) := by decide +kernel
abbrev cX4_ofArc : ByteArray := prog_6_method_2_code
def yX4_ofArc : MethodName := ⟨RX4, "ofArc", "(III)J"⟩
abbrev cX4_sumIn : ByteArray := prog_6_method_3_code
def yX4_sumIn : MethodName := ⟨RX4, "sumIn", "(J)I"⟩
abbrev cX4_headIn : ByteArray := prog_6_method_4_code
def yX4_headIn : MethodName := ⟨RX4, "headIn", "(JI)I"⟩
abbrev cX4_shiftOf : ByteArray := prog_6_method_5_code
def yX4_shiftOf : MethodName := ⟨RX4, "shiftOf", "(I)I"⟩
def RX5 : String := "HeadTrees$Questions"
def TX5 : u_T := fun k => match k with
  | 0 => ("HeadTrees$Questions", "sorts", "[I", true)
  | 1 => ("HeadTrees$Questions", "firsts", "[I", true)
  | 2 => ("HeadTrees$Questions", "seconds", "[I", true)
  | 3 => ("HeadTrees$Questions", "size", "I", false)
  | 4 => ("HeadTrees$Questions", "values", "[I", true)
  | 5 => ("HeadTrees$Questions", "lows", "[I", true)
  | 6 => ("HeadTrees$Questions", "highs", "[I", true)
  | 7 => ("HeadTrees$Questions", "above", "[I", true)
  | 8 => ("HeadTrees$Questions", "found", "I", false)
  | _ => ("HeadTrees$Questions", "picked", "I", false)
def tyX5 : Nat → FieldType := fun k => match k with
  | 0 => .array .int
  | 1 => .array .int
  | 2 => .array .int
  | 3 => .int
  | 4 => .array .int
  | 5 => .array .int
  | 6 => .array .int
  | 7 => .array .int
  | 8 => .int
  | _ => .int
theorem nmX5 : ∀ a, a < 10 → ∀ b, b < 10 → a ≠ b → (TX5 a).2.1 ≠ (TX5 b).2.1 := by decide +kernel
theorem tyX5_ok : ∀ k, k < 10 → parseFieldDescriptor (TX5 k).2.2.1 = some (tyX5 k) := by decide +kernel
abbrev cX5_init : ByteArray := prog_7_method_1_code
def yX5_init : MethodName := ⟨RX5, "<init>", "()V"⟩
abbrev cX5_add : ByteArray := prog_7_method_2_code
def yX5_add : MethodName := ⟨RX5, "add", "(III)I"⟩
abbrev cX5_search : ByteArray := prog_7_method_3_code
def yX5_search : MethodName := ⟨RX5, "search", "(LHeadTrees$Drawing;I)I"⟩
abbrev cX5_searchBehind : ByteArray := prog_7_method_4_code
def yX5_searchBehind : MethodName := ⟨RX5, "searchBehind", "(LHeadTrees$Drawing;I)V"⟩
abbrev cX5_note : ByteArray := prog_7_method_5_code
def yX5_note : MethodName := ⟨RX5, "note", "(I)V"⟩
abbrev cX5_prepare : ByteArray := prog_7_method_6_code
def yX5_prepare : MethodName := ⟨RX5, "prepare", "(LHeadTrees$Drawing;)V"⟩
abbrev cX5_isAskedOf : ByteArray := prog_7_method_7_code
def yX5_isAskedOf : MethodName := ⟨RX5, "isAskedOf", "(I)Z"⟩
abbrev cX5_isFit : ByteArray := prog_7_method_8_code
def yX5_isFit : MethodName := ⟨RX5, "isFit", "(LHeadTrees$Drawing;II)Z"⟩
abbrev cX5_lastVariable : ByteArray := prog_7_method_9_code
def yX5_lastVariable : MethodName := ⟨RX5, "lastVariable", "(I)I"⟩
abbrev cX5_holds : ByteArray := prog_7_method_10_code
def yX5_holds : MethodName := ⟨RX5, "holds", "(LHeadTrees$Drawing;I)Z"⟩
def RX6 : String := "HeadTrees$SmoothTrees"
def TX6 : u_T := fun k => match k with
  | 0 => ("HeadTrees$SmoothTrees", "rows", "[LHeadTrees$TopKeys;", true)
  | 1 => ("HeadTrees$SmoothTrees", "spanWays", "[J", true)
  | _ => ("HeadTrees$SmoothTrees", "meetingWays", "[J", true)
def tyX6 : Nat → FieldType := fun k => match k with
  | 0 => .array (.object "HeadTrees$TopKeys")
  | 1 => .array .long
  | _ => .array .long
theorem nmX6 : ∀ a, a < 3 → ∀ b, b < 3 → a ≠ b → (TX6 a).2.1 ≠ (TX6 b).2.1 := by decide +kernel
theorem tyX6_ok : ∀ k, k < 3 → parseFieldDescriptor (TX6 k).2.2.1 = some (tyX6 k) := by decide +kernel
abbrev cX6_init : ByteArray := prog_8_method_1_code
def yX6_init : MethodName := ⟨RX6, "<init>", "([LHeadTrees$TopKeys;)V"⟩
abbrev cX6_first : ByteArray := prog_8_method_2_code
def yX6_first : MethodName := ⟨RX6, "first", "(LHeadTrees$Arcs;II)LHeadTrees$TopKeys;"⟩
abbrev cX6_meet : ByteArray := prog_8_method_3_code
def yX6_meet : MethodName := ⟨RX6, "meet", "(III)V"⟩
abbrev cX6_spread : ByteArray := prog_8_method_4_code
def yX6_spread : MethodName := ⟨RX6, "spread", "(LHeadTrees$Arcs;III)V"⟩
abbrev cX6_farthest : ByteArray := prog_8_method_5_code
def yX6_farthest : MethodName := ⟨RX6, "farthest", "(III)I"⟩
abbrev cX6_howMany : ByteArray := prog_8_method_6_code
def yX6_howMany : MethodName := ⟨RX6, "howMany", "(LHeadTrees$Arcs;I)J"⟩
abbrev cX6_waysToMeet : ByteArray := prog_8_method_7_code
def yX6_waysToMeet : MethodName := ⟨RX6, "waysToMeet", "(II)J"⟩
abbrev cX6_waysToSpread : ByteArray := prog_8_method_8_code
def yX6_waysToSpread : MethodName := ⟨RX6, "waysToSpread", "(LHeadTrees$Arcs;II)J"⟩
abbrev cX6_span : ByteArray := prog_8_method_9_code
def yX6_span : MethodName := ⟨RX6, "span", "(II)LHeadTrees$TopKeys;"⟩
abbrev cX6_meeting : ByteArray := prog_8_method_10_code
def yX6_meeting : MethodName := ⟨RX6, "meeting", "(II)LHeadTrees$TopKeys;"⟩
abbrev cX6_meetingCell : ByteArray := prog_8_method_11_code
def yX6_meetingCell : MethodName := ⟨RX6, "meetingCell", "(II)I"⟩
abbrev cX6_cell : ByteArray := prog_8_method_12_code
def yX6_cell : MethodName := ⟨RX6, "cell", "(II)I"⟩
def RX7 : String := "HeadTrees$TagTable"
def TX7 : u_T := fun k => match k with
  | 0 => ("HeadTrees$TagTable", "counts", "[I", true)
  | _ => ("HeadTrees$TagTable", "totals", "[I", true)
def tyX7 : Nat → FieldType := fun k => match k with
  | 0 => .array .int
  | _ => .array .int
theorem nmX7 : ∀ a, a < 2 → ∀ b, b < 2 → a ≠ b → (TX7 a).2.1 ≠ (TX7 b).2.1 := by decide +kernel
theorem tyX7_ok : ∀ k, k < 2 → parseFieldDescriptor (TX7 k).2.2.1 = some (tyX7 k) := by decide +kernel
abbrev cX7_init : ByteArray := prog_9_method_1_code
def yX7_init : MethodName := ⟨RX7, "<init>", "()V"⟩
abbrev cX7_slot : ByteArray := prog_9_method_2_code
def yX7_slot : MethodName := ⟨RX7, "slot", "(III)I"⟩
abbrev cX7_record : ByteArray := prog_9_method_3_code
def yX7_record : MethodName := ⟨RX7, "record", "(LHeadTrees$Drawing;I)V"⟩
abbrev cX7_learnedWeight : ByteArray := prog_9_method_4_code
def yX7_learnedWeight : MethodName := ⟨RX7, "learnedWeight", "(III)I"⟩
def RX8 : String := "HeadTrees$TopKeys"
def TX8 : u_T := fun k => match k with
  | 0 => ("HeadTrees$TopKeys", "keys", "[J", true)
  | 1 => ("HeadTrees$TopKeys", "size", "I", false)
  | _ => ("HeadTrees$TopKeys", "limit", "I", false)
def tyX8 : Nat → FieldType := fun k => match k with
  | 0 => .array .long
  | 1 => .int
  | _ => .int
theorem nmX8 : ∀ a, a < 3 → ∀ b, b < 3 → a ≠ b → (TX8 a).2.1 ≠ (TX8 b).2.1 := by decide +kernel
theorem tyX8_ok : ∀ k, k < 3 → parseFieldDescriptor (TX8 k).2.2.1 = some (tyX8 k) := by decide +kernel
abbrev cX8_init : ByteArray := prog_10_method_1_code
def yX8_init : MethodName := ⟨RX8, "<init>", "()V"⟩
abbrev cX8_rows : ByteArray := prog_10_method_2_code
def yX8_rows : MethodName := ⟨RX8, "rows", "()[LHeadTrees$TopKeys;"⟩
abbrev cX8_restart : ByteArray := prog_10_method_3_code
def yX8_restart : MethodName := ⟨RX8, "restart", "(I)V"⟩
abbrev cX8_restartBare : ByteArray := prog_10_method_4_code
def yX8_restartBare : MethodName := ⟨RX8, "restartBare", "(I)V"⟩
abbrev cX8_find : ByteArray := prog_10_method_5_code
def yX8_find : MethodName := ⟨RX8, "find", "(J)I"⟩
abbrev cX8_offer : ByteArray := prog_10_method_6_code
def yX8_offer : MethodName := ⟨RX8, "offer", "(J)Z"⟩
abbrev cX8_offerSome : ByteArray := prog_10_method_7_code
def yX8_offerSome : MethodName := ⟨RX8, "offerSome", "(LHeadTrees$TopKeys;IJ)Z"⟩
abbrev cX8_offerPairs : ByteArray := prog_10_method_8_code
def yX8_offerPairs : MethodName := ⟨RX8, "offerPairs", "(LHeadTrees$TopKeys;LHeadTrees$TopKeys;J)V"⟩
def RX9 : String := "HeadTrees"
def TX9 : u_T := fun k => match k with
  | 0 => ("HeadTrees", "hand", "LHeadTrees$Drawing;", true)
  | 1 => ("HeadTrees", "arcs", "LHeadTrees$Arcs;", true)
  | 2 => ("HeadTrees", "allTrees", "LHeadTrees$AllTrees;", true)
  | 3 => ("HeadTrees", "smoothTrees", "LHeadTrees$SmoothTrees;", true)
  | 4 => ("HeadTrees", "archive", "LHeadTrees$Archive;", true)
  | 5 => ("HeadTrees", "tagTable", "LHeadTrees$TagTable;", true)
  | _ => ("HeadTrees", "questions", "LHeadTrees$Questions;", true)
def tyX9 : Nat → FieldType := fun k => match k with
  | 0 => .object "HeadTrees$Drawing"
  | 1 => .object "HeadTrees$Arcs"
  | 2 => .object "HeadTrees$AllTrees"
  | 3 => .object "HeadTrees$SmoothTrees"
  | 4 => .object "HeadTrees$Archive"
  | 5 => .object "HeadTrees$TagTable"
  | _ => .object "HeadTrees$Questions"
theorem nmX9 : ∀ a, a < 7 → ∀ b, b < 7 → a ≠ b → (TX9 a).2.1 ≠ (TX9 b).2.1 := by decide +kernel
theorem tyX9_ok : ∀ k, k < 7 → parseFieldDescriptor (TX9 k).2.2.1 = some (tyX9 k) := by decide +kernel
abbrev cX9_init : ByteArray := prog_1_method_1_code
def yX9_init : MethodName := ⟨RX9, "<init>", "()V"⟩
abbrev cX9_words : ByteArray := prog_1_method_2_code
def yX9_words : MethodName := ⟨RX9, "words", "(I)I"⟩
abbrev cX9_tag : ByteArray := prog_1_method_3_code
def yX9_tag : MethodName := ⟨RX9, "tag", "(II)I"⟩
abbrev cX9_weight : ByteArray := prog_1_method_4_code
def yX9_weight : MethodName := ⟨RX9, "weight", "(III)I"⟩
abbrev cX9_forbid : ByteArray := prog_1_method_5_code
def yX9_forbid : MethodName := ⟨RX9, "forbid", "(IIZ)I"⟩
abbrev cX9_weighs : ByteArray := prog_1_method_6_code
def yX9_weighs : MethodName := ⟨RX9, "weighs", "(II)I"⟩
abbrev cX9_head : ByteArray := prog_1_method_7_code
def yX9_head : MethodName := ⟨RX9, "head", "(II)I"⟩
abbrev cX9_headOf : ByteArray := prog_1_method_8_code
def yX9_headOf : MethodName := ⟨RX9, "headOf", "(I)I"⟩
abbrev cX9_is : ByteArray := prog_1_method_9_code
def yX9_is : MethodName := ⟨RX9, "is", "()I"⟩
abbrev cX9_sum : ByteArray := prog_1_method_10_code
def yX9_sum : MethodName := ⟨RX9, "sum", "()I"⟩
abbrev cX9_over : ByteArray := prog_1_method_11_code
def yX9_over : MethodName := ⟨RX9, "over", "(II)I"⟩
abbrev cX9_about : ByteArray := prog_1_method_12_code
def yX9_about : MethodName := ⟨RX9, "about", "(II)I"⟩
abbrev cX9_best : ByteArray := prog_1_method_13_code
def yX9_best : MethodName := ⟨RX9, "best", "(II)I"⟩
abbrev cX9_trees : ByteArray := prog_1_method_14_code
def yX9_trees : MethodName := ⟨RX9, "trees", "(I)J"⟩
abbrev cX9_rank : ByteArray := prog_1_method_15_code
def yX9_rank : MethodName := ⟨RX9, "rank", "(I)I"⟩
abbrev cX9_firstTrees : ByteArray := prog_1_method_16_code
def yX9_firstTrees : MethodName := ⟨RX9, "firstTrees", "(II)LHeadTrees$TopKeys;"⟩
abbrev cX9_keep : ByteArray := prog_1_method_17_code
def yX9_keep : MethodName := ⟨RX9, "keep", "()I"⟩
abbrev cX9_forget : ByteArray := prog_1_method_18_code
def yX9_forget : MethodName := ⟨RX9, "forget", "(I)I"⟩
abbrev cX9_recall : ByteArray := prog_1_method_19_code
def yX9_recall : MethodName := ⟨RX9, "recall", "(I)I"⟩
abbrev cX9_table : ByteArray := prog_1_method_20_code
def yX9_table : MethodName := ⟨RX9, "table", "(III)I"⟩
abbrev cX9_learn : ByteArray := prog_1_method_21_code
def yX9_learn : MethodName := ⟨RX9, "learn", "()I"⟩
abbrev cX9_ask : ByteArray := prog_1_method_22_code
def yX9_ask : MethodName := ⟨RX9, "ask", "(III)I"⟩
abbrev cX9_clear : ByteArray := prog_1_method_23_code
def yX9_clear : MethodName := ⟨RX9, "clear", "()I"⟩
abbrev cX9_answers : ByteArray := prog_1_method_24_code
def yX9_answers : MethodName := ⟨RX9, "answers", "(I)I"⟩
abbrev cX9_answer : ByteArray := prog_1_method_25_code
def yX9_answer : MethodName := ⟨RX9, "answer", "(II)I"⟩
abbrev cX9_searched : ByteArray := prog_1_method_26_code
def yX9_searched : MethodName := ⟨RX9, "searched", "(II)I"⟩
abbrev cX9_drawn : ByteArray := prog_1_method_27_code
def yX9_drawn : MethodName := ⟨RX9, "drawn", "(I)LHeadTrees$Drawing;"⟩
abbrev cX9_agree : ByteArray := prog_1_method_28_code
def yX9_agree : MethodName := ⟨RX9, "agree", "(II)I"⟩
abbrev cX9_near : ByteArray := prog_1_method_29_code
def yX9_near : MethodName := ⟨RX9, "near", "(II)I"⟩
abbrev cX9_areComparable : ByteArray := prog_1_method_30_code
def yX9_areComparable : MethodName := ⟨RX9, "areComparable", "(LHeadTrees$Drawing;LHeadTrees$Drawing;)Z"⟩
abbrev cX9_count : ByteArray := prog_1_method_31_code
def yX9_count : MethodName := ⟨RX9, "count", "(I)I"⟩
abbrev cX9_digest : ByteArray := prog_1_method_32_code
def yX9_digest : MethodName := ⟨RX9, "digest", "()J"⟩
abbrev cX9_mixedArcs : ByteArray := prog_1_method_33_code
def yX9_mixedArcs : MethodName := ⟨RX9, "mixedArcs", "(JI)J"⟩
abbrev cX9_mixedKept : ByteArray := prog_1_method_34_code
def yX9_mixedKept : MethodName := ⟨RX9, "mixedKept", "(JLHeadTrees$Drawing;)J"⟩
abbrev cX9_mixed : ByteArray := prog_1_method_35_code
def yX9_mixed : MethodName := ⟨RX9, "mixed", "(JI)J"⟩
abbrev cX9_isWordTag : ByteArray := prog_1_method_36_code
def yX9_isWordTag : MethodName := ⟨RX9, "isWordTag", "(I)Z"⟩
abbrev cX9_isSort : ByteArray := prog_1_method_37_code
def yX9_isSort : MethodName := ⟨RX9, "isSort", "(I)Z"⟩
abbrev cX9_isVariable : ByteArray := prog_1_method_38_code
def yX9_isVariable : MethodName := ⟨RX9, "isVariable", "(I)Z"⟩
def RX10 : String := "HeadTreesModel"
def TX10 : u_T := fun k => match k with
  | 0 => ("HeadTreesModel", "n", "I", false)
  | 1 => ("HeadTreesModel", "tags", "[I", true)
  | 2 => ("HeadTreesModel", "heads", "[I", true)
  | 3 => ("HeadTreesModel", "weights", "[I", true)
  | 4 => ("HeadTreesModel", "forbidden", "[Z", true)
  | 5 => ("HeadTreesModel", "isKnown", "Z", false)
  | 6 => ("HeadTreesModel", "many", "[J", true)
  | 7 => ("HeadTreesModel", "ranks", "[I", true)
  | 8 => ("HeadTreesModel", "rankSum", "[I", true)
  | 9 => ("HeadTreesModel", "rankHead", "[I", true)
  | 10 => ("HeadTreesModel", "kept", "I", false)
  | 11 => ("HeadTreesModel", "isGone", "[Z", true)
  | 12 => ("HeadTreesModel", "keptN", "[I", true)
  | 13 => ("HeadTreesModel", "keptTag", "[I", true)
  | 14 => ("HeadTreesModel", "keptHead", "[I", true)
  | 15 => ("HeadTreesModel", "asked", "I", false)
  | 16 => ("HeadTreesModel", "askSort", "[I", true)
  | 17 => ("HeadTreesModel", "askX", "[I", true)
  | 18 => ("HeadTreesModel", "askY", "[I", true)
  | 19 => ("HeadTreesModel", "row", "[I", true)
  | 20 => ("HeadTreesModel", "wordOf", "[I", true)
  | 21 => ("HeadTreesModel", "isAsked", "[Z", true)
  | 22 => ("HeadTreesModel", "found", "I", false)
  | 23 => ("HeadTreesModel", "pairs", "[I", true)
  | _ => ("HeadTreesModel", "h", "J", false)
def tyX10 : Nat → FieldType := fun k => match k with
  | 0 => .int
  | 1 => .array .int
  | 2 => .array .int
  | 3 => .array .int
  | 4 => .array .boolean
  | 5 => .boolean
  | 6 => .array .long
  | 7 => .array .int
  | 8 => .array .int
  | 9 => .array .int
  | 10 => .int
  | 11 => .array .boolean
  | 12 => .array .int
  | 13 => .array .int
  | 14 => .array .int
  | 15 => .int
  | 16 => .array .int
  | 17 => .array .int
  | 18 => .array .int
  | 19 => .array .int
  | 20 => .array .int
  | 21 => .array .boolean
  | 22 => .int
  | 23 => .array .int
  | _ => .long
theorem nmX10 : ∀ a, a < 25 → ∀ b, b < 25 → a ≠ b → (TX10 a).2.1 ≠ (TX10 b).2.1 := by decide +kernel
theorem tyX10_ok : ∀ k, k < 25 → parseFieldDescriptor (TX10 k).2.2.1 = some (tyX10 k) := by decide +kernel
abbrev cX10_init : ByteArray := prog_12_method_1_code
def yX10_init : MethodName := ⟨RX10, "<init>", "()V"⟩
abbrev cX10_in : ByteArray := prog_12_method_3_code
def yX10_in : MethodName := ⟨RX10, "in", "(III)Z"⟩
abbrev cX10_begin : ByteArray := prog_12_method_4_code
def yX10_begin : MethodName := ⟨RX10, "begin", "(I)V"⟩
abbrev cX10_words : ByteArray := prog_12_method_5_code
def yX10_words : MethodName := ⟨RX10, "words", "(I)I"⟩
abbrev cX10_isWord : ByteArray := prog_12_method_6_code
def yX10_isWord : MethodName := ⟨RX10, "isWord", "(I)Z"⟩
abbrev cX10_isPair : ByteArray := prog_12_method_7_code
def yX10_isPair : MethodName := ⟨RX10, "isPair", "(II)Z"⟩
abbrev cX10_tag : ByteArray := prog_12_method_8_code
def yX10_tag : MethodName := ⟨RX10, "tag", "(II)I"⟩
abbrev cX10_weight : ByteArray := prog_12_method_9_code
def yX10_weight : MethodName := ⟨RX10, "weight", "(III)I"⟩
abbrev cX10_forbid : ByteArray := prog_12_method_10_code
def yX10_forbid : MethodName := ⟨RX10, "forbid", "(IIZ)I"⟩
abbrev cX10_weighs : ByteArray := prog_12_method_11_code
def yX10_weighs : MethodName := ⟨RX10, "weighs", "(II)I"⟩
abbrev cX10_lay : ByteArray := prog_12_method_12_code
def yX10_lay : MethodName := ⟨RX10, "lay", "(I)V"⟩
abbrev cX10_isTree : ByteArray := prog_12_method_13_code
def yX10_isTree : MethodName := ⟨RX10, "isTree", "(I)Z"⟩
abbrev cX10_isOver : ByteArray := prog_12_method_14_code
def yX10_isOver : MethodName := ⟨RX10, "isOver", "(II)Z"⟩
abbrev cX10_isSmooth : ByteArray := prog_12_method_15_code
def yX10_isSmooth : MethodName := ⟨RX10, "isSmooth", "(I)Z"⟩
abbrev cX10_head : ByteArray := prog_12_method_16_code
def yX10_head : MethodName := ⟨RX10, "head", "(II)I"⟩
abbrev cX10_headOf : ByteArray := prog_12_method_17_code
def yX10_headOf : MethodName := ⟨RX10, "headOf", "(I)I"⟩
abbrev cX10_isTreeAtHand : ByteArray := prog_12_method_18_code
def yX10_isTreeAtHand : MethodName := ⟨RX10, "isTreeAtHand", "()Z"⟩
abbrev cX10_is : ByteArray := prog_12_method_19_code
def yX10_is : MethodName := ⟨RX10, "is", "()I"⟩
abbrev cX10_sum : ByteArray := prog_12_method_20_code
def yX10_sum : MethodName := ⟨RX10, "sum", "()I"⟩
abbrev cX10_over : ByteArray := prog_12_method_21_code
def yX10_over : MethodName := ⟨RX10, "over", "(II)I"⟩
abbrev cX10_about : ByteArray := prog_12_method_22_code
def yX10_about : MethodName := ⟨RX10, "about", "(II)I"⟩
abbrev cX10_rings : ByteArray := prog_12_method_23_code
def yX10_rings : MethodName := ⟨RX10, "rings", "(I)Z"⟩
abbrev cX10_note : ByteArray := prog_12_method_24_code
def yX10_note : MethodName := ⟨RX10, "note", "(II)V"⟩
abbrev cX10_look : ByteArray := prog_12_method_25_code
def yX10_look : MethodName := ⟨RX10, "look", "()V"⟩
abbrev cX10_best : ByteArray := prog_12_method_26_code
def yX10_best : MethodName := ⟨RX10, "best", "(II)I"⟩
abbrev cX10_trees : ByteArray := prog_12_method_27_code
def yX10_trees : MethodName := ⟨RX10, "trees", "(I)J"⟩
abbrev cX10_rank : ByteArray := prog_12_method_28_code
def yX10_rank : MethodName := ⟨RX10, "rank", "(I)I"⟩
abbrev cX10_isKept : ByteArray := prog_12_method_29_code
def yX10_isKept : MethodName := ⟨RX10, "isKept", "(I)Z"⟩
abbrev cX10_keep : ByteArray := prog_12_method_30_code
def yX10_keep : MethodName := ⟨RX10, "keep", "()I"⟩
abbrev cX10_forget : ByteArray := prog_12_method_31_code
def yX10_forget : MethodName := ⟨RX10, "forget", "(I)I"⟩
abbrev cX10_recall : ByteArray := prog_12_method_32_code
def yX10_recall : MethodName := ⟨RX10, "recall", "(I)I"⟩
abbrev cX10_counted : ByteArray := prog_12_method_33_code
def yX10_counted : MethodName := ⟨RX10, "counted", "(III)I"⟩
abbrev cX10_table : ByteArray := prog_12_method_34_code
def yX10_table : MethodName := ⟨RX10, "table", "(III)I"⟩
abbrev cX10_learn : ByteArray := prog_12_method_35_code
def yX10_learn : MethodName := ⟨RX10, "learn", "()I"⟩
abbrev cX10_ask : ByteArray := prog_12_method_36_code
def yX10_ask : MethodName := ⟨RX10, "ask", "(III)I"⟩
abbrev cX10_clear : ByteArray := prog_12_method_37_code
def yX10_clear : MethodName := ⟨RX10, "clear", "()I"⟩
abbrev cX10_holds : ByteArray := prog_12_method_38_code
def yX10_holds : MethodName := ⟨RX10, "holds", "(I)Z"⟩
abbrev cX10_search : ByteArray := prog_12_method_39_code
def yX10_search : MethodName := ⟨RX10, "search", "(II)I"⟩
abbrev cX10_barred : ByteArray := prog_12_method_40_code
def yX10_barred : MethodName := ⟨RX10, "barred", "(I)I"⟩
abbrev cX10_answers : ByteArray := prog_12_method_41_code
def yX10_answers : MethodName := ⟨RX10, "answers", "(I)I"⟩
abbrev cX10_answer : ByteArray := prog_12_method_42_code
def yX10_answer : MethodName := ⟨RX10, "answer", "(II)I"⟩
abbrev cX10_sizeOf : ByteArray := prog_12_method_43_code
def yX10_sizeOf : MethodName := ⟨RX10, "sizeOf", "(I)I"⟩
abbrev cX10_unlike : ByteArray := prog_12_method_44_code
def yX10_unlike : MethodName := ⟨RX10, "unlike", "(II)I"⟩
abbrev cX10_headAt : ByteArray := prog_12_method_45_code
def yX10_headAt : MethodName := ⟨RX10, "headAt", "(II)I"⟩
abbrev cX10_agree : ByteArray := prog_12_method_46_code
def yX10_agree : MethodName := ⟨RX10, "agree", "(II)I"⟩
abbrev cX10_near : ByteArray := prog_12_method_47_code
def yX10_near : MethodName := ⟨RX10, "near", "(II)I"⟩
abbrev cX10_count : ByteArray := prog_12_method_48_code
def yX10_count : MethodName := ⟨RX10, "count", "(I)I"⟩
abbrev cX10_mix : ByteArray := prog_12_method_49_code
def yX10_mix : MethodName := ⟨RX10, "mix", "(J)V"⟩
abbrev cX10_digest : ByteArray := prog_12_method_50_code
def yX10_digest : MethodName := ⟨RX10, "digest", "()J"⟩
def RJ6 : String := "java/lang/Integer"
def TJ6 : u_T := fun k => match k with
  | _ => ("", "", "", false)
def tyJ6 : Nat → FieldType := fun k => match k with
  | _ => .int
theorem nmJ6 : ∀ a, a < 0 → ∀ b, b < 0 → a ≠ b → (TJ6 a).2.1 ≠ (TJ6 b).2.1 := by decide +kernel
theorem tyJ6_ok : ∀ k, k < 0 → parseFieldDescriptor (TJ6 k).2.2.1 = some (tyJ6 k) := by decide +kernel
abbrev cJ6_bitCount_0f7a4 : ByteArray := prog_13_method_49_code
def yJ6_bitCount_0f7a4 : MethodName := ⟨RJ6, "bitCount", "(I)I"⟩
def RJ9 : String := "java/lang/Math"
def TJ9 : u_T := fun k => match k with
  | _ => ("", "", "", false)
def tyJ9 : Nat → FieldType := fun k => match k with
  | _ => .int
theorem nmJ9 : ∀ a, a < 0 → ∀ b, b < 0 → a ≠ b → (TJ9 a).2.1 ≠ (TJ9 b).2.1 := by decide +kernel
theorem tyJ9_ok : ∀ k, k < 0 → parseFieldDescriptor (TJ9 k).2.2.1 = some (tyJ9 k) := by decide +kernel
abbrev cJ9_abs_0f7a4 : ByteArray := prog_14_method_59_code
def yJ9_abs_0f7a4 : MethodName := ⟨RJ9, "abs", "(I)I"⟩
abbrev cJ9_max_7cf53 : ByteArray := prog_14_method_65_code
def yJ9_max_7cf53 : MethodName := ⟨RJ9, "max", "(II)I"⟩
abbrev cJ9_min_7cf53 : ByteArray := prog_14_method_69_code
def yJ9_min_7cf53 : MethodName := ⟨RJ9, "min", "(II)I"⟩
def RJ10 : String := "java/lang/System"
def TJ10 : u_T := fun k => match k with
  | _ => ("", "", "", false)
def tyJ10 : Nat → FieldType := fun k => match k with
  | _ => .int
theorem nmJ10 : ∀ a, a < 0 → ∀ b, b < 0 → a ≠ b → (TJ10 a).2.1 ≠ (TJ10 b).2.1 := by decide +kernel
theorem tyJ10_ok : ∀ k, k < 0 → parseFieldDescriptor (TJ10 k).2.2.1 = some (tyJ10 k) := by decide +kernel
def RJ7 : String := "java/util/Arrays"
def TJ7 : u_T := fun k => match k with
  | _ => ("", "", "", false)
def tyJ7 : Nat → FieldType := fun k => match k with
  | _ => .int
theorem nmJ7 : ∀ a, a < 0 → ∀ b, b < 0 → a ≠ b → (TJ7 a).2.1 ≠ (TJ7 b).2.1 := by decide +kernel
theorem tyJ7_ok : ∀ k, k < 0 → parseFieldDescriptor (TJ7 k).2.2.1 = some (tyJ7 k) := by decide +kernel
abbrev cJ7_fill_53178 : ByteArray := prog_16_method_103_code
def yJ7_fill_53178 : MethodName := ⟨RJ7, "fill", "([II)V"⟩
def RL : String := "HeadTreesLaw"
abbrev cL_law : ByteArray := code
def yL_law : MethodName := ⟨RL, "law", "([I)Z"⟩
abbrev vwCl : List vw_C := [(RX0, TX0, 2), (RX1, TX1, 2), (RX2, TX2, 2), (RX3, TX3, 3), (RX5, TX5, 10), (RX6, TX6, 3), (RX7, TX7, 2), (RX8, TX8, 3), (RX9, TX9, 7), (RX10, TX10, 25)]
