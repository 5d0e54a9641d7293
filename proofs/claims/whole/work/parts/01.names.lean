-- ===== PART A: goes FIRST, ahead of the names: the tables' words, and 'selects' of the private methods out of them =====
/-- a private method of a class that the tables say can be made, by its rows of tables_1 -/
def lw_okq (q : MethodName × Nat) : Prop := (q.1.cls ≠ "java/lang/invoke/MethodHandle" ∧ q.1.cls ≠ "java/lang/invoke/VarHandle") ∧ Cond.instantiable q.1.cls q.2 ∈ tables_1 ∧ Cond.privateMethod q.1 ∈ tables_1 ∧ Cond.instanceMethod q.1 ∈ tables_1
theorem lw_p0 : lw_okq (⟨"HeavierToCome$Days", "forget", "()V"⟩, 9) := ⟨⟨by decide +kernel, by decide +kernel⟩, List.mem_of_getElem? (i := 126) (by decide +kernel), List.mem_of_getElem? (i := 132) (by decide +kernel), List.mem_of_getElem? (i := 133) (by decide +kernel)⟩
theorem lw_p1 : lw_okq (⟨"HeavierToCome$Reader", "skipBlanks", "()V"⟩, 9) := ⟨⟨by decide +kernel, by decide +kernel⟩, List.mem_of_getElem? (i := 89) (by decide +kernel), List.mem_of_getElem? (i := 286) (by decide +kernel), List.mem_of_getElem? (i := 287) (by decide +kernel)⟩
theorem lw_p2 : lw_okq (⟨"HeavierToCome$Reader", "readClause", "(LHeavierToCome$Land;)V"⟩, 9) := ⟨⟨by decide +kernel, by decide +kernel⟩, List.mem_of_getElem? (i := 89) (by decide +kernel), List.mem_of_getElem? (i := 290) (by decide +kernel), List.mem_of_getElem? (i := 291) (by decide +kernel)⟩
theorem lw_p3 : lw_okq (⟨"HeavierToCome$Reader", "endOfWord", "()I"⟩, 9) := ⟨⟨by decide +kernel, by decide +kernel⟩, List.mem_of_getElem? (i := 89) (by decide +kernel), List.mem_of_getElem? (i := 294) (by decide +kernel), List.mem_of_getElem? (i := 295) (by decide +kernel)⟩
theorem lw_p4 : lw_okq (⟨"HeavierToCome$Reader", "clauseOf", "(II)I"⟩, 9) := ⟨⟨by decide +kernel, by decide +kernel⟩, List.mem_of_getElem? (i := 89) (by decide +kernel), List.mem_of_getElem? (i := 298) (by decide +kernel), List.mem_of_getElem? (i := 299) (by decide +kernel)⟩
theorem lw_p5 : lw_okq (⟨"HeavierToCome$Reader", "isWord", "(Ljava/lang/String;II)Z"⟩, 9) := ⟨⟨by decide +kernel, by decide +kernel⟩, List.mem_of_getElem? (i := 89) (by decide +kernel), List.mem_of_getElem? (i := 303) (by decide +kernel), List.mem_of_getElem? (i := 304) (by decide +kernel)⟩
theorem lw_p6 : lw_okq (⟨"HeavierToCome$Reader", "whyNot", "(ILHeavierToCome$Land;)I"⟩, 9) := ⟨⟨by decide +kernel, by decide +kernel⟩, List.mem_of_getElem? (i := 89) (by decide +kernel), List.mem_of_getElem? (i := 359) (by decide +kernel), List.mem_of_getElem? (i := 360) (by decide +kernel)⟩
theorem lw_p7 : lw_okq (⟨"HeavierToCome$Reader", "blame", "(II)V"⟩, 9) := ⟨⟨by decide +kernel, by decide +kernel⟩, List.mem_of_getElem? (i := 89) (by decide +kernel), List.mem_of_getElem? (i := 366) (by decide +kernel), List.mem_of_getElem? (i := 367) (by decide +kernel)⟩
theorem lw_p8 : lw_okq (⟨"HeavierToCome$Reader", "readYear", "(LHeavierToCome$Land;)V"⟩, 9) := ⟨⟨by decide +kernel, by decide +kernel⟩, List.mem_of_getElem? (i := 89) (by decide +kernel), List.mem_of_getElem? (i := 370) (by decide +kernel), List.mem_of_getElem? (i := 371) (by decide +kernel)⟩
theorem lw_p9 : lw_okq (⟨"HeavierToCome$Reader", "number", "(II)I"⟩, 9) := ⟨⟨by decide +kernel, by decide +kernel⟩, List.mem_of_getElem? (i := 89) (by decide +kernel), List.mem_of_getElem? (i := 374) (by decide +kernel), List.mem_of_getElem? (i := 375) (by decide +kernel)⟩
theorem lw_p10 : lw_okq (⟨"HeavierToCome$Reader", "endClause", "()V"⟩, 9) := ⟨⟨by decide +kernel, by decide +kernel⟩, List.mem_of_getElem? (i := 89) (by decide +kernel), List.mem_of_getElem? (i := 381) (by decide +kernel), List.mem_of_getElem? (i := 382) (by decide +kernel)⟩
theorem lw_p11 : lw_okq (⟨"HeavierToCome$Reader", "takes", "(C)Z"⟩, 9) := ⟨⟨by decide +kernel, by decide +kernel⟩, List.mem_of_getElem? (i := 89) (by decide +kernel), List.mem_of_getElem? (i := 385) (by decide +kernel), List.mem_of_getElem? (i := 386) (by decide +kernel)⟩
theorem lw_p12 : lw_okq (⟨"HeavierToCome$Reader", "readBridge", "(LHeavierToCome$Land;)V"⟩, 9) := ⟨⟨by decide +kernel, by decide +kernel⟩, List.mem_of_getElem? (i := 89) (by decide +kernel), List.mem_of_getElem? (i := 389) (by decide +kernel), List.mem_of_getElem? (i := 390) (by decide +kernel)⟩
theorem lw_p13 : lw_okq (⟨"HeavierToCome$Reader", "readMan", "(LHeavierToCome$Land;)V"⟩, 9) := ⟨⟨by decide +kernel, by decide +kernel⟩, List.mem_of_getElem? (i := 89) (by decide +kernel), List.mem_of_getElem? (i := 397) (by decide +kernel), List.mem_of_getElem? (i := 398) (by decide +kernel)⟩
theorem lw_p14 : lw_okq (⟨"HeavierToCome$Reader", "readKnows", "(LHeavierToCome$Land;)V"⟩, 9) := ⟨⟨by decide +kernel, by decide +kernel⟩, List.mem_of_getElem? (i := 89) (by decide +kernel), List.mem_of_getElem? (i := 405) (by decide +kernel), List.mem_of_getElem? (i := 406) (by decide +kernel)⟩
theorem lw_p15 : lw_okq (⟨"HeavierToCome$Reader", "readKnown", "(LHeavierToCome$Land;II)V"⟩, 9) := ⟨⟨by decide +kernel, by decide +kernel⟩, List.mem_of_getElem? (i := 89) (by decide +kernel), List.mem_of_getElem? (i := 409) (by decide +kernel), List.mem_of_getElem? (i := 410) (by decide +kernel)⟩
def lw_privs_1 : List (MethodName × Nat) := [(⟨"HeavierToCome$Days", "forget", "()V"⟩, 9), (⟨"HeavierToCome$Reader", "skipBlanks", "()V"⟩, 9), (⟨"HeavierToCome$Reader", "readClause", "(LHeavierToCome$Land;)V"⟩, 9), (⟨"HeavierToCome$Reader", "endOfWord", "()I"⟩, 9), (⟨"HeavierToCome$Reader", "clauseOf", "(II)I"⟩, 9), (⟨"HeavierToCome$Reader", "isWord", "(Ljava/lang/String;II)Z"⟩, 9), (⟨"HeavierToCome$Reader", "whyNot", "(ILHeavierToCome$Land;)I"⟩, 9), (⟨"HeavierToCome$Reader", "blame", "(II)V"⟩, 9), (⟨"HeavierToCome$Reader", "readYear", "(LHeavierToCome$Land;)V"⟩, 9), (⟨"HeavierToCome$Reader", "number", "(II)I"⟩, 9), (⟨"HeavierToCome$Reader", "endClause", "()V"⟩, 9), (⟨"HeavierToCome$Reader", "takes", "(C)Z"⟩, 9), (⟨"HeavierToCome$Reader", "readBridge", "(LHeavierToCome$Land;)V"⟩, 9), (⟨"HeavierToCome$Reader", "readMan", "(LHeavierToCome$Land;)V"⟩, 9), (⟨"HeavierToCome$Reader", "readKnows", "(LHeavierToCome$Land;)V"⟩, 9), (⟨"HeavierToCome$Reader", "readKnown", "(LHeavierToCome$Land;II)V"⟩, 9)]
theorem lw_r1 : ∀ q ∈ lw_privs_1, lw_okq q := List.forall_mem_cons.mpr ⟨lw_p0, List.forall_mem_cons.mpr ⟨lw_p1, List.forall_mem_cons.mpr ⟨lw_p2, List.forall_mem_cons.mpr ⟨lw_p3, List.forall_mem_cons.mpr ⟨lw_p4, List.forall_mem_cons.mpr ⟨lw_p5, List.forall_mem_cons.mpr ⟨lw_p6, List.forall_mem_cons.mpr ⟨lw_p7, List.forall_mem_cons.mpr ⟨lw_p8, List.forall_mem_cons.mpr ⟨lw_p9, List.forall_mem_cons.mpr ⟨lw_p10, List.forall_mem_cons.mpr ⟨lw_p11, List.forall_mem_cons.mpr ⟨lw_p12, List.forall_mem_cons.mpr ⟨lw_p13, List.forall_mem_cons.mpr ⟨lw_p14, List.forall_mem_cons.mpr ⟨lw_p15, fun _ h => absurd h List.not_mem_nil⟩⟩⟩⟩⟩⟩⟩⟩⟩⟩⟩⟩⟩⟩⟩⟩
theorem lw_p16 : lw_okq (⟨"HeavierToCome$Reader", "readOx", "(LHeavierToCome$Land;)V"⟩, 9) := ⟨⟨by decide +kernel, by decide +kernel⟩, List.mem_of_getElem? (i := 89) (by decide +kernel), List.mem_of_getElem? (i := 424) (by decide +kernel), List.mem_of_getElem? (i := 425) (by decide +kernel)⟩
theorem lw_p17 : lw_okq (⟨"HeavierToCome$Days", "liarsAt", "(I)I"⟩, 9) := ⟨⟨by decide +kernel, by decide +kernel⟩, List.mem_of_getElem? (i := 126) (by decide +kernel), List.mem_of_getElem? (i := 553) (by decide +kernel), List.mem_of_getElem? (i := 554) (by decide +kernel)⟩
theorem lw_p18 : lw_okq (⟨"HeavierToCome$Days", "draw", "(I)I"⟩, 9) := ⟨⟨by decide +kernel, by decide +kernel⟩, List.mem_of_getElem? (i := 126) (by decide +kernel), List.mem_of_getElem? (i := 570) (by decide +kernel), List.mem_of_getElem? (i := 571) (by decide +kernel)⟩
theorem lw_p19 : lw_okq (⟨"HeavierToCome$Days", "drawCrossing", "(I)V"⟩, 9) := ⟨⟨by decide +kernel, by decide +kernel⟩, List.mem_of_getElem? (i := 126) (by decide +kernel), List.mem_of_getElem? (i := 578) (by decide +kernel), List.mem_of_getElem? (i := 579) (by decide +kernel)⟩
theorem lw_p20 : lw_okq (⟨"HeavierToCome$Trial", "lookAt", "(I)V"⟩, 8) := ⟨⟨by decide +kernel, by decide +kernel⟩, List.mem_of_getElem? (i := 170) (by decide +kernel), List.mem_of_getElem? (i := 593) (by decide +kernel), List.mem_of_getElem? (i := 594) (by decide +kernel)⟩
theorem lw_p21 : lw_okq (⟨"HeavierToCome$Trial", "mostSet", "()I"⟩, 8) := ⟨⟨by decide +kernel, by decide +kernel⟩, List.mem_of_getElem? (i := 170) (by decide +kernel), List.mem_of_getElem? (i := 603) (by decide +kernel), List.mem_of_getElem? (i := 604) (by decide +kernel)⟩
theorem lw_p22 : lw_okq (⟨"HeavierToCome$Trial", "passing", "(I)I"⟩, 8) := ⟨⟨by decide +kernel, by decide +kernel⟩, List.mem_of_getElem? (i := 170) (by decide +kernel), List.mem_of_getElem? (i := 607) (by decide +kernel), List.mem_of_getElem? (i := 608) (by decide +kernel)⟩
theorem lw_p23 : lw_okq (⟨"HeavierToCome$Trial", "passes", "(II)Z"⟩, 8) := ⟨⟨by decide +kernel, by decide +kernel⟩, List.mem_of_getElem? (i := 170) (by decide +kernel), List.mem_of_getElem? (i := 611) (by decide +kernel), List.mem_of_getElem? (i := 612) (by decide +kernel)⟩
theorem lw_p24 : lw_okq (⟨"HeavierToCome$Trial", "nextInLine", "(I)I"⟩, 8) := ⟨⟨by decide +kernel, by decide +kernel⟩, List.mem_of_getElem? (i := 170) (by decide +kernel), List.mem_of_getElem? (i := 615) (by decide +kernel), List.mem_of_getElem? (i := 616) (by decide +kernel)⟩
theorem lw_p25 : lw_okq (⟨"HeavierToCome$Trial", "allPassBefore", "(I)Z"⟩, 8) := ⟨⟨by decide +kernel, by decide +kernel⟩, List.mem_of_getElem? (i := 170) (by decide +kernel), List.mem_of_getElem? (i := 649) (by decide +kernel), List.mem_of_getElem? (i := 650) (by decide +kernel)⟩
theorem lw_p26 : lw_okq (⟨"HeavierToCome$Queue", "firstEaten", "(LHeavierToCome$Days;I)I"⟩, 3) := ⟨⟨by decide +kernel, by decide +kernel⟩, List.mem_of_getElem? (i := 219) (by decide +kernel), List.mem_of_getElem? (i := 742) (by decide +kernel), List.mem_of_getElem? (i := 743) (by decide +kernel)⟩
theorem lw_p27 : lw_okq (⟨"HeavierToCome$Queue", "firstLiar", "()I"⟩, 3) := ⟨⟨by decide +kernel, by decide +kernel⟩, List.mem_of_getElem? (i := 219) (by decide +kernel), List.mem_of_getElem? (i := 750) (by decide +kernel), List.mem_of_getElem? (i := 751) (by decide +kernel)⟩
theorem lw_p28 : lw_okq (⟨"HeavierToCome", "image", "(I)LHeavierToCome$Days;"⟩, 10) := ⟨⟨by decide +kernel, by decide +kernel⟩, List.mem_of_getElem? (i := 16) (by decide +kernel), List.mem_of_getElem? (i := 769) (by decide +kernel), List.mem_of_getElem? (i := 770) (by decide +kernel)⟩
theorem lw_p29 : lw_okq (⟨"HeavierToComeModel", "here", "()I"⟩, 50) := ⟨⟨by decide +kernel, by decide +kernel⟩, List.mem_of_getElem? (i := 781) (by decide +kernel), List.mem_of_getElem? (i := 954) (by decide +kernel), List.mem_of_getElem? (i := 955) (by decide +kernel)⟩
theorem lw_p30 : lw_okq (⟨"HeavierToComeModel", "takeClause", "()I"⟩, 50) := ⟨⟨by decide +kernel, by decide +kernel⟩, List.mem_of_getElem? (i := 781) (by decide +kernel), List.mem_of_getElem? (i := 958) (by decide +kernel), List.mem_of_getElem? (i := 959) (by decide +kernel)⟩
theorem lw_p31 : lw_okq (⟨"HeavierToComeModel", "readWord", "()V"⟩, 50) := ⟨⟨by decide +kernel, by decide +kernel⟩, List.mem_of_getElem? (i := 781) (by decide +kernel), List.mem_of_getElem? (i := 962) (by decide +kernel), List.mem_of_getElem? (i := 963) (by decide +kernel)⟩
def lw_privs_2 : List (MethodName × Nat) := [(⟨"HeavierToCome$Reader", "readOx", "(LHeavierToCome$Land;)V"⟩, 9), (⟨"HeavierToCome$Days", "liarsAt", "(I)I"⟩, 9), (⟨"HeavierToCome$Days", "draw", "(I)I"⟩, 9), (⟨"HeavierToCome$Days", "drawCrossing", "(I)V"⟩, 9), (⟨"HeavierToCome$Trial", "lookAt", "(I)V"⟩, 8), (⟨"HeavierToCome$Trial", "mostSet", "()I"⟩, 8), (⟨"HeavierToCome$Trial", "passing", "(I)I"⟩, 8), (⟨"HeavierToCome$Trial", "passes", "(II)Z"⟩, 8), (⟨"HeavierToCome$Trial", "nextInLine", "(I)I"⟩, 8), (⟨"HeavierToCome$Trial", "allPassBefore", "(I)Z"⟩, 8), (⟨"HeavierToCome$Queue", "firstEaten", "(LHeavierToCome$Days;I)I"⟩, 3), (⟨"HeavierToCome$Queue", "firstLiar", "()I"⟩, 3), (⟨"HeavierToCome", "image", "(I)LHeavierToCome$Days;"⟩, 10), (⟨"HeavierToComeModel", "here", "()I"⟩, 50), (⟨"HeavierToComeModel", "takeClause", "()I"⟩, 50), (⟨"HeavierToComeModel", "readWord", "()V"⟩, 50)]
theorem lw_r2 : ∀ q ∈ lw_privs_2, lw_okq q := List.forall_mem_cons.mpr ⟨lw_p16, List.forall_mem_cons.mpr ⟨lw_p17, List.forall_mem_cons.mpr ⟨lw_p18, List.forall_mem_cons.mpr ⟨lw_p19, List.forall_mem_cons.mpr ⟨lw_p20, List.forall_mem_cons.mpr ⟨lw_p21, List.forall_mem_cons.mpr ⟨lw_p22, List.forall_mem_cons.mpr ⟨lw_p23, List.forall_mem_cons.mpr ⟨lw_p24, List.forall_mem_cons.mpr ⟨lw_p25, List.forall_mem_cons.mpr ⟨lw_p26, List.forall_mem_cons.mpr ⟨lw_p27, List.forall_mem_cons.mpr ⟨lw_p28, List.forall_mem_cons.mpr ⟨lw_p29, List.forall_mem_cons.mpr ⟨lw_p30, List.forall_mem_cons.mpr ⟨lw_p31, fun _ h => absurd h List.not_mem_nil⟩⟩⟩⟩⟩⟩⟩⟩⟩⟩⟩⟩⟩⟩⟩⟩
theorem lw_p32 : lw_okq (⟨"HeavierToComeModel", "fails", "(II)I"⟩, 50) := ⟨⟨by decide +kernel, by decide +kernel⟩, List.mem_of_getElem? (i := 781) (by decide +kernel), List.mem_of_getElem? (i := 978) (by decide +kernel), List.mem_of_getElem? (i := 979) (by decide +kernel)⟩
theorem lw_p33 : lw_okq (⟨"HeavierToComeModel", "takeYear", "()I"⟩, 50) := ⟨⟨by decide +kernel, by decide +kernel⟩, List.mem_of_getElem? (i := 781) (by decide +kernel), List.mem_of_getElem? (i := 982) (by decide +kernel), List.mem_of_getElem? (i := 983) (by decide +kernel)⟩
theorem lw_p34 : lw_okq (⟨"HeavierToComeModel", "takeNumber", "(II)I"⟩, 50) := ⟨⟨by decide +kernel, by decide +kernel⟩, List.mem_of_getElem? (i := 781) (by decide +kernel), List.mem_of_getElem? (i := 986) (by decide +kernel), List.mem_of_getElem? (i := 987) (by decide +kernel)⟩
theorem lw_p35 : lw_okq (⟨"HeavierToComeModel", "takeBridge", "()I"⟩, 50) := ⟨⟨by decide +kernel, by decide +kernel⟩, List.mem_of_getElem? (i := 781) (by decide +kernel), List.mem_of_getElem? (i := 992) (by decide +kernel), List.mem_of_getElem? (i := 993) (by decide +kernel)⟩
theorem lw_p36 : lw_okq (⟨"HeavierToComeModel", "into", "([IIII)I"⟩, 50) := ⟨⟨by decide +kernel, by decide +kernel⟩, List.mem_of_getElem? (i := 781) (by decide +kernel), List.mem_of_getElem? (i := 996) (by decide +kernel), List.mem_of_getElem? (i := 997) (by decide +kernel)⟩
theorem lw_p37 : lw_okq (⟨"HeavierToComeModel", "takeMan", "()I"⟩, 50) := ⟨⟨by decide +kernel, by decide +kernel⟩, List.mem_of_getElem? (i := 781) (by decide +kernel), List.mem_of_getElem? (i := 1000) (by decide +kernel), List.mem_of_getElem? (i := 1001) (by decide +kernel)⟩
theorem lw_p38 : lw_okq (⟨"HeavierToComeModel", "takeKnows", "()I"⟩, 50) := ⟨⟨by decide +kernel, by decide +kernel⟩, List.mem_of_getElem? (i := 781) (by decide +kernel), List.mem_of_getElem? (i := 1004) (by decide +kernel), List.mem_of_getElem? (i := 1005) (by decide +kernel)⟩
theorem lw_p39 : lw_okq (⟨"HeavierToComeModel", "takeOx", "()I"⟩, 50) := ⟨⟨by decide +kernel, by decide +kernel⟩, List.mem_of_getElem? (i := 781) (by decide +kernel), List.mem_of_getElem? (i := 1011) (by decide +kernel), List.mem_of_getElem? (i := 1012) (by decide +kernel)⟩
theorem lw_p40 : lw_okq (⟨"HeavierToComeModel", "isBridge", "(I)Z"⟩, 50) := ⟨⟨by decide +kernel, by decide +kernel⟩, List.mem_of_getElem? (i := 781) (by decide +kernel), List.mem_of_getElem? (i := 1027) (by decide +kernel), List.mem_of_getElem? (i := 1028) (by decide +kernel)⟩
theorem lw_p41 : lw_okq (⟨"HeavierToComeModel", "rememberedAt", "(I)I"⟩, 50) := ⟨⟨by decide +kernel, by decide +kernel⟩, List.mem_of_getElem? (i := 781) (by decide +kernel), List.mem_of_getElem? (i := 1032) (by decide +kernel), List.mem_of_getElem? (i := 1033) (by decide +kernel)⟩
theorem lw_p42 : lw_okq (⟨"HeavierToComeModel", "isRemembered", "(II)Z"⟩, 50) := ⟨⟨by decide +kernel, by decide +kernel⟩, List.mem_of_getElem? (i := 781) (by decide +kernel), List.mem_of_getElem? (i := 1036) (by decide +kernel), List.mem_of_getElem? (i := 1037) (by decide +kernel)⟩
theorem lw_p43 : lw_okq (⟨"HeavierToComeModel", "isMan", "(I)Z"⟩, 50) := ⟨⟨by decide +kernel, by decide +kernel⟩, List.mem_of_getElem? (i := 781) (by decide +kernel), List.mem_of_getElem? (i := 1044) (by decide +kernel), List.mem_of_getElem? (i := 1045) (by decide +kernel)⟩
theorem lw_p44 : lw_okq (⟨"HeavierToComeModel", "isManOrNone", "(I)Z"⟩, 50) := ⟨⟨by decide +kernel, by decide +kernel⟩, List.mem_of_getElem? (i := 781) (by decide +kernel), List.mem_of_getElem? (i := 1061) (by decide +kernel), List.mem_of_getElem? (i := 1062) (by decide +kernel)⟩
theorem lw_p45 : lw_okq (⟨"HeavierToComeModel", "canCross", "(III)Z"⟩, 50) := ⟨⟨by decide +kernel, by decide +kernel⟩, List.mem_of_getElem? (i := 781) (by decide +kernel), List.mem_of_getElem? (i := 1065) (by decide +kernel), List.mem_of_getElem? (i := 1066) (by decide +kernel)⟩
theorem lw_p46 : lw_okq (⟨"HeavierToComeModel", "crossNow", "(III)I"⟩, 50) := ⟨⟨by decide +kernel, by decide +kernel⟩, List.mem_of_getElem? (i := 781) (by decide +kernel), List.mem_of_getElem? (i := 1069) (by decide +kernel), List.mem_of_getElem? (i := 1070) (by decide +kernel)⟩
theorem lw_p47 : lw_okq (⟨"HeavierToComeModel", "isLetGo", "(III)Z"⟩, 50) := ⟨⟨by decide +kernel, by decide +kernel⟩, List.mem_of_getElem? (i := 781) (by decide +kernel), List.mem_of_getElem? (i := 1073) (by decide +kernel), List.mem_of_getElem? (i := 1074) (by decide +kernel)⟩
def lw_privs_3 : List (MethodName × Nat) := [(⟨"HeavierToComeModel", "fails", "(II)I"⟩, 50), (⟨"HeavierToComeModel", "takeYear", "()I"⟩, 50), (⟨"HeavierToComeModel", "takeNumber", "(II)I"⟩, 50), (⟨"HeavierToComeModel", "takeBridge", "()I"⟩, 50), (⟨"HeavierToComeModel", "into", "([IIII)I"⟩, 50), (⟨"HeavierToComeModel", "takeMan", "()I"⟩, 50), (⟨"HeavierToComeModel", "takeKnows", "()I"⟩, 50), (⟨"HeavierToComeModel", "takeOx", "()I"⟩, 50), (⟨"HeavierToComeModel", "isBridge", "(I)Z"⟩, 50), (⟨"HeavierToComeModel", "rememberedAt", "(I)I"⟩, 50), (⟨"HeavierToComeModel", "isRemembered", "(II)Z"⟩, 50), (⟨"HeavierToComeModel", "isMan", "(I)Z"⟩, 50), (⟨"HeavierToComeModel", "isManOrNone", "(I)Z"⟩, 50), (⟨"HeavierToComeModel", "canCross", "(III)Z"⟩, 50), (⟨"HeavierToComeModel", "crossNow", "(III)I"⟩, 50), (⟨"HeavierToComeModel", "isLetGo", "(III)Z"⟩, 50)]
theorem lw_r3 : ∀ q ∈ lw_privs_3, lw_okq q := List.forall_mem_cons.mpr ⟨lw_p32, List.forall_mem_cons.mpr ⟨lw_p33, List.forall_mem_cons.mpr ⟨lw_p34, List.forall_mem_cons.mpr ⟨lw_p35, List.forall_mem_cons.mpr ⟨lw_p36, List.forall_mem_cons.mpr ⟨lw_p37, List.forall_mem_cons.mpr ⟨lw_p38, List.forall_mem_cons.mpr ⟨lw_p39, List.forall_mem_cons.mpr ⟨lw_p40, List.forall_mem_cons.mpr ⟨lw_p41, List.forall_mem_cons.mpr ⟨lw_p42, List.forall_mem_cons.mpr ⟨lw_p43, List.forall_mem_cons.mpr ⟨lw_p44, List.forall_mem_cons.mpr ⟨lw_p45, List.forall_mem_cons.mpr ⟨lw_p46, List.forall_mem_cons.mpr ⟨lw_p47, fun _ h => absurd h List.not_mem_nil⟩⟩⟩⟩⟩⟩⟩⟩⟩⟩⟩⟩⟩⟩⟩⟩
theorem lw_p48 : lw_okq (⟨"HeavierToComeModel", "mayAlone", "(II)Z"⟩, 50) := ⟨⟨by decide +kernel, by decide +kernel⟩, List.mem_of_getElem? (i := 781) (by decide +kernel), List.mem_of_getElem? (i := 1077) (by decide +kernel), List.mem_of_getElem? (i := 1078) (by decide +kernel)⟩
theorem lw_p49 : lw_okq (⟨"HeavierToComeModel", "mayName", "(III)Z"⟩, 50) := ⟨⟨by decide +kernel, by decide +kernel⟩, List.mem_of_getElem? (i := 781) (by decide +kernel), List.mem_of_getElem? (i := 1081) (by decide +kernel), List.mem_of_getElem? (i := 1082) (by decide +kernel)⟩
theorem lw_p50 : lw_okq (⟨"HeavierToComeModel", "dayNow", "()V"⟩, 50) := ⟨⟨by decide +kernel, by decide +kernel⟩, List.mem_of_getElem? (i := 781) (by decide +kernel), List.mem_of_getElem? (i := 1098) (by decide +kernel), List.mem_of_getElem? (i := 1099) (by decide +kernel)⟩
theorem lw_p51 : lw_okq (⟨"HeavierToComeModel", "draw", "(I)I"⟩, 50) := ⟨⟨by decide +kernel, by decide +kernel⟩, List.mem_of_getElem? (i := 781) (by decide +kernel), List.mem_of_getElem? (i := 1102) (by decide +kernel), List.mem_of_getElem? (i := 1103) (by decide +kernel)⟩
theorem lw_p52 : lw_okq (⟨"HeavierToComeModel", "findRow", "(I)I"⟩, 50) := ⟨⟨by decide +kernel, by decide +kernel⟩, List.mem_of_getElem? (i := 781) (by decide +kernel), List.mem_of_getElem? (i := 1115) (by decide +kernel), List.mem_of_getElem? (i := 1116) (by decide +kernel)⟩
theorem lw_p53 : lw_okq (⟨"HeavierToComeModel", "mostOf", "(I)I"⟩, 50) := ⟨⟨by decide +kernel, by decide +kernel⟩, List.mem_of_getElem? (i := 781) (by decide +kernel), List.mem_of_getElem? (i := 1119) (by decide +kernel), List.mem_of_getElem? (i := 1120) (by decide +kernel)⟩
theorem lw_p54 : lw_okq (⟨"HeavierToComeModel", "candidates", "(I)I"⟩, 50) := ⟨⟨by decide +kernel, by decide +kernel⟩, List.mem_of_getElem? (i := 781) (by decide +kernel), List.mem_of_getElem? (i := 1123) (by decide +kernel), List.mem_of_getElem? (i := 1124) (by decide +kernel)⟩
theorem lw_p55 : lw_okq (⟨"HeavierToComeModel", "isWhole", "(II)Z"⟩, 50) := ⟨⟨by decide +kernel, by decide +kernel⟩, List.mem_of_getElem? (i := 781) (by decide +kernel), List.mem_of_getElem? (i := 1127) (by decide +kernel), List.mem_of_getElem? (i := 1128) (by decide +kernel)⟩
theorem lw_p56 : lw_okq (⟨"HeavierToComeModel", "isSupported", "(III)Z"⟩, 50) := ⟨⟨by decide +kernel, by decide +kernel⟩, List.mem_of_getElem? (i := 781) (by decide +kernel), List.mem_of_getElem? (i := 1131) (by decide +kernel), List.mem_of_getElem? (i := 1132) (by decide +kernel)⟩
theorem lw_p57 : lw_okq (⟨"HeavierToComeModel", "supports", "(III)I"⟩, 50) := ⟨⟨by decide +kernel, by decide +kernel⟩, List.mem_of_getElem? (i := 781) (by decide +kernel), List.mem_of_getElem? (i := 1135) (by decide +kernel), List.mem_of_getElem? (i := 1136) (by decide +kernel)⟩
theorem lw_p58 : lw_okq (⟨"HeavierToComeModel", "couldName", "(III)Z"⟩, 50) := ⟨⟨by decide +kernel, by decide +kernel⟩, List.mem_of_getElem? (i := 781) (by decide +kernel), List.mem_of_getElem? (i := 1147) (by decide +kernel), List.mem_of_getElem? (i := 1148) (by decide +kernel)⟩
theorem lw_p59 : lw_okq (⟨"HeavierToComeModel", "areOver", "(II)Z"⟩, 50) := ⟨⟨by decide +kernel, by decide +kernel⟩, List.mem_of_getElem? (i := 781) (by decide +kernel), List.mem_of_getElem? (i := 1156) (by decide +kernel), List.mem_of_getElem? (i := 1157) (by decide +kernel)⟩
theorem lw_p60 : lw_okq (⟨"HeavierToComeModel", "findOrders", "()I"⟩, 50) := ⟨⟨by decide +kernel, by decide +kernel⟩, List.mem_of_getElem? (i := 781) (by decide +kernel), List.mem_of_getElem? (i := 1176) (by decide +kernel), List.mem_of_getElem? (i := 1177) (by decide +kernel)⟩
theorem lw_p61 : lw_okq (⟨"HeavierToComeModel", "setPlaces", "(I)Z"⟩, 50) := ⟨⟨by decide +kernel, by decide +kernel⟩, List.mem_of_getElem? (i := 781) (by decide +kernel), List.mem_of_getElem? (i := 1180) (by decide +kernel), List.mem_of_getElem? (i := 1181) (by decide +kernel)⟩
theorem lw_p62 : lw_okq (⟨"HeavierToComeModel", "isAsSeen", "()Z"⟩, 50) := ⟨⟨by decide +kernel, by decide +kernel⟩, List.mem_of_getElem? (i := 781) (by decide +kernel), List.mem_of_getElem? (i := 1184) (by decide +kernel), List.mem_of_getElem? (i := 1185) (by decide +kernel)⟩
theorem lw_p63 : lw_okq (⟨"HeavierToComeModel", "isBehind", "(I)Z"⟩, 50) := ⟨⟨by decide +kernel, by decide +kernel⟩, List.mem_of_getElem? (i := 781) (by decide +kernel), List.mem_of_getElem? (i := 1206) (by decide +kernel), List.mem_of_getElem? (i := 1207) (by decide +kernel)⟩
def lw_privs_4 : List (MethodName × Nat) := [(⟨"HeavierToComeModel", "mayAlone", "(II)Z"⟩, 50), (⟨"HeavierToComeModel", "mayName", "(III)Z"⟩, 50), (⟨"HeavierToComeModel", "dayNow", "()V"⟩, 50), (⟨"HeavierToComeModel", "draw", "(I)I"⟩, 50), (⟨"HeavierToComeModel", "findRow", "(I)I"⟩, 50), (⟨"HeavierToComeModel", "mostOf", "(I)I"⟩, 50), (⟨"HeavierToComeModel", "candidates", "(I)I"⟩, 50), (⟨"HeavierToComeModel", "isWhole", "(II)Z"⟩, 50), (⟨"HeavierToComeModel", "isSupported", "(III)Z"⟩, 50), (⟨"HeavierToComeModel", "supports", "(III)I"⟩, 50), (⟨"HeavierToComeModel", "couldName", "(III)Z"⟩, 50), (⟨"HeavierToComeModel", "areOver", "(II)Z"⟩, 50), (⟨"HeavierToComeModel", "findOrders", "()I"⟩, 50), (⟨"HeavierToComeModel", "setPlaces", "(I)Z"⟩, 50), (⟨"HeavierToComeModel", "isAsSeen", "()Z"⟩, 50), (⟨"HeavierToComeModel", "isBehind", "(I)Z"⟩, 50)]
theorem lw_r4 : ∀ q ∈ lw_privs_4, lw_okq q := List.forall_mem_cons.mpr ⟨lw_p48, List.forall_mem_cons.mpr ⟨lw_p49, List.forall_mem_cons.mpr ⟨lw_p50, List.forall_mem_cons.mpr ⟨lw_p51, List.forall_mem_cons.mpr ⟨lw_p52, List.forall_mem_cons.mpr ⟨lw_p53, List.forall_mem_cons.mpr ⟨lw_p54, List.forall_mem_cons.mpr ⟨lw_p55, List.forall_mem_cons.mpr ⟨lw_p56, List.forall_mem_cons.mpr ⟨lw_p57, List.forall_mem_cons.mpr ⟨lw_p58, List.forall_mem_cons.mpr ⟨lw_p59, List.forall_mem_cons.mpr ⟨lw_p60, List.forall_mem_cons.mpr ⟨lw_p61, List.forall_mem_cons.mpr ⟨lw_p62, List.forall_mem_cons.mpr ⟨lw_p63, fun _ h => absurd h List.not_mem_nil⟩⟩⟩⟩⟩⟩⟩⟩⟩⟩⟩⟩⟩⟩⟩⟩
def lw_privs : List (MethodName × Nat) := lw_privs_1 ++ (lw_privs_2 ++ (lw_privs_3 ++ (lw_privs_4)))
def lw_tbl : List Cond := k2_sels lw_privs ++ tables_1
theorem lw_privs_ok : ∀ q ∈ lw_privs, lw_okq q := by
  show ∀ q ∈ lw_privs_1 ++ (lw_privs_2 ++ (lw_privs_3 ++ (lw_privs_4))), lw_okq q
  exact List.forall_mem_append.mpr ⟨lw_r1, List.forall_mem_append.mpr ⟨lw_r2, List.forall_mem_append.mpr ⟨lw_r3, lw_r4⟩⟩⟩
-- ===== end of PART A; then your names; then what follows =====
def RX0 : String := "HeavierToCome$Days"
def TX0 : u_T := fun k => match k with
  | 0 => ("HeavierToCome$Days", "land", "LHeavierToCome$Land;", true)
  | 1 => ("HeavierToCome$Days", "lives", "I", false)
  | 2 => ("HeavierToCome$Days", "day", "I", false)
  | 3 => ("HeavierToCome$Days", "seed", "I", false)
  | 4 => ("HeavierToCome$Days", "knows", "[I", true)
  | 5 => ("HeavierToCome$Days", "over", "[I", true)
  | 6 => ("HeavierToCome$Days", "nameBy", "[I", true)
  | 7 => ("HeavierToCome$Days", "lieDay", "[I", true)
  | _ => ("HeavierToCome$Days", "aloneYear", "[I", true)
def tyX0 : Nat → FieldType := fun k => match k with
  | 0 => .object "HeavierToCome$Land"
  | 1 => .int
  | 2 => .int
  | 3 => .int
  | 4 => .array .int
  | 5 => .array .int
  | 6 => .array .int
  | 7 => .array .int
  | _ => .array .int
abbrev wsX00 : List Cond := u_ws RX0 TX0 9
theorem nmX0 : ∀ a, a < 9 → ∀ b, b < 9 → a ≠ b → (TX0 a).2.1 ≠ (TX0 b).2.1 := by decide +kernel
theorem tyX0_ok : ∀ k, k < 9 → parseFieldDescriptor (TX0 k).2.2.1 = some (tyX0 k) := by decide +kernel
abbrev cX0_init : ByteArray := prog_2_method_1_code
def yX0_init : MethodName := ⟨RX0, "<init>", "(LHeavierToCome$Land;)V"⟩
abbrev cX0_begin : ByteArray := prog_2_method_2_code
def yX0_begin : MethodName := ⟨RX0, "begin", "()V"⟩
abbrev cX0_forget : ByteArray := prog_2_method_3_code
def yX0_forget : MethodName := ⟨RX0, "forget", "()V"⟩
abbrev cX0_copyFrom : ByteArray := prog_2_method_4_code
def yX0_copyFrom : MethodName := ⟨RX0, "copyFrom", "(LHeavierToCome$Days;)V"⟩
abbrev cX0_toCome : ByteArray := prog_2_method_5_code
def yX0_toCome : MethodName := ⟨RX0, "toCome", "(I)I"⟩
abbrev cX0_isRemembered : ByteArray := prog_2_method_6_code
def yX0_isRemembered : MethodName := ⟨RX0, "isRemembered", "(II)Z"⟩
abbrev cX0_allRemembered : ByteArray := prog_2_method_7_code
def yX0_allRemembered : MethodName := ⟨RX0, "allRemembered", "(I)I"⟩
abbrev cX0_goesAlone : ByteArray := prog_2_method_8_code
def yX0_goesAlone : MethodName := ⟨RX0, "goesAlone", "(II)Z"⟩
abbrev cX0_helpers : ByteArray := prog_2_method_9_code
def yX0_helpers : MethodName := ⟨RX0, "helpers", "(II)I"⟩
abbrev cX0_go : ByteArray := prog_2_method_10_code
def yX0_go : MethodName := ⟨RX0, "go", "(III)I"⟩
abbrev cX0_endDay : ByteArray := prog_2_method_11_code
def yX0_endDay : MethodName := ⟨RX0, "endDay", "()I"⟩
abbrev cX0_liarsAt : ByteArray := prog_2_method_12_code
def yX0_liarsAt : MethodName := ⟨RX0, "liarsAt", "(I)I"⟩
abbrev cX0_saidUnlike : ByteArray := prog_2_method_13_code
def yX0_saidUnlike : MethodName := ⟨RX0, "saidUnlike", "()I"⟩
abbrev cX0_saidTheDead : ByteArray := prog_2_method_14_code
def yX0_saidTheDead : MethodName := ⟨RX0, "saidTheDead", "()I"⟩
abbrev cX0_drawDay : ByteArray := prog_2_method_15_code
def yX0_drawDay : MethodName := ⟨RX0, "drawDay", "()V"⟩
abbrev cX0_drawCrossing : ByteArray := prog_2_method_16_code
def yX0_drawCrossing : MethodName := ⟨RX0, "drawCrossing", "(I)V"⟩
abbrev cX0_draw : ByteArray := prog_2_method_17_code
def yX0_draw : MethodName := ⟨RX0, "draw", "(I)I"⟩
def RX1 : String := "HeavierToCome$Land"
def TX1 : u_T := fun k => match k with
  | 0 => ("HeavierToCome$Land", "year", "I", false)
  | 1 => ("HeavierToCome$Land", "bridges", "I", false)
  | 2 => ("HeavierToCome$Land", "men", "I", false)
  | 3 => ("HeavierToCome$Land", "oxen", "I", false)
  | 4 => ("HeavierToCome$Land", "forgets", "[I", true)
  | 5 => ("HeavierToCome$Land", "weight", "[I", true)
  | 6 => ("HeavierToCome$Land", "chance", "[I", true)
  | 7 => ("HeavierToCome$Land", "knowsAtFirst", "[I", true)
  | 8 => ("HeavierToCome$Land", "oxWeight", "[I", true)
  | _ => ("HeavierToCome$Land", "oxPrice", "[I", true)
def tyX1 : Nat → FieldType := fun k => match k with
  | 0 => .int
  | 1 => .int
  | 2 => .int
  | 3 => .int
  | 4 => .array .int
  | 5 => .array .int
  | 6 => .array .int
  | 7 => .array .int
  | 8 => .array .int
  | _ => .array .int
abbrev wsX10 : List Cond := u_ws RX1 TX1 10
theorem nmX1 : ∀ a, a < 10 → ∀ b, b < 10 → a ≠ b → (TX1 a).2.1 ≠ (TX1 b).2.1 := by decide +kernel
theorem tyX1_ok : ∀ k, k < 10 → parseFieldDescriptor (TX1 k).2.2.1 = some (tyX1 k) := by decide +kernel
abbrev cX1_init : ByteArray := prog_3_method_1_code
def yX1_init : MethodName := ⟨RX1, "<init>", "()V"⟩
abbrev cX1_clear : ByteArray := prog_3_method_2_code
def yX1_clear : MethodName := ⟨RX1, "clear", "()V"⟩
abbrev cX1_copyFrom : ByteArray := prog_3_method_3_code
def yX1_copyFrom : MethodName := ⟨RX1, "copyFrom", "(LHeavierToCome$Land;)V"⟩
abbrev cX1_addBridge : ByteArray := prog_3_method_4_code
def yX1_addBridge : MethodName := ⟨RX1, "addBridge", "(I)V"⟩
abbrev cX1_addMan : ByteArray := prog_3_method_5_code
def yX1_addMan : MethodName := ⟨RX1, "addMan", "(II)V"⟩
abbrev cX1_addOx : ByteArray := prog_3_method_6_code
def yX1_addOx : MethodName := ⟨RX1, "addOx", "(II)V"⟩
abbrev cX1_hasBridge : ByteArray := prog_3_method_7_code
def yX1_hasBridge : MethodName := ⟨RX1, "hasBridge", "(I)Z"⟩
abbrev cX1_hasMan : ByteArray := prog_3_method_8_code
def yX1_hasMan : MethodName := ⟨RX1, "hasMan", "(I)Z"⟩
abbrev cX1_hasOx : ByteArray := prog_3_method_9_code
def yX1_hasOx : MethodName := ⟨RX1, "hasOx", "(I)Z"⟩
abbrev cX1_arePair : ByteArray := prog_3_method_10_code
def yX1_arePair : MethodName := ⟨RX1, "arePair", "(II)Z"⟩
abbrev cX1_mayName : ByteArray := prog_3_method_11_code
def yX1_mayName : MethodName := ⟨RX1, "mayName", "(II)Z"⟩
abbrev cX1_everybody : ByteArray := prog_3_method_12_code
def yX1_everybody : MethodName := ⟨RX1, "everybody", "()I"⟩
abbrev cX1_yearOf : ByteArray := prog_3_method_13_code
def yX1_yearOf : MethodName := ⟨RX1, "yearOf", "(I)I"⟩
abbrev cX1_heavierThan : ByteArray := prog_3_method_14_code
def yX1_heavierThan : MethodName := ⟨RX1, "heavierThan", "(I)I"⟩
abbrev cX1_heaviestOx : ByteArray := prog_3_method_15_code
def yX1_heaviestOx : MethodName := ⟨RX1, "heaviestOx", "(I)I"⟩
abbrev cX1_priceOf : ByteArray := prog_3_method_16_code
def yX1_priceOf : MethodName := ⟨RX1, "priceOf", "(I)I"⟩
abbrev cX1_likeliest : ByteArray := prog_3_method_17_code
def yX1_likeliest : MethodName := ⟨RX1, "likeliest", "(I)I"⟩
abbrev cX1_oddsOf : ByteArray := prog_3_method_18_code
def yX1_oddsOf : MethodName := ⟨RX1, "oddsOf", "(I)I"⟩
def RX2 : String := "HeavierToCome$Queue"
def TX2 : u_T := fun k => match k with
  | 0 => ("HeavierToCome$Queue", "count", "I", false)
  | 1 => ("HeavierToCome$Queue", "who", "[I", true)
  | _ => ("HeavierToCome$Queue", "nameBy", "[I", true)
def tyX2 : Nat → FieldType := fun k => match k with
  | 0 => .int
  | 1 => .array .int
  | _ => .array .int
abbrev wsX20 : List Cond := u_ws RX2 TX2 3
theorem nmX2 : ∀ a, a < 3 → ∀ b, b < 3 → a ≠ b → (TX2 a).2.1 ≠ (TX2 b).2.1 := by decide +kernel
theorem tyX2_ok : ∀ k, k < 3 → parseFieldDescriptor (TX2 k).2.2.1 = some (tyX2 k) := by decide +kernel
abbrev cX2_init : ByteArray := prog_4_method_1_code
def yX2_init : MethodName := ⟨RX2, "<init>", "()V"⟩
abbrev cX2_add : ByteArray := prog_4_method_2_code
def yX2_add : MethodName := ⟨RX2, "add", "(II)I"⟩
abbrev cX2_clear : ByteArray := prog_4_method_3_code
def yX2_clear : MethodName := ⟨RX2, "clear", "()V"⟩
abbrev cX2_allNamed : ByteArray := prog_4_method_4_code
def yX2_allNamed : MethodName := ⟨RX2, "allNamed", "()I"⟩
abbrev cX2_firstWrong : ByteArray := prog_4_method_5_code
def yX2_firstWrong : MethodName := ⟨RX2, "firstWrong", "(LHeavierToCome$Days;I)I"⟩
abbrev cX2_firstEaten : ByteArray := prog_4_method_6_code
def yX2_firstEaten : MethodName := ⟨RX2, "firstEaten", "(LHeavierToCome$Days;I)I"⟩
abbrev cX2_firstLiar : ByteArray := prog_4_method_7_code
def yX2_firstLiar : MethodName := ⟨RX2, "firstLiar", "()I"⟩
def RX3 : String := "HeavierToCome$Reader"
def TX3 : u_T := fun k => match k with
  | 0 => ("HeavierToCome$Reader", "bytes", "[B", true)
  | 1 => ("HeavierToCome$Reader", "length", "I", false)
  | 2 => ("HeavierToCome$Reader", "faultPlace", "I", false)
  | 3 => ("HeavierToCome$Reader", "faultNumber", "I", false)
  | 4 => ("HeavierToCome$Reader", "at", "I", false)
  | 5 => ("HeavierToCome$Reader", "numberPlace", "I", false)
  | 6 => ("HeavierToCome$Reader", "yearClauses", "I", false)
  | 7 => ("HeavierToCome$Reader", "knowsClauses", "I", false)
  | _ => ("HeavierToCome$Reader", "otherClauses", "I", false)
def tyX3 : Nat → FieldType := fun k => match k with
  | 0 => .array .byte
  | 1 => .int
  | 2 => .int
  | 3 => .int
  | 4 => .int
  | 5 => .int
  | 6 => .int
  | 7 => .int
  | _ => .int
abbrev wsX30 : List Cond := u_ws RX3 TX3 9
theorem nmX3 : ∀ a, a < 9 → ∀ b, b < 9 → a ≠ b → (TX3 a).2.1 ≠ (TX3 b).2.1 := by decide +kernel
theorem tyX3_ok : ∀ k, k < 9 → parseFieldDescriptor (TX3 k).2.2.1 = some (tyX3 k) := by decide +kernel
abbrev cX3_init : ByteArray := prog_5_method_1_code
def yX3_init : MethodName := ⟨RX3, "<init>", "()V"⟩
abbrev cX3_add : ByteArray := prog_5_method_2_code
def yX3_add : MethodName := ⟨RX3, "add", "(IJ)I"⟩
abbrev cX3_readInto : ByteArray := prog_5_method_3_code
def yX3_readInto : MethodName := ⟨RX3, "readInto", "(LHeavierToCome$Land;)I"⟩
abbrev cX3_readClause : ByteArray := prog_5_method_4_code
def yX3_readClause : MethodName := ⟨RX3, "readClause", "(LHeavierToCome$Land;)V"⟩
abbrev cX3_clauseOf : ByteArray := prog_5_method_5_code
def yX3_clauseOf : MethodName := ⟨RX3, "clauseOf", "(II)I"⟩
abbrev cX3_whyNot : ByteArray := prog_5_method_6_code
def yX3_whyNot : MethodName := ⟨RX3, "whyNot", "(ILHeavierToCome$Land;)I"⟩
abbrev cX3_overMost : ByteArray := prog_5_method_7_code
def yX3_overMost : MethodName := ⟨RX3, "overMost", "(II)I"⟩
abbrev cX3_readYear : ByteArray := prog_5_method_8_code
def yX3_readYear : MethodName := ⟨RX3, "readYear", "(LHeavierToCome$Land;)V"⟩
abbrev cX3_readBridge : ByteArray := prog_5_method_9_code
def yX3_readBridge : MethodName := ⟨RX3, "readBridge", "(LHeavierToCome$Land;)V"⟩
abbrev cX3_readMan : ByteArray := prog_5_method_10_code
def yX3_readMan : MethodName := ⟨RX3, "readMan", "(LHeavierToCome$Land;)V"⟩
abbrev cX3_readOx : ByteArray := prog_5_method_11_code
def yX3_readOx : MethodName := ⟨RX3, "readOx", "(LHeavierToCome$Land;)V"⟩
abbrev cX3_readKnows : ByteArray := prog_5_method_12_code
def yX3_readKnows : MethodName := ⟨RX3, "readKnows", "(LHeavierToCome$Land;)V"⟩
abbrev cX3_readKnown : ByteArray := prog_5_method_13_code
def yX3_readKnown : MethodName := ⟨RX3, "readKnown", "(LHeavierToCome$Land;II)V"⟩
abbrev cX3_number : ByteArray := prog_5_method_14_code
def yX3_number : MethodName := ⟨RX3, "number", "(II)I"⟩
abbrev cX3_endClause : ByteArray := prog_5_method_15_code
def yX3_endClause : MethodName := ⟨RX3, "endClause", "()V"⟩
abbrev cX3_takes : ByteArray := prog_5_method_16_code
def yX3_takes : MethodName := ⟨RX3, "takes", "(C)Z"⟩
abbrev cX3_skipBlanks : ByteArray := prog_5_method_17_code
def yX3_skipBlanks : MethodName := ⟨RX3, "skipBlanks", "()V"⟩
abbrev cX3_endOfWord : ByteArray := prog_5_method_18_code
def yX3_endOfWord : MethodName := ⟨RX3, "endOfWord", "()I"⟩
abbrev cX3_isWord : ByteArray := prog_5_method_19_code
def yX3_isWord : MethodName := ⟨RX3, "isWord", "(Ljava/lang/String;II)Z"⟩
abbrev cX3_isFigure : ByteArray := prog_5_method_20_code
def yX3_isFigure : MethodName := ⟨RX3, "isFigure", "(B)Z"⟩
abbrev cX3_blame : ByteArray := prog_5_method_21_code
def yX3_blame : MethodName := ⟨RX3, "blame", "(II)V"⟩
def RX4 : String := "HeavierToCome$Sights"
def TX4 : u_T := fun k => match k with
  | 0 => ("HeavierToCome$Sights", "count", "I", false)
  | 1 => ("HeavierToCome$Sights", "ahead", "[I", true)
  | _ => ("HeavierToCome$Sights", "ways", "[I", true)
def tyX4 : Nat → FieldType := fun k => match k with
  | 0 => .int
  | 1 => .array .int
  | _ => .array .int
abbrev wsX40 : List Cond := u_ws RX4 TX4 3
theorem nmX4 : ∀ a, a < 3 → ∀ b, b < 3 → a ≠ b → (TX4 a).2.1 ≠ (TX4 b).2.1 := by decide +kernel
theorem tyX4_ok : ∀ k, k < 3 → parseFieldDescriptor (TX4 k).2.2.1 = some (tyX4 k) := by decide +kernel
abbrev cX4_init : ByteArray := prog_6_method_1_code
def yX4_init : MethodName := ⟨RX4, "<init>", "()V"⟩
abbrev cX4_add : ByteArray := prog_6_method_2_code
def yX4_add : MethodName := ⟨RX4, "add", "(II)I"⟩
abbrev cX4_clear : ByteArray := prog_6_method_3_code
def yX4_clear : MethodName := ⟨RX4, "clear", "()V"⟩
abbrev cX4_countOrders : ByteArray := prog_6_method_4_code
def yX4_countOrders : MethodName := ⟨RX4, "countOrders", "(I)I"⟩
abbrev cX4_alwaysBehind : ByteArray := prog_6_method_5_code
def yX4_alwaysBehind : MethodName := ⟨RX4, "alwaysBehind", "(II)I"⟩
def RX5 : String := "HeavierToCome$Trial"
def TX5 : u_T := fun k => match k with
  | 0 => ("HeavierToCome$Trial", "land", "LHeavierToCome$Land;", true)
  | 1 => ("HeavierToCome$Trial", "now", "LHeavierToCome$Days;", true)
  | 2 => ("HeavierToCome$Trial", "all", "I", false)
  | 3 => ("HeavierToCome$Trial", "alone", "I", false)
  | 4 => ("HeavierToCome$Trial", "trusted", "I", false)
  | 5 => ("HeavierToCome$Trial", "helpers", "[I", true)
  | 6 => ("HeavierToCome$Trial", "line", "[I", true)
  | _ => ("HeavierToCome$Trial", "lineCount", "I", false)
def tyX5 : Nat → FieldType := fun k => match k with
  | 0 => .object "HeavierToCome$Land"
  | 1 => .object "HeavierToCome$Days"
  | 2 => .int
  | 3 => .int
  | 4 => .int
  | 5 => .array .int
  | 6 => .array .int
  | _ => .int
abbrev wsX50 : List Cond := u_ws RX5 TX5 8
theorem nmX5 : ∀ a, a < 8 → ∀ b, b < 8 → a ≠ b → (TX5 a).2.1 ≠ (TX5 b).2.1 := by decide +kernel
theorem tyX5_ok : ∀ k, k < 8 → parseFieldDescriptor (TX5 k).2.2.1 = some (tyX5 k) := by decide +kernel
abbrev cX5_init : ByteArray := prog_7_method_1_code
def yX5_init : MethodName := ⟨RX5, "<init>", "(LHeavierToCome$Land;LHeavierToCome$Days;)V"⟩
abbrev cX5_lookAt : ByteArray := prog_7_method_2_code
def yX5_lookAt : MethodName := ⟨RX5, "lookAt", "(I)V"⟩
abbrev cX5_lineUp : ByteArray := prog_7_method_3_code
def yX5_lineUp : MethodName := ⟨RX5, "lineUp", "(I)I"⟩
abbrev cX5_mostSet : ByteArray := prog_7_method_4_code
def yX5_mostSet : MethodName := ⟨RX5, "mostSet", "()I"⟩
abbrev cX5_passing : ByteArray := prog_7_method_5_code
def yX5_passing : MethodName := ⟨RX5, "passing", "(I)I"⟩
abbrev cX5_passes : ByteArray := prog_7_method_6_code
def yX5_passes : MethodName := ⟨RX5, "passes", "(II)Z"⟩
abbrev cX5_nextInLine : ByteArray := prog_7_method_7_code
def yX5_nextInLine : MethodName := ⟨RX5, "nextInLine", "(I)I"⟩
abbrev cX5_nameInLine : ByteArray := prog_7_method_8_code
def yX5_nameInLine : MethodName := ⟨RX5, "nameInLine", "(I)I"⟩
abbrev cX5_fewestTold : ByteArray := prog_7_method_9_code
def yX5_fewestTold : MethodName := ⟨RX5, "fewestTold", "(I)I"⟩
abbrev cX5_cheapestOxen : ByteArray := prog_7_method_10_code
def yX5_cheapestOxen : MethodName := ⟨RX5, "cheapestOxen", "(I)I"⟩
abbrev cX5_allPassBefore : ByteArray := prog_7_method_11_code
def yX5_allPassBefore : MethodName := ⟨RX5, "allPassBefore", "(I)Z"⟩
def RX6 : String := "HeavierToCome"
def TX6 : u_T := fun k => match k with
  | 0 => ("HeavierToCome", "land", "LHeavierToCome$Land;", true)
  | 1 => ("HeavierToCome", "draft", "LHeavierToCome$Land;", true)
  | 2 => ("HeavierToCome", "reader", "LHeavierToCome$Reader;", true)
  | 3 => ("HeavierToCome", "now", "LHeavierToCome$Days;", true)
  | 4 => ("HeavierToCome", "firstImage", "LHeavierToCome$Days;", true)
  | 5 => ("HeavierToCome", "secondImage", "LHeavierToCome$Days;", true)
  | 6 => ("HeavierToCome", "trial", "LHeavierToCome$Trial;", true)
  | 7 => ("HeavierToCome", "sights", "LHeavierToCome$Sights;", true)
  | 8 => ("HeavierToCome", "queue", "LHeavierToCome$Queue;", true)
  | _ => ("HeavierToCome", "keptImages", "I", false)
def tyX6 : Nat → FieldType := fun k => match k with
  | 0 => .object "HeavierToCome$Land"
  | 1 => .object "HeavierToCome$Land"
  | 2 => .object "HeavierToCome$Reader"
  | 3 => .object "HeavierToCome$Days"
  | 4 => .object "HeavierToCome$Days"
  | 5 => .object "HeavierToCome$Days"
  | 6 => .object "HeavierToCome$Trial"
  | 7 => .object "HeavierToCome$Sights"
  | 8 => .object "HeavierToCome$Queue"
  | _ => .int
abbrev wsX60 : List Cond := u_ws RX6 TX6 10
theorem nmX6 : ∀ a, a < 10 → ∀ b, b < 10 → a ≠ b → (TX6 a).2.1 ≠ (TX6 b).2.1 := by decide +kernel
theorem tyX6_ok : ∀ k, k < 10 → parseFieldDescriptor (TX6 k).2.2.1 = some (tyX6 k) := by decide +kernel
abbrev cX6_init : ByteArray := prog_1_method_1_code
def yX6_init : MethodName := ⟨RX6, "<init>", "()V"⟩
abbrev cX6_feed : ByteArray := prog_1_method_2_code
def yX6_feed : MethodName := ⟨RX6, "feed", "(IJ)I"⟩
abbrev cX6_hills : ByteArray := prog_1_method_3_code
def yX6_hills : MethodName := ⟨RX6, "hills", "()I"⟩
abbrev cX6_fault : ByteArray := prog_1_method_4_code
def yX6_fault : MethodName := ⟨RX6, "fault", "()I"⟩
abbrev cX6_told : ByteArray := prog_1_method_5_code
def yX6_told : MethodName := ⟨RX6, "told", "(I)I"⟩
abbrev cX6_bridge : ByteArray := prog_1_method_6_code
def yX6_bridge : MethodName := ⟨RX6, "bridge", "(II)I"⟩
abbrev cX6_man : ByteArray := prog_1_method_7_code
def yX6_man : MethodName := ⟨RX6, "man", "(II)I"⟩
abbrev cX6_ox : ByteArray := prog_1_method_8_code
def yX6_ox : MethodName := ⟨RX6, "ox", "(II)I"⟩
abbrev cX6_named : ByteArray := prog_1_method_9_code
def yX6_named : MethodName := ⟨RX6, "named", "(II)I"⟩
abbrev cX6_cross : ByteArray := prog_1_method_10_code
def yX6_cross : MethodName := ⟨RX6, "cross", "(III)I"⟩
abbrev cX6_evening : ByteArray := prog_1_method_11_code
def yX6_evening : MethodName := ⟨RX6, "evening", "()I"⟩
abbrev cX6_know : ByteArray := prog_1_method_12_code
def yX6_know : MethodName := ⟨RX6, "know", "(IIZ)I"⟩
abbrev cX6_drift : ByteArray := prog_1_method_13_code
def yX6_drift : MethodName := ⟨RX6, "drift", "(I)I"⟩
abbrev cX6_most : ByteArray := prog_1_method_14_code
def yX6_most : MethodName := ⟨RX6, "most", "(II)I"⟩
abbrev cX6_names : ByteArray := prog_1_method_15_code
def yX6_names : MethodName := ⟨RX6, "names", "(II)I"⟩
abbrev cX6_tellings : ByteArray := prog_1_method_16_code
def yX6_tellings : MethodName := ⟨RX6, "tellings", "(I)I"⟩
abbrev cX6_hired : ByteArray := prog_1_method_17_code
def yX6_hired : MethodName := ⟨RX6, "hired", "(II)I"⟩
abbrev cX6_found : ByteArray := prog_1_method_18_code
def yX6_found : MethodName := ⟨RX6, "found", "(I)I"⟩
abbrev cX6_whom : ByteArray := prog_1_method_19_code
def yX6_whom : MethodName := ⟨RX6, "whom", "(II)I"⟩
abbrev cX6_see : ByteArray := prog_1_method_20_code
def yX6_see : MethodName := ⟨RX6, "see", "(IIZ)I"⟩
abbrev cX6_orders : ByteArray := prog_1_method_21_code
def yX6_orders : MethodName := ⟨RX6, "orders", "()I"⟩
abbrev cX6_heavier : ByteArray := prog_1_method_22_code
def yX6_heavier : MethodName := ⟨RX6, "heavier", "(I)I"⟩
abbrev cX6_row : ByteArray := prog_1_method_23_code
def yX6_row : MethodName := ⟨RX6, "row", "(II)I"⟩
abbrev cX6_odds : ByteArray := prog_1_method_24_code
def yX6_odds : MethodName := ⟨RX6, "odds", "()I"⟩
abbrev cX6_wrong : ByteArray := prog_1_method_25_code
def yX6_wrong : MethodName := ⟨RX6, "wrong", "(I)I"⟩
abbrev cX6_tear : ByteArray := prog_1_method_26_code
def yX6_tear : MethodName := ⟨RX6, "tear", "()I"⟩
abbrev cX6_seed : ByteArray := prog_1_method_27_code
def yX6_seed : MethodName := ⟨RX6, "seed", "(I)I"⟩
abbrev cX6_keep : ByteArray := prog_1_method_28_code
def yX6_keep : MethodName := ⟨RX6, "keep", "(I)I"⟩
abbrev cX6_goBack : ByteArray := prog_1_method_29_code
def yX6_goBack : MethodName := ⟨RX6, "goBack", "(I)I"⟩
abbrev cX6_isImage : ByteArray := prog_1_method_30_code
def yX6_isImage : MethodName := ⟨RX6, "isImage", "(I)Z"⟩
abbrev cX6_image : ByteArray := prog_1_method_31_code
def yX6_image : MethodName := ⟨RX6, "image", "(I)LHeavierToCome$Days;"⟩
abbrev cX6_bit : ByteArray := prog_1_method_32_code
def yX6_bit : MethodName := ⟨RX6, "bit", "(I)I"⟩
abbrev cX6_has : ByteArray := prog_1_method_33_code
def yX6_has : MethodName := ⟨RX6, "has", "(II)Z"⟩
abbrev cX6_slot : ByteArray := prog_1_method_34_code
def yX6_slot : MethodName := ⟨RX6, "slot", "(II)I"⟩
def RX7 : String := "HeavierToComeModel"
def TX7 : u_T := fun k => match k with
  | 0 => ("HeavierToComeModel", "year", "I", false)
  | 1 => ("HeavierToComeModel", "bridges", "I", false)
  | 2 => ("HeavierToComeModel", "forgets", "[I", true)
  | 3 => ("HeavierToComeModel", "men", "I", false)
  | 4 => ("HeavierToComeModel", "weight", "[I", true)
  | 5 => ("HeavierToComeModel", "comes", "[I", true)
  | 6 => ("HeavierToComeModel", "oxen", "I", false)
  | 7 => ("HeavierToComeModel", "oxWeight", "[I", true)
  | 8 => ("HeavierToComeModel", "oxPrice", "[I", true)
  | 9 => ("HeavierToComeModel", "knows", "[I", true)
  | 10 => ("HeavierToComeModel", "alive", "I", false)
  | 11 => ("HeavierToComeModel", "day", "I", false)
  | 12 => ("HeavierToComeModel", "over", "[I", true)
  | 13 => ("HeavierToComeModel", "named", "[I", true)
  | 14 => ("HeavierToComeModel", "lieDay", "[I", true)
  | 15 => ("HeavierToComeModel", "aloneYear", "[I", true)
  | 16 => ("HeavierToComeModel", "seed", "I", false)
  | 17 => ("HeavierToComeModel", "text", "[I", true)
  | 18 => ("HeavierToComeModel", "texted", "I", false)
  | 19 => ("HeavierToComeModel", "faultPlace", "I", false)
  | 20 => ("HeavierToComeModel", "at0", "I", false)
  | 21 => ("HeavierToComeModel", "said", "J", false)
  | 22 => ("HeavierToComeModel", "wordEnd", "I", false)
  | 23 => ("HeavierToComeModel", "number", "I", false)
  | 24 => ("HeavierToComeModel", "numberAt", "I", false)
  | 25 => ("HeavierToComeModel", "readYear", "I", false)
  | 26 => ("HeavierToComeModel", "readClauses", "I", false)
  | 27 => ("HeavierToComeModel", "readBridges", "I", false)
  | 28 => ("HeavierToComeModel", "readForgets", "[I", true)
  | 29 => ("HeavierToComeModel", "readMen", "I", false)
  | 30 => ("HeavierToComeModel", "readWeight", "[I", true)
  | 31 => ("HeavierToComeModel", "readComes", "[I", true)
  | 32 => ("HeavierToComeModel", "readMany", "I", false)
  | 33 => ("HeavierToComeModel", "readKnows", "[I", true)
  | 34 => ("HeavierToComeModel", "readOxen", "I", false)
  | 35 => ("HeavierToComeModel", "readOx", "[I", true)
  | 36 => ("HeavierToComeModel", "readPrice", "[I", true)
  | 37 => ("HeavierToComeModel", "order", "[I", true)
  | 38 => ("HeavierToComeModel", "orderNames", "[I", true)
  | 39 => ("HeavierToComeModel", "sights", "I", false)
  | 40 => ("HeavierToComeModel", "seenWho", "[I", true)
  | 41 => ("HeavierToComeModel", "seenNamed", "[I", true)
  | 42 => ("HeavierToComeModel", "seenLetGo", "[Z", true)
  | 43 => ("HeavierToComeModel", "placeIn", "[I", true)
  | 44 => ("HeavierToComeModel", "behind", "[I", true)
  | 45 => ("HeavierToComeModel", "rowMany", "I", false)
  | 46 => ("HeavierToComeModel", "rowWho", "[I", true)
  | 47 => ("HeavierToComeModel", "rowNames", "[I", true)
  | 48 => ("HeavierToComeModel", "images", "[I", true)
  | _ => ("HeavierToComeModel", "isKept", "[Z", true)
def tyX7 : Nat → FieldType := fun k => match k with
  | 0 => .int
  | 1 => .int
  | 2 => .array .int
  | 3 => .int
  | 4 => .array .int
  | 5 => .array .int
  | 6 => .int
  | 7 => .array .int
  | 8 => .array .int
  | 9 => .array .int
  | 10 => .int
  | 11 => .int
  | 12 => .array .int
  | 13 => .array .int
  | 14 => .array .int
  | 15 => .array .int
  | 16 => .int
  | 17 => .array .int
  | 18 => .int
  | 19 => .int
  | 20 => .int
  | 21 => .long
  | 22 => .int
  | 23 => .int
  | 24 => .int
  | 25 => .int
  | 26 => .int
  | 27 => .int
  | 28 => .array .int
  | 29 => .int
  | 30 => .array .int
  | 31 => .array .int
  | 32 => .int
  | 33 => .array .int
  | 34 => .int
  | 35 => .array .int
  | 36 => .array .int
  | 37 => .array .int
  | 38 => .array .int
  | 39 => .int
  | 40 => .array .int
  | 41 => .array .int
  | 42 => .array .boolean
  | 43 => .array .int
  | 44 => .array .int
  | 45 => .int
  | 46 => .array .int
  | 47 => .array .int
  | 48 => .array .int
  | _ => .array .boolean
abbrev wsX70 : List Cond := u_ws RX7 TX7 50
theorem nmX7 : ∀ a, a < 50 → ∀ b, b < 50 → a ≠ b → (TX7 a).2.1 ≠ (TX7 b).2.1 := by decide +kernel
theorem tyX7_ok : ∀ k, k < 50 → parseFieldDescriptor (TX7 k).2.2.1 = some (tyX7 k) := by decide +kernel
abbrev cX7_init : ByteArray := prog_9_method_1_code
def yX7_init : MethodName := ⟨RX7, "<init>", "()V"⟩
abbrev cX7_in : ByteArray := prog_9_method_3_code
def yX7_in : MethodName := ⟨RX7, "in", "(JJJ)Z"⟩
abbrev cX7_has : ByteArray := prog_9_method_4_code
def yX7_has : MethodName := ⟨RX7, "has", "(II)Z"⟩
abbrev cX7_isBridge : ByteArray := prog_9_method_6_code
def yX7_isBridge : MethodName := ⟨RX7, "isBridge", "(I)Z"⟩
abbrev cX7_isMan : ByteArray := prog_9_method_7_code
def yX7_isMan : MethodName := ⟨RX7, "isMan", "(I)Z"⟩
abbrev cX7_isManOrNone : ByteArray := prog_9_method_8_code
def yX7_isManOrNone : MethodName := ⟨RX7, "isManOrNone", "(I)Z"⟩
abbrev cX7_feed : ByteArray := prog_9_method_9_code
def yX7_feed : MethodName := ⟨RX7, "feed", "(IJ)I"⟩
abbrev cX7_here : ByteArray := prog_9_method_10_code
def yX7_here : MethodName := ⟨RX7, "here", "()I"⟩
abbrev cX7_fails : ByteArray := prog_9_method_11_code
def yX7_fails : MethodName := ⟨RX7, "fails", "(II)I"⟩
abbrev cX7_readWord : ByteArray := prog_9_method_12_code
def yX7_readWord : MethodName := ⟨RX7, "readWord", "()V"⟩
abbrev cX7_code : ByteArray := prog_9_method_13_code
def yX7_code : MethodName := ⟨RX7, "code", "(III)J"⟩
abbrev cX7_more : ByteArray := prog_9_method_14_code
def yX7_more : MethodName := ⟨RX7, "more", "(JI)J"⟩
abbrev cX7_takeNumber : ByteArray := prog_9_method_15_code
def yX7_takeNumber : MethodName := ⟨RX7, "takeNumber", "(II)I"⟩
abbrev cX7_into : ByteArray := prog_9_method_16_code
def yX7_into : MethodName := ⟨RX7, "into", "([IIII)I"⟩
abbrev cX7_takeYear : ByteArray := prog_9_method_17_code
def yX7_takeYear : MethodName := ⟨RX7, "takeYear", "()I"⟩
abbrev cX7_takeBridge : ByteArray := prog_9_method_18_code
def yX7_takeBridge : MethodName := ⟨RX7, "takeBridge", "()I"⟩
abbrev cX7_takeMan : ByteArray := prog_9_method_19_code
def yX7_takeMan : MethodName := ⟨RX7, "takeMan", "()I"⟩
abbrev cX7_takeKnows : ByteArray := prog_9_method_20_code
def yX7_takeKnows : MethodName := ⟨RX7, "takeKnows", "()I"⟩
abbrev cX7_takeOx : ByteArray := prog_9_method_21_code
def yX7_takeOx : MethodName := ⟨RX7, "takeOx", "()I"⟩
abbrev cX7_takeClause : ByteArray := prog_9_method_22_code
def yX7_takeClause : MethodName := ⟨RX7, "takeClause", "()I"⟩
abbrev cX7_hills : ByteArray := prog_9_method_23_code
def yX7_hills : MethodName := ⟨RX7, "hills", "()I"⟩
abbrev cX7_fault : ByteArray := prog_9_method_24_code
def yX7_fault : MethodName := ⟨RX7, "fault", "()I"⟩
abbrev cX7_told : ByteArray := prog_9_method_25_code
def yX7_told : MethodName := ⟨RX7, "told", "(I)I"⟩
abbrev cX7_isRemembered : ByteArray := prog_9_method_26_code
def yX7_isRemembered : MethodName := ⟨RX7, "isRemembered", "(II)Z"⟩
abbrev cX7_rememberedAt : ByteArray := prog_9_method_27_code
def yX7_rememberedAt : MethodName := ⟨RX7, "rememberedAt", "(I)I"⟩
abbrev cX7_bridge : ByteArray := prog_9_method_28_code
def yX7_bridge : MethodName := ⟨RX7, "bridge", "(II)I"⟩
abbrev cX7_man : ByteArray := prog_9_method_29_code
def yX7_man : MethodName := ⟨RX7, "man", "(II)I"⟩
abbrev cX7_ox : ByteArray := prog_9_method_30_code
def yX7_ox : MethodName := ⟨RX7, "ox", "(II)I"⟩
abbrev cX7_named : ByteArray := prog_9_method_31_code
def yX7_named : MethodName := ⟨RX7, "named", "(II)I"⟩
abbrev cX7_mayAlone : ByteArray := prog_9_method_32_code
def yX7_mayAlone : MethodName := ⟨RX7, "mayAlone", "(II)Z"⟩
abbrev cX7_mayName : ByteArray := prog_9_method_33_code
def yX7_mayName : MethodName := ⟨RX7, "mayName", "(III)Z"⟩
abbrev cX7_isLetGo : ByteArray := prog_9_method_34_code
def yX7_isLetGo : MethodName := ⟨RX7, "isLetGo", "(III)Z"⟩
abbrev cX7_canCross : ByteArray := prog_9_method_35_code
def yX7_canCross : MethodName := ⟨RX7, "canCross", "(III)Z"⟩
abbrev cX7_crossNow : ByteArray := prog_9_method_36_code
def yX7_crossNow : MethodName := ⟨RX7, "crossNow", "(III)I"⟩
abbrev cX7_cross : ByteArray := prog_9_method_37_code
def yX7_cross : MethodName := ⟨RX7, "cross", "(III)I"⟩
abbrev cX7_evening : ByteArray := prog_9_method_38_code
def yX7_evening : MethodName := ⟨RX7, "evening", "()I"⟩
abbrev cX7_know : ByteArray := prog_9_method_39_code
def yX7_know : MethodName := ⟨RX7, "know", "(IIZ)I"⟩
abbrev cX7_draw : ByteArray := prog_9_method_40_code
def yX7_draw : MethodName := ⟨RX7, "draw", "(I)I"⟩
abbrev cX7_dayNow : ByteArray := prog_9_method_41_code
def yX7_dayNow : MethodName := ⟨RX7, "dayNow", "()V"⟩
abbrev cX7_drift : ByteArray := prog_9_method_42_code
def yX7_drift : MethodName := ⟨RX7, "drift", "(I)I"⟩
abbrev cX7_candidates : ByteArray := prog_9_method_43_code
def yX7_candidates : MethodName := ⟨RX7, "candidates", "(I)I"⟩
abbrev cX7_supports : ByteArray := prog_9_method_44_code
def yX7_supports : MethodName := ⟨RX7, "supports", "(III)I"⟩
abbrev cX7_isSupported : ByteArray := prog_9_method_45_code
def yX7_isSupported : MethodName := ⟨RX7, "isSupported", "(III)Z"⟩
abbrev cX7_isWhole : ByteArray := prog_9_method_46_code
def yX7_isWhole : MethodName := ⟨RX7, "isWhole", "(II)Z"⟩
abbrev cX7_mostOf : ByteArray := prog_9_method_47_code
def yX7_mostOf : MethodName := ⟨RX7, "mostOf", "(I)I"⟩
abbrev cX7_findRow : ByteArray := prog_9_method_48_code
def yX7_findRow : MethodName := ⟨RX7, "findRow", "(I)I"⟩
abbrev cX7_most : ByteArray := prog_9_method_49_code
def yX7_most : MethodName := ⟨RX7, "most", "(II)I"⟩
abbrev cX7_names : ByteArray := prog_9_method_50_code
def yX7_names : MethodName := ⟨RX7, "names", "(II)I"⟩
abbrev cX7_couldName : ByteArray := prog_9_method_51_code
def yX7_couldName : MethodName := ⟨RX7, "couldName", "(III)Z"⟩
abbrev cX7_tellings : ByteArray := prog_9_method_52_code
def yX7_tellings : MethodName := ⟨RX7, "tellings", "(I)I"⟩
abbrev cX7_areOver : ByteArray := prog_9_method_53_code
def yX7_areOver : MethodName := ⟨RX7, "areOver", "(II)Z"⟩
abbrev cX7_hired : ByteArray := prog_9_method_54_code
def yX7_hired : MethodName := ⟨RX7, "hired", "(II)I"⟩
abbrev cX7_found : ByteArray := prog_9_method_55_code
def yX7_found : MethodName := ⟨RX7, "found", "(I)I"⟩
abbrev cX7_whom : ByteArray := prog_9_method_56_code
def yX7_whom : MethodName := ⟨RX7, "whom", "(II)I"⟩
abbrev cX7_see : ByteArray := prog_9_method_57_code
def yX7_see : MethodName := ⟨RX7, "see", "(IIZ)I"⟩
abbrev cX7_setPlaces : ByteArray := prog_9_method_58_code
def yX7_setPlaces : MethodName := ⟨RX7, "setPlaces", "(I)Z"⟩
abbrev cX7_isAsSeen : ByteArray := prog_9_method_59_code
def yX7_isAsSeen : MethodName := ⟨RX7, "isAsSeen", "()Z"⟩
abbrev cX7_findOrders : ByteArray := prog_9_method_60_code
def yX7_findOrders : MethodName := ⟨RX7, "findOrders", "()I"⟩
abbrev cX7_orders : ByteArray := prog_9_method_61_code
def yX7_orders : MethodName := ⟨RX7, "orders", "()I"⟩
abbrev cX7_heavier : ByteArray := prog_9_method_62_code
def yX7_heavier : MethodName := ⟨RX7, "heavier", "(I)I"⟩
abbrev cX7_row : ByteArray := prog_9_method_63_code
def yX7_row : MethodName := ⟨RX7, "row", "(II)I"⟩
abbrev cX7_odds : ByteArray := prog_9_method_64_code
def yX7_odds : MethodName := ⟨RX7, "odds", "()I"⟩
abbrev cX7_isBehind : ByteArray := prog_9_method_65_code
def yX7_isBehind : MethodName := ⟨RX7, "isBehind", "(I)Z"⟩
abbrev cX7_wrong : ByteArray := prog_9_method_66_code
def yX7_wrong : MethodName := ⟨RX7, "wrong", "(I)I"⟩
abbrev cX7_tear : ByteArray := prog_9_method_67_code
def yX7_tear : MethodName := ⟨RX7, "tear", "()I"⟩
abbrev cX7_seed : ByteArray := prog_9_method_68_code
def yX7_seed : MethodName := ⟨RX7, "seed", "(I)I"⟩
abbrev cX7_keep : ByteArray := prog_9_method_69_code
def yX7_keep : MethodName := ⟨RX7, "keep", "(I)I"⟩
abbrev cX7_goBack : ByteArray := prog_9_method_70_code
def yX7_goBack : MethodName := ⟨RX7, "goBack", "(I)I"⟩
def RL : String := "HeavierToComeLaw"
abbrev cL_law : ByteArray := code
def yL_law : MethodName := ⟨RL, "law", "([I)Z"⟩
abbrev vwCl : List vw_C := [(RX0, TX0, 9), (RX1, TX1, 10), (RX2, TX2, 3), (RX3, TX3, 9), (RX4, TX4, 3), (RX5, TX5, 8), (RX6, TX6, 10), (RX7, TX7, 50)]
