section
-- ===== PART A: goes FIRST, ahead of the names: the tables' words, and 'selects' of the private methods out of them =====
/-- a private method of a class that the tables say can be made, by its rows of tables_1 -/
def lw_okq (q : MethodName × Nat) : Prop := (q.1.cls ≠ "java/lang/invoke/MethodHandle" ∧ q.1.cls ≠ "java/lang/invoke/VarHandle") ∧ Cond.instantiable q.1.cls q.2 ∈ tables_1 ∧ Cond.privateMethod q.1 ∈ tables_1 ∧ Cond.instanceMethod q.1 ∈ tables_1
theorem lw_p0 : lw_okq (⟨"NamelessBox", "told", "(I)I"⟩, 12) := ⟨⟨by decide +kernel, by decide +kernel⟩, List.mem_of_getElem? (i := 20) (by decide +kernel), List.mem_of_getElem? (i := 357) (by decide +kernel), List.mem_of_getElem? (i := 358) (by decide +kernel)⟩
theorem lw_p1 : lw_okq (⟨"NamelessBox", "refused", "(I)I"⟩, 12) := ⟨⟨by decide +kernel, by decide +kernel⟩, List.mem_of_getElem? (i := 20) (by decide +kernel), List.mem_of_getElem? (i := 361) (by decide +kernel), List.mem_of_getElem? (i := 362) (by decide +kernel)⟩
theorem lw_p2 : lw_okq (⟨"NamelessBox$Box", "mayBeParent", "(II)Z"⟩, 6) := ⟨⟨by decide +kernel, by decide +kernel⟩, List.mem_of_getElem? (i := 28) (by decide +kernel), List.mem_of_getElem? (i := 374) (by decide +kernel), List.mem_of_getElem? (i := 375) (by decide +kernel)⟩
theorem lw_p3 : lw_okq (⟨"NamelessBox", "isWho", "(I)Z"⟩, 12) := ⟨⟨by decide +kernel, by decide +kernel⟩, List.mem_of_getElem? (i := 20) (by decide +kernel), List.mem_of_getElem? (i := 444) (by decide +kernel), List.mem_of_getElem? (i := 445) (by decide +kernel)⟩
theorem lw_p4 : lw_okq (⟨"NamelessBox$Text", "advance", "()I"⟩, 6) := ⟨⟨by decide +kernel, by decide +kernel⟩, List.mem_of_getElem? (i := 92) (by decide +kernel), List.mem_of_getElem? (i := 497) (by decide +kernel), List.mem_of_getElem? (i := 498) (by decide +kernel)⟩
theorem lw_p5 : lw_okq (⟨"NamelessBox$Text", "takeItem", "(I)Z"⟩, 6) := ⟨⟨by decide +kernel, by decide +kernel⟩, List.mem_of_getElem? (i := 92) (by decide +kernel), List.mem_of_getElem? (i := 507) (by decide +kernel), List.mem_of_getElem? (i := 508) (by decide +kernel)⟩
theorem lw_p6 : lw_okq (⟨"NamelessBox$Text", "itemOf", "()I"⟩, 6) := ⟨⟨by decide +kernel, by decide +kernel⟩, List.mem_of_getElem? (i := 92) (by decide +kernel), List.mem_of_getElem? (i := 511) (by decide +kernel), List.mem_of_getElem? (i := 512) (by decide +kernel)⟩
theorem lw_p7 : lw_okq (⟨"NamelessBox$Text", "isWord", "(Ljava/lang/String;)Z"⟩, 6) := ⟨⟨by decide +kernel, by decide +kernel⟩, List.mem_of_getElem? (i := 92) (by decide +kernel), List.mem_of_getElem? (i := 526) (by decide +kernel), List.mem_of_getElem? (i := 527) (by decide +kernel)⟩
theorem lw_p8 : lw_okq (⟨"NamelessBox$Text", "numberOf", "()I"⟩, 6) := ⟨⟨by decide +kernel, by decide +kernel⟩, List.mem_of_getElem? (i := 92) (by decide +kernel), List.mem_of_getElem? (i := 580) (by decide +kernel), List.mem_of_getElem? (i := 581) (by decide +kernel)⟩
theorem lw_p9 : lw_okq (⟨"NamelessBox$Text", "tellItem", "(LNamelessBox$Box;)I"⟩, 6) := ⟨⟨by decide +kernel, by decide +kernel⟩, List.mem_of_getElem? (i := 92) (by decide +kernel), List.mem_of_getElem? (i := 592) (by decide +kernel), List.mem_of_getElem? (i := 593) (by decide +kernel)⟩
theorem lw_p10 : lw_okq (⟨"NamelessBox", "anyWay", "(I)Z"⟩, 12) := ⟨⟨by decide +kernel, by decide +kernel⟩, List.mem_of_getElem? (i := 20) (by decide +kernel), List.mem_of_getElem? (i := 623) (by decide +kernel), List.mem_of_getElem? (i := 624) (by decide +kernel)⟩
theorem lw_p11 : lw_okq (⟨"NamelessBox$Ways", "placeHeads", "()V"⟩, 19) := ⟨⟨by decide +kernel, by decide +kernel⟩, List.mem_of_getElem? (i := 142) (by decide +kernel), List.mem_of_getElem? (i := 645) (by decide +kernel), List.mem_of_getElem? (i := 646) (by decide +kernel)⟩
theorem lw_p12 : lw_okq (⟨"NamelessBox$Ways", "planLikes", "(II)V"⟩, 19) := ⟨⟨by decide +kernel, by decide +kernel⟩, List.mem_of_getElem? (i := 142) (by decide +kernel), List.mem_of_getElem? (i := 655) (by decide +kernel), List.mem_of_getElem? (i := 656) (by decide +kernel)⟩
theorem lw_p13 : lw_okq (⟨"NamelessBox$Ways", "planNamings", "(II)V"⟩, 19) := ⟨⟨by decide +kernel, by decide +kernel⟩, List.mem_of_getElem? (i := 142) (by decide +kernel), List.mem_of_getElem? (i := 661) (by decide +kernel), List.mem_of_getElem? (i := 662) (by decide +kernel)⟩
theorem lw_p14 : lw_okq (⟨"NamelessBox$Ways", "takeEmptyPictures", "()V"⟩, 19) := ⟨⟨by decide +kernel, by decide +kernel⟩, List.mem_of_getElem? (i := 142) (by decide +kernel), List.mem_of_getElem? (i := 674) (by decide +kernel), List.mem_of_getElem? (i := 675) (by decide +kernel)⟩
theorem lw_p15 : lw_okq (⟨"NamelessBox$Ways", "yearsInOrder", "()J"⟩, 19) := ⟨⟨by decide +kernel, by decide +kernel⟩, List.mem_of_getElem? (i := 142) (by decide +kernel), List.mem_of_getElem? (i := 682) (by decide +kernel), List.mem_of_getElem? (i := 683) (by decide +kernel)⟩
def lw_privs_1 : List (MethodName × Nat) := [(⟨"NamelessBox", "told", "(I)I"⟩, 12), (⟨"NamelessBox", "refused", "(I)I"⟩, 12), (⟨"NamelessBox$Box", "mayBeParent", "(II)Z"⟩, 6), (⟨"NamelessBox", "isWho", "(I)Z"⟩, 12), (⟨"NamelessBox$Text", "advance", "()I"⟩, 6), (⟨"NamelessBox$Text", "takeItem", "(I)Z"⟩, 6), (⟨"NamelessBox$Text", "itemOf", "()I"⟩, 6), (⟨"NamelessBox$Text", "isWord", "(Ljava/lang/String;)Z"⟩, 6), (⟨"NamelessBox$Text", "numberOf", "()I"⟩, 6), (⟨"NamelessBox$Text", "tellItem", "(LNamelessBox$Box;)I"⟩, 6), (⟨"NamelessBox", "anyWay", "(I)Z"⟩, 12), (⟨"NamelessBox$Ways", "placeHeads", "()V"⟩, 19), (⟨"NamelessBox$Ways", "planLikes", "(II)V"⟩, 19), (⟨"NamelessBox$Ways", "planNamings", "(II)V"⟩, 19), (⟨"NamelessBox$Ways", "takeEmptyPictures", "()V"⟩, 19), (⟨"NamelessBox$Ways", "yearsInOrder", "()J"⟩, 19)]
theorem lw_r1 : ∀ q ∈ lw_privs_1, lw_okq q := List.forall_mem_cons.mpr ⟨lw_p0, List.forall_mem_cons.mpr ⟨lw_p1, List.forall_mem_cons.mpr ⟨lw_p2, List.forall_mem_cons.mpr ⟨lw_p3, List.forall_mem_cons.mpr ⟨lw_p4, List.forall_mem_cons.mpr ⟨lw_p5, List.forall_mem_cons.mpr ⟨lw_p6, List.forall_mem_cons.mpr ⟨lw_p7, List.forall_mem_cons.mpr ⟨lw_p8, List.forall_mem_cons.mpr ⟨lw_p9, List.forall_mem_cons.mpr ⟨lw_p10, List.forall_mem_cons.mpr ⟨lw_p11, List.forall_mem_cons.mpr ⟨lw_p12, List.forall_mem_cons.mpr ⟨lw_p13, List.forall_mem_cons.mpr ⟨lw_p14, List.forall_mem_cons.mpr ⟨lw_p15, fun _ h => absurd h List.not_mem_nil⟩⟩⟩⟩⟩⟩⟩⟩⟩⟩⟩⟩⟩⟩⟩⟩
theorem lw_p16 : lw_okq (⟨"NamelessBox$Ways", "descend", "(II)V"⟩, 19) := ⟨⟨by decide +kernel, by decide +kernel⟩, List.mem_of_getElem? (i := 142) (by decide +kernel), List.mem_of_getElem? (i := 686) (by decide +kernel), List.mem_of_getElem? (i := 687) (by decide +kernel)⟩
theorem lw_p17 : lw_okq (⟨"NamelessBox$Ways", "goesOn", "(II)Z"⟩, 19) := ⟨⟨by decide +kernel, by decide +kernel⟩, List.mem_of_getElem? (i := 142) (by decide +kernel), List.mem_of_getElem? (i := 710) (by decide +kernel), List.mem_of_getElem? (i := 711) (by decide +kernel)⟩
theorem lw_p18 : lw_okq (⟨"NamelessBox$Ways", "isThereAlready", "(II)Z"⟩, 19) := ⟨⟨by decide +kernel, by decide +kernel⟩, List.mem_of_getElem? (i := 142) (by decide +kernel), List.mem_of_getElem? (i := 714) (by decide +kernel), List.mem_of_getElem? (i := 715) (by decide +kernel)⟩
theorem lw_p19 : lw_okq (⟨"NamelessBox$Ways", "joinings", "(II)I"⟩, 19) := ⟨⟨by decide +kernel, by decide +kernel⟩, List.mem_of_getElem? (i := 142) (by decide +kernel), List.mem_of_getElem? (i := 718) (by decide +kernel), List.mem_of_getElem? (i := 719) (by decide +kernel)⟩
theorem lw_p20 : lw_okq (⟨"NamelessBox$Ways", "takings", "(II)J"⟩, 19) := ⟨⟨by decide +kernel, by decide +kernel⟩, List.mem_of_getElem? (i := 142) (by decide +kernel), List.mem_of_getElem? (i := 723) (by decide +kernel), List.mem_of_getElem? (i := 724) (by decide +kernel)⟩
theorem lw_p21 : lw_okq (⟨"NamelessBox$Ways", "sumYears", "(II)J"⟩, 19) := ⟨⟨by decide +kernel, by decide +kernel⟩, List.mem_of_getElem? (i := 142) (by decide +kernel), List.mem_of_getElem? (i := 727) (by decide +kernel), List.mem_of_getElem? (i := 728) (by decide +kernel)⟩
theorem lw_p22 : lw_okq (⟨"NamelessBox$Ways", "multiplyYears", "(II)Z"⟩, 19) := ⟨⟨by decide +kernel, by decide +kernel⟩, List.mem_of_getElem? (i := 142) (by decide +kernel), List.mem_of_getElem? (i := 731) (by decide +kernel), List.mem_of_getElem? (i := 732) (by decide +kernel)⟩
theorem lw_p23 : lw_okq (⟨"NamelessBox$Ways", "areBothTold", "(I)Z"⟩, 19) := ⟨⟨by decide +kernel, by decide +kernel⟩, List.mem_of_getElem? (i := 142) (by decide +kernel), List.mem_of_getElem? (i := 735) (by decide +kernel), List.mem_of_getElem? (i := 736) (by decide +kernel)⟩
theorem lw_p24 : lw_okq (⟨"NamelessBox$Ways", "gather", "(II)V"⟩, 19) := ⟨⟨by decide +kernel, by decide +kernel⟩, List.mem_of_getElem? (i := 142) (by decide +kernel), List.mem_of_getElem? (i := 740) (by decide +kernel), List.mem_of_getElem? (i := 741) (by decide +kernel)⟩
theorem lw_p25 : lw_okq (⟨"NamelessBox", "share", "([JI)I"⟩, 12) := ⟨⟨by decide +kernel, by decide +kernel⟩, List.mem_of_getElem? (i := 20) (by decide +kernel), List.mem_of_getElem? (i := 767) (by decide +kernel), List.mem_of_getElem? (i := 768) (by decide +kernel)⟩
theorem lw_p26 : lw_okq (⟨"NamelessBox$Fraction", "halveBoth", "()V"⟩, 4) := ⟨⟨by decide +kernel, by decide +kernel⟩, List.mem_of_getElem? (i := 120) (by decide +kernel), List.mem_of_getElem? (i := 779) (by decide +kernel), List.mem_of_getElem? (i := 780) (by decide +kernel)⟩
theorem lw_p27 : lw_okq (⟨"NamelessBox$Fraction", "findOddDivisor", "()V"⟩, 4) := ⟨⟨by decide +kernel, by decide +kernel⟩, List.mem_of_getElem? (i := 120) (by decide +kernel), List.mem_of_getElem? (i := 789) (by decide +kernel), List.mem_of_getElem? (i := 790) (by decide +kernel)⟩
theorem lw_p28 : lw_okq (⟨"NamelessBox", "staysSure", "(II)Z"⟩, 12) := ⟨⟨by decide +kernel, by decide +kernel⟩, List.mem_of_getElem? (i := 20) (by decide +kernel), List.mem_of_getElem? (i := 845) (by decide +kernel), List.mem_of_getElem? (i := 846) (by decide +kernel)⟩
theorem lw_p29 : lw_okq (⟨"NamelessBox", "answerShare", "()I"⟩, 12) := ⟨⟨by decide +kernel, by decide +kernel⟩, List.mem_of_getElem? (i := 20) (by decide +kernel), List.mem_of_getElem? (i := 865) (by decide +kernel), List.mem_of_getElem? (i := 866) (by decide +kernel)⟩
theorem lw_p30 : lw_okq (⟨"NamelessBox", "addStrangerBeside", "(II)V"⟩, 12) := ⟨⟨by decide +kernel, by decide +kernel⟩, List.mem_of_getElem? (i := 20) (by decide +kernel), List.mem_of_getElem? (i := 882) (by decide +kernel), List.mem_of_getElem? (i := 883) (by decide +kernel)⟩
theorem lw_p31 : lw_okq (⟨"NamelessBox", "isYearOf", "(II)Z"⟩, 12) := ⟨⟨by decide +kernel, by decide +kernel⟩, List.mem_of_getElem? (i := 20) (by decide +kernel), List.mem_of_getElem? (i := 895) (by decide +kernel), List.mem_of_getElem? (i := 896) (by decide +kernel)⟩
def lw_privs_2 : List (MethodName × Nat) := [(⟨"NamelessBox$Ways", "descend", "(II)V"⟩, 19), (⟨"NamelessBox$Ways", "goesOn", "(II)Z"⟩, 19), (⟨"NamelessBox$Ways", "isThereAlready", "(II)Z"⟩, 19), (⟨"NamelessBox$Ways", "joinings", "(II)I"⟩, 19), (⟨"NamelessBox$Ways", "takings", "(II)J"⟩, 19), (⟨"NamelessBox$Ways", "sumYears", "(II)J"⟩, 19), (⟨"NamelessBox$Ways", "multiplyYears", "(II)Z"⟩, 19), (⟨"NamelessBox$Ways", "areBothTold", "(I)Z"⟩, 19), (⟨"NamelessBox$Ways", "gather", "(II)V"⟩, 19), (⟨"NamelessBox", "share", "([JI)I"⟩, 12), (⟨"NamelessBox$Fraction", "halveBoth", "()V"⟩, 4), (⟨"NamelessBox$Fraction", "findOddDivisor", "()V"⟩, 4), (⟨"NamelessBox", "staysSure", "(II)Z"⟩, 12), (⟨"NamelessBox", "answerShare", "()I"⟩, 12), (⟨"NamelessBox", "addStrangerBeside", "(II)V"⟩, 12), (⟨"NamelessBox", "isYearOf", "(II)Z"⟩, 12)]
theorem lw_r2 : ∀ q ∈ lw_privs_2, lw_okq q := List.forall_mem_cons.mpr ⟨lw_p16, List.forall_mem_cons.mpr ⟨lw_p17, List.forall_mem_cons.mpr ⟨lw_p18, List.forall_mem_cons.mpr ⟨lw_p19, List.forall_mem_cons.mpr ⟨lw_p20, List.forall_mem_cons.mpr ⟨lw_p21, List.forall_mem_cons.mpr ⟨lw_p22, List.forall_mem_cons.mpr ⟨lw_p23, List.forall_mem_cons.mpr ⟨lw_p24, List.forall_mem_cons.mpr ⟨lw_p25, List.forall_mem_cons.mpr ⟨lw_p26, List.forall_mem_cons.mpr ⟨lw_p27, List.forall_mem_cons.mpr ⟨lw_p28, List.forall_mem_cons.mpr ⟨lw_p29, List.forall_mem_cons.mpr ⟨lw_p30, List.forall_mem_cons.mpr ⟨lw_p31, fun _ h => absurd h List.not_mem_nil⟩⟩⟩⟩⟩⟩⟩⟩⟩⟩⟩⟩⟩⟩⟩⟩
theorem lw_p32 : lw_okq (⟨"NamelessBox", "areTwoPeople", "(II)Z"⟩, 12) := ⟨⟨by decide +kernel, by decide +kernel⟩, List.mem_of_getElem? (i := 20) (by decide +kernel), List.mem_of_getElem? (i := 920) (by decide +kernel), List.mem_of_getElem? (i := 921) (by decide +kernel)⟩
theorem lw_p33 : lw_okq (⟨"NamelessBox$Aunt", "planWrongly", "(II)V"⟩, 8) := ⟨⟨by decide +kernel, by decide +kernel⟩, List.mem_of_getElem? (i := 257) (by decide +kernel), List.mem_of_getElem? (i := 951) (by decide +kernel), List.mem_of_getElem? (i := 952) (by decide +kernel)⟩
theorem lw_p34 : lw_okq (⟨"NamelessBox$Aunt", "addBehind", "(II)V"⟩, 8) := ⟨⟨by decide +kernel, by decide +kernel⟩, List.mem_of_getElem? (i := 257) (by decide +kernel), List.mem_of_getElem? (i := 962) (by decide +kernel), List.mem_of_getElem? (i := 963) (by decide +kernel)⟩
theorem lw_p35 : lw_okq (⟨"NamelessBox", "imageOf", "(I)LNamelessBox$Box;"⟩, 12) := ⟨⟨by decide +kernel, by decide +kernel⟩, List.mem_of_getElem? (i := 20) (by decide +kernel), List.mem_of_getElem? (i := 999) (by decide +kernel), List.mem_of_getElem? (i := 1000) (by decide +kernel)⟩
theorem lw_p36 : lw_okq (⟨"NamelessBox", "howMany", "(I)I"⟩, 12) := ⟨⟨by decide +kernel, by decide +kernel⟩, List.mem_of_getElem? (i := 20) (by decide +kernel), List.mem_of_getElem? (i := 1015) (by decide +kernel), List.mem_of_getElem? (i := 1016) (by decide +kernel)⟩
theorem lw_p37 : lw_okq (⟨"NamelessBoxModel", "sets", "(IJ)V"⟩, 24) := ⟨⟨by decide +kernel, by decide +kernel⟩, List.mem_of_getElem? (i := 1040) (by decide +kernel), List.mem_of_getElem? (i := 1046) (by decide +kernel), List.mem_of_getElem? (i := 1047) (by decide +kernel)⟩
theorem lw_p38 : lw_okq (⟨"NamelessBoxModel", "trims", "(I)V"⟩, 24) := ⟨⟨by decide +kernel, by decide +kernel⟩, List.mem_of_getElem? (i := 1040) (by decide +kernel), List.mem_of_getElem? (i := 1051) (by decide +kernel), List.mem_of_getElem? (i := 1052) (by decide +kernel)⟩
theorem lw_p39 : lw_okq (⟨"NamelessBoxModel", "bad", "()I"⟩, 24) := ⟨⟨by decide +kernel, by decide +kernel⟩, List.mem_of_getElem? (i := 1040) (by decide +kernel), List.mem_of_getElem? (i := 1138) (by decide +kernel), List.mem_of_getElem? (i := 1139) (by decide +kernel)⟩
theorem lw_p40 : lw_okq (⟨"NamelessBoxModel", "refuses", "(II)I"⟩, 24) := ⟨⟨by decide +kernel, by decide +kernel⟩, List.mem_of_getElem? (i := 1040) (by decide +kernel), List.mem_of_getElem? (i := 1142) (by decide +kernel), List.mem_of_getElem? (i := 1143) (by decide +kernel)⟩
theorem lw_p41 : lw_okq (⟨"NamelessBoxModel", "full", "()I"⟩, 24) := ⟨⟨by decide +kernel, by decide +kernel⟩, List.mem_of_getElem? (i := 1040) (by decide +kernel), List.mem_of_getElem? (i := 1146) (by decide +kernel), List.mem_of_getElem? (i := 1147) (by decide +kernel)⟩
theorem lw_p42 : lw_okq (⟨"NamelessBoxModel", "isPerson", "(I)Z"⟩, 24) := ⟨⟨by decide +kernel, by decide +kernel⟩, List.mem_of_getElem? (i := 1040) (by decide +kernel), List.mem_of_getElem? (i := 1154) (by decide +kernel), List.mem_of_getElem? (i := 1155) (by decide +kernel)⟩
theorem lw_p43 : lw_okq (⟨"NamelessBoxModel", "ofPerson", "(II)I"⟩, 24) := ⟨⟨by decide +kernel, by decide +kernel⟩, List.mem_of_getElem? (i := 1040) (by decide +kernel), List.mem_of_getElem? (i := 1158) (by decide +kernel), List.mem_of_getElem? (i := 1159) (by decide +kernel)⟩
theorem lw_p44 : lw_okq (⟨"NamelessBoxModel", "isPicture", "(I)Z"⟩, 24) := ⟨⟨by decide +kernel, by decide +kernel⟩, List.mem_of_getElem? (i := 1040) (by decide +kernel), List.mem_of_getElem? (i := 1175) (by decide +kernel), List.mem_of_getElem? (i := 1176) (by decide +kernel)⟩
theorem lw_p45 : lw_okq (⟨"NamelessBoxModel", "isHead", "(I)Z"⟩, 24) := ⟨⟨by decide +kernel, by decide +kernel⟩, List.mem_of_getElem? (i := 1040) (by decide +kernel), List.mem_of_getElem? (i := 1184) (by decide +kernel), List.mem_of_getElem? (i := 1185) (by decide +kernel)⟩
theorem lw_p46 : lw_okq (⟨"NamelessBoxModel", "ofHead", "(II)I"⟩, 24) := ⟨⟨by decide +kernel, by decide +kernel⟩, List.mem_of_getElem? (i := 1040) (by decide +kernel), List.mem_of_getElem? (i := 1192) (by decide +kernel), List.mem_of_getElem? (i := 1193) (by decide +kernel)⟩
theorem lw_p47 : lw_okq (⟨"NamelessBoxModel", "markOf", "(II)I"⟩, 24) := ⟨⟨by decide +kernel, by decide +kernel⟩, List.mem_of_getElem? (i := 1040) (by decide +kernel), List.mem_of_getElem? (i := 1207) (by decide +kernel), List.mem_of_getElem? (i := 1208) (by decide +kernel)⟩
def lw_privs_3 : List (MethodName × Nat) := [(⟨"NamelessBox", "areTwoPeople", "(II)Z"⟩, 12), (⟨"NamelessBox$Aunt", "planWrongly", "(II)V"⟩, 8), (⟨"NamelessBox$Aunt", "addBehind", "(II)V"⟩, 8), (⟨"NamelessBox", "imageOf", "(I)LNamelessBox$Box;"⟩, 12), (⟨"NamelessBox", "howMany", "(I)I"⟩, 12), (⟨"NamelessBoxModel", "sets", "(IJ)V"⟩, 24), (⟨"NamelessBoxModel", "trims", "(I)V"⟩, 24), (⟨"NamelessBoxModel", "bad", "()I"⟩, 24), (⟨"NamelessBoxModel", "refuses", "(II)I"⟩, 24), (⟨"NamelessBoxModel", "full", "()I"⟩, 24), (⟨"NamelessBoxModel", "isPerson", "(I)Z"⟩, 24), (⟨"NamelessBoxModel", "ofPerson", "(II)I"⟩, 24), (⟨"NamelessBoxModel", "isPicture", "(I)Z"⟩, 24), (⟨"NamelessBoxModel", "isHead", "(I)Z"⟩, 24), (⟨"NamelessBoxModel", "ofHead", "(II)I"⟩, 24), (⟨"NamelessBoxModel", "markOf", "(II)I"⟩, 24)]
theorem lw_r3 : ∀ q ∈ lw_privs_3, lw_okq q := List.forall_mem_cons.mpr ⟨lw_p32, List.forall_mem_cons.mpr ⟨lw_p33, List.forall_mem_cons.mpr ⟨lw_p34, List.forall_mem_cons.mpr ⟨lw_p35, List.forall_mem_cons.mpr ⟨lw_p36, List.forall_mem_cons.mpr ⟨lw_p37, List.forall_mem_cons.mpr ⟨lw_p38, List.forall_mem_cons.mpr ⟨lw_p39, List.forall_mem_cons.mpr ⟨lw_p40, List.forall_mem_cons.mpr ⟨lw_p41, List.forall_mem_cons.mpr ⟨lw_p42, List.forall_mem_cons.mpr ⟨lw_p43, List.forall_mem_cons.mpr ⟨lw_p44, List.forall_mem_cons.mpr ⟨lw_p45, List.forall_mem_cons.mpr ⟨lw_p46, List.forall_mem_cons.mpr ⟨lw_p47, fun _ h => absurd h List.not_mem_nil⟩⟩⟩⟩⟩⟩⟩⟩⟩⟩⟩⟩⟩⟩⟩⟩
theorem lw_p48 : lw_okq (⟨"NamelessBoxModel", "likeOf", "(III)I"⟩, 24) := ⟨⟨by decide +kernel, by decide +kernel⟩, List.mem_of_getElem? (i := 1040) (by decide +kernel), List.mem_of_getElem? (i := 1215) (by decide +kernel), List.mem_of_getElem? (i := 1216) (by decide +kernel)⟩
theorem lw_p49 : lw_okq (⟨"NamelessBoxModel", "truthOf", "(I)I"⟩, 24) := ⟨⟨by decide +kernel, by decide +kernel⟩, List.mem_of_getElem? (i := 1040) (by decide +kernel), List.mem_of_getElem? (i := 1223) (by decide +kernel), List.mem_of_getElem? (i := 1224) (by decide +kernel)⟩
theorem lw_p50 : lw_okq (⟨"NamelessBoxModel", "reads", "()Z"⟩, 24) := ⟨⟨by decide +kernel, by decide +kernel⟩, List.mem_of_getElem? (i := 1040) (by decide +kernel), List.mem_of_getElem? (i := 1241) (by decide +kernel), List.mem_of_getElem? (i := 1242) (by decide +kernel)⟩
theorem lw_p51 : lw_okq (⟨"NamelessBoxModel", "scans", "()V"⟩, 24) := ⟨⟨by decide +kernel, by decide +kernel⟩, List.mem_of_getElem? (i := 1040) (by decide +kernel), List.mem_of_getElem? (i := 1245) (by decide +kernel), List.mem_of_getElem? (i := 1246) (by decide +kernel)⟩
theorem lw_p52 : lw_okq (⟨"NamelessBoxModel", "isAt", "(II)Z"⟩, 24) := ⟨⟨by decide +kernel, by decide +kernel⟩, List.mem_of_getElem? (i := 1040) (by decide +kernel), List.mem_of_getElem? (i := 1249) (by decide +kernel), List.mem_of_getElem? (i := 1250) (by decide +kernel)⟩
theorem lw_p53 : lw_okq (⟨"NamelessBoxModel", "tellsItem", "(I)Z"⟩, 24) := ⟨⟨by decide +kernel, by decide +kernel⟩, List.mem_of_getElem? (i := 1040) (by decide +kernel), List.mem_of_getElem? (i := 1269) (by decide +kernel), List.mem_of_getElem? (i := 1270) (by decide +kernel)⟩
theorem lw_p54 : lw_okq (⟨"NamelessBoxModel", "begins", "()V"⟩, 24) := ⟨⟨by decide +kernel, by decide +kernel⟩, List.mem_of_getElem? (i := 1040) (by decide +kernel), List.mem_of_getElem? (i := 1285) (by decide +kernel), List.mem_of_getElem? (i := 1286) (by decide +kernel)⟩
theorem lw_p55 : lw_okq (⟨"NamelessBoxModel", "shares", "(I)V"⟩, 24) := ⟨⟨by decide +kernel, by decide +kernel⟩, List.mem_of_getElem? (i := 1040) (by decide +kernel), List.mem_of_getElem? (i := 1289) (by decide +kernel), List.mem_of_getElem? (i := 1290) (by decide +kernel)⟩
theorem lw_p56 : lw_okq (⟨"NamelessBoxModel", "ways", "()I"⟩, 24) := ⟨⟨by decide +kernel, by decide +kernel⟩, List.mem_of_getElem? (i := 1040) (by decide +kernel), List.mem_of_getElem? (i := 1293) (by decide +kernel), List.mem_of_getElem? (i := 1294) (by decide +kernel)⟩
theorem lw_p57 : lw_okq (⟨"NamelessBoxModel", "weighs", "(I)Z"⟩, 24) := ⟨⟨by decide +kernel, by decide +kernel⟩, List.mem_of_getElem? (i := 1040) (by decide +kernel), List.mem_of_getElem? (i := 1297) (by decide +kernel), List.mem_of_getElem? (i := 1298) (by decide +kernel)⟩
theorem lw_p58 : lw_okq (⟨"NamelessBoxModel", "picks", "(I)V"⟩, 24) := ⟨⟨by decide +kernel, by decide +kernel⟩, List.mem_of_getElem? (i := 1040) (by decide +kernel), List.mem_of_getElem? (i := 1301) (by decide +kernel), List.mem_of_getElem? (i := 1302) (by decide +kernel)⟩
theorem lw_p59 : lw_okq (⟨"NamelessBoxModel", "isTwice", "()Z"⟩, 24) := ⟨⟨by decide +kernel, by decide +kernel⟩, List.mem_of_getElem? (i := 1040) (by decide +kernel), List.mem_of_getElem? (i := 1305) (by decide +kernel), List.mem_of_getElem? (i := 1306) (by decide +kernel)⟩
theorem lw_p60 : lw_okq (⟨"NamelessBoxModel", "years", "(I)I"⟩, 24) := ⟨⟨by decide +kernel, by decide +kernel⟩, List.mem_of_getElem? (i := 1040) (by decide +kernel), List.mem_of_getElem? (i := 1309) (by decide +kernel), List.mem_of_getElem? (i := 1310) (by decide +kernel)⟩
theorem lw_p61 : lw_okq (⟨"NamelessBoxModel", "termOf", "(II)J"⟩, 24) := ⟨⟨by decide +kernel, by decide +kernel⟩, List.mem_of_getElem? (i := 1040) (by decide +kernel), List.mem_of_getElem? (i := 1313) (by decide +kernel), List.mem_of_getElem? (i := 1314) (by decide +kernel)⟩
theorem lw_p62 : lw_okq (⟨"NamelessBoxModel", "timesLong", "(IJ)V"⟩, 24) := ⟨⟨by decide +kernel, by decide +kernel⟩, List.mem_of_getElem? (i := 1040) (by decide +kernel), List.mem_of_getElem? (i := 1317) (by decide +kernel), List.mem_of_getElem? (i := 1318) (by decide +kernel)⟩
theorem lw_p63 : lw_okq (⟨"NamelessBoxModel", "multiplies", "(II)V"⟩, 24) := ⟨⟨by decide +kernel, by decide +kernel⟩, List.mem_of_getElem? (i := 1040) (by decide +kernel), List.mem_of_getElem? (i := 1321) (by decide +kernel), List.mem_of_getElem? (i := 1322) (by decide +kernel)⟩
def lw_privs_4 : List (MethodName × Nat) := [(⟨"NamelessBoxModel", "likeOf", "(III)I"⟩, 24), (⟨"NamelessBoxModel", "truthOf", "(I)I"⟩, 24), (⟨"NamelessBoxModel", "reads", "()Z"⟩, 24), (⟨"NamelessBoxModel", "scans", "()V"⟩, 24), (⟨"NamelessBoxModel", "isAt", "(II)Z"⟩, 24), (⟨"NamelessBoxModel", "tellsItem", "(I)Z"⟩, 24), (⟨"NamelessBoxModel", "begins", "()V"⟩, 24), (⟨"NamelessBoxModel", "shares", "(I)V"⟩, 24), (⟨"NamelessBoxModel", "ways", "()I"⟩, 24), (⟨"NamelessBoxModel", "weighs", "(I)Z"⟩, 24), (⟨"NamelessBoxModel", "picks", "(I)V"⟩, 24), (⟨"NamelessBoxModel", "isTwice", "()Z"⟩, 24), (⟨"NamelessBoxModel", "years", "(I)I"⟩, 24), (⟨"NamelessBoxModel", "termOf", "(II)J"⟩, 24), (⟨"NamelessBoxModel", "timesLong", "(IJ)V"⟩, 24), (⟨"NamelessBoxModel", "multiplies", "(II)V"⟩, 24)]
theorem lw_r4 : ∀ q ∈ lw_privs_4, lw_okq q := List.forall_mem_cons.mpr ⟨lw_p48, List.forall_mem_cons.mpr ⟨lw_p49, List.forall_mem_cons.mpr ⟨lw_p50, List.forall_mem_cons.mpr ⟨lw_p51, List.forall_mem_cons.mpr ⟨lw_p52, List.forall_mem_cons.mpr ⟨lw_p53, List.forall_mem_cons.mpr ⟨lw_p54, List.forall_mem_cons.mpr ⟨lw_p55, List.forall_mem_cons.mpr ⟨lw_p56, List.forall_mem_cons.mpr ⟨lw_p57, List.forall_mem_cons.mpr ⟨lw_p58, List.forall_mem_cons.mpr ⟨lw_p59, List.forall_mem_cons.mpr ⟨lw_p60, List.forall_mem_cons.mpr ⟨lw_p61, List.forall_mem_cons.mpr ⟨lw_p62, List.forall_mem_cons.mpr ⟨lw_p63, fun _ h => absurd h List.not_mem_nil⟩⟩⟩⟩⟩⟩⟩⟩⟩⟩⟩⟩⟩⟩⟩⟩
theorem lw_p64 : lw_okq (⟨"NamelessBoxModel", "takes", "(II)V"⟩, 24) := ⟨⟨by decide +kernel, by decide +kernel⟩, List.mem_of_getElem? (i := 1040) (by decide +kernel), List.mem_of_getElem? (i := 1325) (by decide +kernel), List.mem_of_getElem? (i := 1326) (by decide +kernel)⟩
theorem lw_p65 : lw_okq (⟨"NamelessBoxModel", "times", "(II)V"⟩, 24) := ⟨⟨by decide +kernel, by decide +kernel⟩, List.mem_of_getElem? (i := 1040) (by decide +kernel), List.mem_of_getElem? (i := 1329) (by decide +kernel), List.mem_of_getElem? (i := 1330) (by decide +kernel)⟩
theorem lw_p66 : lw_okq (⟨"NamelessBoxModel", "adds", "(II)V"⟩, 24) := ⟨⟨by decide +kernel, by decide +kernel⟩, List.mem_of_getElem? (i := 1040) (by decide +kernel), List.mem_of_getElem? (i := 1333) (by decide +kernel), List.mem_of_getElem? (i := 1334) (by decide +kernel)⟩
theorem lw_p67 : lw_okq (⟨"NamelessBoxModel", "no", "()I"⟩, 24) := ⟨⟨by decide +kernel, by decide +kernel⟩, List.mem_of_getElem? (i := 1040) (by decide +kernel), List.mem_of_getElem? (i := 1338) (by decide +kernel), List.mem_of_getElem? (i := 1339) (by decide +kernel)⟩
theorem lw_p68 : lw_okq (⟨"NamelessBoxModel", "tellsHit", "()I"⟩, 24) := ⟨⟨by decide +kernel, by decide +kernel⟩, List.mem_of_getElem? (i := 1040) (by decide +kernel), List.mem_of_getElem? (i := 1342) (by decide +kernel), List.mem_of_getElem? (i := 1343) (by decide +kernel)⟩
theorem lw_p69 : lw_okq (⟨"NamelessBoxModel", "lowers", "()V"⟩, 24) := ⟨⟨by decide +kernel, by decide +kernel⟩, List.mem_of_getElem? (i := 1040) (by decide +kernel), List.mem_of_getElem? (i := 1346) (by decide +kernel), List.mem_of_getElem? (i := 1347) (by decide +kernel)⟩
theorem lw_p70 : lw_okq (⟨"NamelessBoxModel", "isEven", "(I)Z"⟩, 24) := ⟨⟨by decide +kernel, by decide +kernel⟩, List.mem_of_getElem? (i := 1040) (by decide +kernel), List.mem_of_getElem? (i := 1350) (by decide +kernel), List.mem_of_getElem? (i := 1351) (by decide +kernel)⟩
theorem lw_p71 : lw_okq (⟨"NamelessBoxModel", "halves", "(I)V"⟩, 24) := ⟨⟨by decide +kernel, by decide +kernel⟩, List.mem_of_getElem? (i := 1040) (by decide +kernel), List.mem_of_getElem? (i := 1354) (by decide +kernel), List.mem_of_getElem? (i := 1355) (by decide +kernel)⟩
theorem lw_p72 : lw_okq (⟨"NamelessBoxModel", "against", "(II)I"⟩, 24) := ⟨⟨by decide +kernel, by decide +kernel⟩, List.mem_of_getElem? (i := 1040) (by decide +kernel), List.mem_of_getElem? (i := 1358) (by decide +kernel), List.mem_of_getElem? (i := 1359) (by decide +kernel)⟩
theorem lw_p73 : lw_okq (⟨"NamelessBoxModel", "lessens", "(II)V"⟩, 24) := ⟨⟨by decide +kernel, by decide +kernel⟩, List.mem_of_getElem? (i := 1040) (by decide +kernel), List.mem_of_getElem? (i := 1362) (by decide +kernel), List.mem_of_getElem? (i := 1363) (by decide +kernel)⟩
theorem lw_p74 : lw_okq (⟨"NamelessBoxModel", "dividesOdd", "(I)V"⟩, 24) := ⟨⟨by decide +kernel, by decide +kernel⟩, List.mem_of_getElem? (i := 1040) (by decide +kernel), List.mem_of_getElem? (i := 1366) (by decide +kernel), List.mem_of_getElem? (i := 1367) (by decide +kernel)⟩
theorem lw_p75 : lw_okq (⟨"NamelessBoxModel", "namedNow", "(I)I"⟩, 24) := ⟨⟨by decide +kernel, by decide +kernel⟩, List.mem_of_getElem? (i := 1040) (by decide +kernel), List.mem_of_getElem? (i := 1374) (by decide +kernel), List.mem_of_getElem? (i := 1375) (by decide +kernel)⟩
theorem lw_p76 : lw_okq (⟨"NamelessBoxModel", "sums", "(III)V"⟩, 24) := ⟨⟨by decide +kernel, by decide +kernel⟩, List.mem_of_getElem? (i := 1040) (by decide +kernel), List.mem_of_getElem? (i := 1386) (by decide +kernel), List.mem_of_getElem? (i := 1387) (by decide +kernel)⟩
theorem lw_p77 : lw_okq (⟨"NamelessBoxModel", "counts", "(III)I"⟩, 24) := ⟨⟨by decide +kernel, by decide +kernel⟩, List.mem_of_getElem? (i := 1040) (by decide +kernel), List.mem_of_getElem? (i := 1390) (by decide +kernel), List.mem_of_getElem? (i := 1391) (by decide +kernel)⟩
theorem lw_p78 : lw_okq (⟨"NamelessBoxModel", "isOn", "(II)Z"⟩, 24) := ⟨⟨by decide +kernel, by decide +kernel⟩, List.mem_of_getElem? (i := 1040) (by decide +kernel), List.mem_of_getElem? (i := 1394) (by decide +kernel), List.mem_of_getElem? (i := 1395) (by decide +kernel)⟩
theorem lw_p79 : lw_okq (⟨"NamelessBoxModel", "isSure", "(II)Z"⟩, 24) := ⟨⟨by decide +kernel, by decide +kernel⟩, List.mem_of_getElem? (i := 1040) (by decide +kernel), List.mem_of_getElem? (i := 1402) (by decide +kernel), List.mem_of_getElem? (i := 1403) (by decide +kernel)⟩
def lw_privs_5 : List (MethodName × Nat) := [(⟨"NamelessBoxModel", "takes", "(II)V"⟩, 24), (⟨"NamelessBoxModel", "times", "(II)V"⟩, 24), (⟨"NamelessBoxModel", "adds", "(II)V"⟩, 24), (⟨"NamelessBoxModel", "no", "()I"⟩, 24), (⟨"NamelessBoxModel", "tellsHit", "()I"⟩, 24), (⟨"NamelessBoxModel", "lowers", "()V"⟩, 24), (⟨"NamelessBoxModel", "isEven", "(I)Z"⟩, 24), (⟨"NamelessBoxModel", "halves", "(I)V"⟩, 24), (⟨"NamelessBoxModel", "against", "(II)I"⟩, 24), (⟨"NamelessBoxModel", "lessens", "(II)V"⟩, 24), (⟨"NamelessBoxModel", "dividesOdd", "(I)V"⟩, 24), (⟨"NamelessBoxModel", "namedNow", "(I)I"⟩, 24), (⟨"NamelessBoxModel", "sums", "(III)V"⟩, 24), (⟨"NamelessBoxModel", "counts", "(III)I"⟩, 24), (⟨"NamelessBoxModel", "isOn", "(II)Z"⟩, 24), (⟨"NamelessBoxModel", "isSure", "(II)Z"⟩, 24)]
theorem lw_r5 : ∀ q ∈ lw_privs_5, lw_okq q := List.forall_mem_cons.mpr ⟨lw_p64, List.forall_mem_cons.mpr ⟨lw_p65, List.forall_mem_cons.mpr ⟨lw_p66, List.forall_mem_cons.mpr ⟨lw_p67, List.forall_mem_cons.mpr ⟨lw_p68, List.forall_mem_cons.mpr ⟨lw_p69, List.forall_mem_cons.mpr ⟨lw_p70, List.forall_mem_cons.mpr ⟨lw_p71, List.forall_mem_cons.mpr ⟨lw_p72, List.forall_mem_cons.mpr ⟨lw_p73, List.forall_mem_cons.mpr ⟨lw_p74, List.forall_mem_cons.mpr ⟨lw_p75, List.forall_mem_cons.mpr ⟨lw_p76, List.forall_mem_cons.mpr ⟨lw_p77, List.forall_mem_cons.mpr ⟨lw_p78, List.forall_mem_cons.mpr ⟨lw_p79, fun _ h => absurd h List.not_mem_nil⟩⟩⟩⟩⟩⟩⟩⟩⟩⟩⟩⟩⟩⟩⟩⟩
theorem lw_p80 : lw_okq (⟨"NamelessBoxModel", "asks", "(III)I"⟩, 24) := ⟨⟨by decide +kernel, by decide +kernel⟩, List.mem_of_getElem? (i := 1040) (by decide +kernel), List.mem_of_getElem? (i := 1414) (by decide +kernel), List.mem_of_getElem? (i := 1415) (by decide +kernel)⟩
theorem lw_p81 : lw_okq (⟨"NamelessBoxModel", "years2", "(IIII)Z"⟩, 24) := ⟨⟨by decide +kernel, by decide +kernel⟩, List.mem_of_getElem? (i := 1040) (by decide +kernel), List.mem_of_getElem? (i := 1434) (by decide +kernel), List.mem_of_getElem? (i := 1435) (by decide +kernel)⟩
theorem lw_p82 : lw_okq (⟨"NamelessBoxModel", "rights", "(I)V"⟩, 24) := ⟨⟨by decide +kernel, by decide +kernel⟩, List.mem_of_getElem? (i := 1040) (by decide +kernel), List.mem_of_getElem? (i := 1458) (by decide +kernel), List.mem_of_getElem? (i := 1459) (by decide +kernel)⟩
theorem lw_p83 : lw_okq (⟨"NamelessBoxModel", "worths", "(I)Z"⟩, 24) := ⟨⟨by decide +kernel, by decide +kernel⟩, List.mem_of_getElem? (i := 1040) (by decide +kernel), List.mem_of_getElem? (i := 1466) (by decide +kernel), List.mem_of_getElem? (i := 1467) (by decide +kernel)⟩
theorem lw_p84 : lw_okq (⟨"NamelessBoxModel", "addsGreatest", "(II)V"⟩, 24) := ⟨⟨by decide +kernel, by decide +kernel⟩, List.mem_of_getElem? (i := 1040) (by decide +kernel), List.mem_of_getElem? (i := 1470) (by decide +kernel), List.mem_of_getElem? (i := 1471) (by decide +kernel)⟩
theorem lw_p85 : lw_okq (⟨"NamelessBoxModel", "truthAbout", "(I)I"⟩, 24) := ⟨⟨by decide +kernel, by decide +kernel⟩, List.mem_of_getElem? (i := 1040) (by decide +kernel), List.mem_of_getElem? (i := 1474) (by decide +kernel), List.mem_of_getElem? (i := 1475) (by decide +kernel)⟩
theorem lw_p86 : lw_okq (⟨"NamelessBoxModel", "tellsWorth", "(I)I"⟩, 24) := ⟨⟨by decide +kernel, by decide +kernel⟩, List.mem_of_getElem? (i := 1040) (by decide +kernel), List.mem_of_getElem? (i := 1478) (by decide +kernel), List.mem_of_getElem? (i := 1479) (by decide +kernel)⟩
theorem lw_p87 : lw_okq (⟨"NamelessBoxModel", "signNow", "()I"⟩, 24) := ⟨⟨by decide +kernel, by decide +kernel⟩, List.mem_of_getElem? (i := 1040) (by decide +kernel), List.mem_of_getElem? (i := 1490) (by decide +kernel), List.mem_of_getElem? (i := 1491) (by decide +kernel)⟩
theorem lw_p88 : lw_okq (⟨"NamelessBoxModel", "countOf", "(I)I"⟩, 24) := ⟨⟨by decide +kernel, by decide +kernel⟩, List.mem_of_getElem? (i := 1040) (by decide +kernel), List.mem_of_getElem? (i := 1515) (by decide +kernel), List.mem_of_getElem? (i := 1516) (by decide +kernel)⟩
theorem lw_p89 : lw_okq (⟨"NamelessBoxModel", "mixed", "(JII)J"⟩, 24) := ⟨⟨by decide +kernel, by decide +kernel⟩, List.mem_of_getElem? (i := 1040) (by decide +kernel), List.mem_of_getElem? (i := 1525) (by decide +kernel), List.mem_of_getElem? (i := 1526) (by decide +kernel)⟩
def lw_privs_6 : List (MethodName × Nat) := [(⟨"NamelessBoxModel", "asks", "(III)I"⟩, 24), (⟨"NamelessBoxModel", "years2", "(IIII)Z"⟩, 24), (⟨"NamelessBoxModel", "rights", "(I)V"⟩, 24), (⟨"NamelessBoxModel", "worths", "(I)Z"⟩, 24), (⟨"NamelessBoxModel", "addsGreatest", "(II)V"⟩, 24), (⟨"NamelessBoxModel", "truthAbout", "(I)I"⟩, 24), (⟨"NamelessBoxModel", "tellsWorth", "(I)I"⟩, 24), (⟨"NamelessBoxModel", "signNow", "()I"⟩, 24), (⟨"NamelessBoxModel", "countOf", "(I)I"⟩, 24), (⟨"NamelessBoxModel", "mixed", "(JII)J"⟩, 24)]
theorem lw_r6 : ∀ q ∈ lw_privs_6, lw_okq q := List.forall_mem_cons.mpr ⟨lw_p80, List.forall_mem_cons.mpr ⟨lw_p81, List.forall_mem_cons.mpr ⟨lw_p82, List.forall_mem_cons.mpr ⟨lw_p83, List.forall_mem_cons.mpr ⟨lw_p84, List.forall_mem_cons.mpr ⟨lw_p85, List.forall_mem_cons.mpr ⟨lw_p86, List.forall_mem_cons.mpr ⟨lw_p87, List.forall_mem_cons.mpr ⟨lw_p88, List.forall_mem_cons.mpr ⟨lw_p89, fun _ h => absurd h List.not_mem_nil⟩⟩⟩⟩⟩⟩⟩⟩⟩⟩
def lw_privs : List (MethodName × Nat) := lw_privs_1 ++ (lw_privs_2 ++ (lw_privs_3 ++ (lw_privs_4 ++ (lw_privs_5 ++ (lw_privs_6)))))
def lw_tbl : List Cond := k2_sels lw_privs ++ tables_1
theorem lw_privs_ok : ∀ q ∈ lw_privs, lw_okq q := by
  show ∀ q ∈ lw_privs_1 ++ (lw_privs_2 ++ (lw_privs_3 ++ (lw_privs_4 ++ (lw_privs_5 ++ (lw_privs_6))))), lw_okq q
  exact List.forall_mem_append.mpr ⟨lw_r1, List.forall_mem_append.mpr ⟨lw_r2, List.forall_mem_append.mpr ⟨lw_r3, List.forall_mem_append.mpr ⟨lw_r4, List.forall_mem_append.mpr ⟨lw_r5, lw_r6⟩⟩⟩⟩⟩
end
section
def RX0 : String := "NamelessBox$Aunt"
def TX0 : u_T := fun k => match k with
  | 0 => ("NamelessBox$Aunt", "worth", "[J", true)
  | 1 => ("NamelessBox$Aunt", "dearest", "[J", true)
  | 2 => ("NamelessBox$Aunt", "unit", "[J", true)
  | 3 => ("NamelessBox$Aunt", "box", "LNamelessBox$Box;", true)
  | 4 => ("NamelessBox$Aunt", "sums", "LNamelessBox$Sums;", true)
  | 5 => ("NamelessBox$Aunt", "wrongly", "[J", true)
  | 6 => ("NamelessBox$Aunt", "guess", "[J", true)
  | _ => ("NamelessBox$Aunt", "most", "[J", true)
def tyX0 : Nat → FieldType := fun k => match k with
  | 0 => .array .long
  | 1 => .array .long
  | 2 => .array .long
  | 3 => .object "NamelessBox$Box"
  | 4 => .object "NamelessBox$Sums"
  | 5 => .array .long
  | 6 => .array .long
  | _ => .array .long
abbrev wsX00 : List Cond := u_ws RX0 TX0 8
theorem nmX0 : ∀ a, a < 8 → ∀ b, b < 8 → a ≠ b → (TX0 a).2.1 ≠ (TX0 b).2.1 := by decide +kernel
theorem tyX0_ok : ∀ k, k < 8 → parseFieldDescriptor (TX0 k).2.2.1 = some (tyX0 k) := by decide +kernel
abbrev cX0_init : ByteArray := prog_2_method_1_code
def yX0_init : MethodName := ⟨RX0, "<init>", "(LNamelessBox$Box;LNamelessBox$Sums;)V"⟩
abbrev cX0_findDearest : ByteArray := prog_2_method_2_code
def yX0_findDearest : MethodName := ⟨RX0, "findDearest", "()I"⟩
abbrev cX0_weigh : ByteArray := prog_2_method_3_code
def yX0_weigh : MethodName := ⟨RX0, "weigh", "(I)V"⟩
abbrev cX0_planWrongly : ByteArray := prog_2_method_4_code
def yX0_planWrongly : MethodName := ⟨RX0, "planWrongly", "(II)V"⟩
abbrev cX0_addBehind : ByteArray := prog_2_method_5_code
def yX0_addBehind : MethodName := ⟨RX0, "addBehind", "(II)V"⟩
def RX1 : String := "NamelessBox$Box"
def TX1 : u_T := fun k => match k with
  | 0 => ("NamelessBox$Box", "people", "LNamelessBox$Rows;", true)
  | 1 => ("NamelessBox$Box", "pictures", "LNamelessBox$Rows;", true)
  | 2 => ("NamelessBox$Box", "heads", "LNamelessBox$Rows;", true)
  | 3 => ("NamelessBox$Box", "names", "LNamelessBox$Rows;", true)
  | 4 => ("NamelessBox$Box", "joins", "LNamelessBox$Rows;", true)
  | _ => ("NamelessBox$Box", "strangeness", "I", false)
def tyX1 : Nat → FieldType := fun k => match k with
  | 0 => .object "NamelessBox$Rows"
  | 1 => .object "NamelessBox$Rows"
  | 2 => .object "NamelessBox$Rows"
  | 3 => .object "NamelessBox$Rows"
  | 4 => .object "NamelessBox$Rows"
  | _ => .int
abbrev wsX10 : List Cond := u_ws RX1 TX1 6
theorem nmX1 : ∀ a, a < 6 → ∀ b, b < 6 → a ≠ b → (TX1 a).2.1 ≠ (TX1 b).2.1 := by decide +kernel
theorem tyX1_ok : ∀ k, k < 6 → parseFieldDescriptor (TX1 k).2.2.1 = some (tyX1 k) := by decide +kernel
abbrev cX1_init : ByteArray := prog_3_method_1_code
def yX1_init : MethodName := ⟨RX1, "<init>", "()V"⟩
abbrev cX1_empty : ByteArray := prog_3_method_2_code
def yX1_empty : MethodName := ⟨RX1, "empty", "()V"⟩
abbrev cX1_take : ByteArray := prog_3_method_3_code
def yX1_take : MethodName := ⟨RX1, "take", "(LNamelessBox$Box;)V"⟩
abbrev cX1_addPerson : ByteArray := prog_3_method_4_code
def yX1_addPerson : MethodName := ⟨RX1, "addPerson", "(IIII)I"⟩
abbrev cX1_setParent : ByteArray := prog_3_method_5_code
def yX1_setParent : MethodName := ⟨RX1, "setParent", "(II)I"⟩
abbrev cX1_mayBeParent : ByteArray := prog_3_method_6_code
def yX1_mayBeParent : MethodName := ⟨RX1, "mayBeParent", "(II)Z"⟩
abbrev cX1_setNear : ByteArray := prog_3_method_7_code
def yX1_setNear : MethodName := ⟨RX1, "setNear", "(II)I"⟩
abbrev cX1_addPicture : ByteArray := prog_3_method_8_code
def yX1_addPicture : MethodName := ⟨RX1, "addPicture", "(II)I"⟩
abbrev cX1_addHead : ByteArray := prog_3_method_9_code
def yX1_addHead : MethodName := ⟨RX1, "addHead", "(IIIII)I"⟩
abbrev cX1_addName : ByteArray := prog_3_method_10_code
def yX1_addName : MethodName := ⟨RX1, "addName", "(IIII)I"⟩
abbrev cX1_addJoin : ByteArray := prog_3_method_11_code
def yX1_addJoin : MethodName := ⟨RX1, "addJoin", "(III)I"⟩
abbrev cX1_setStrange : ByteArray := prog_3_method_12_code
def yX1_setStrange : MethodName := ⟨RX1, "setStrange", "(I)I"⟩
abbrev cX1_markOf : ByteArray := prog_3_method_13_code
def yX1_markOf : MethodName := ⟨RX1, "markOf", "(II)I"⟩
abbrev cX1_marksLike : ByteArray := prog_3_method_14_code
def yX1_marksLike : MethodName := ⟨RX1, "marksLike", "(II)I"⟩
abbrev cX1_ageLike : ByteArray := prog_3_method_15_code
def yX1_ageLike : MethodName := ⟨RX1, "ageLike", "(III)I"⟩
abbrev cX1_truthOf : ByteArray := prog_3_method_16_code
def yX1_truthOf : MethodName := ⟨RX1, "truthOf", "(I)I"⟩
abbrev cX1_isSo : ByteArray := prog_3_method_17_code
def yX1_isSo : MethodName := ⟨RX1, "isSo", "(II)Z"⟩
abbrev cX1_auntTruth : ByteArray := prog_3_method_18_code
def yX1_auntTruth : MethodName := ⟨RX1, "auntTruth", "(I)I"⟩
abbrev cX1_mixInto : ByteArray := prog_3_method_19_code
def yX1_mixInto : MethodName := ⟨RX1, "mixInto", "(J)J"⟩
def RX2 : String := "NamelessBox$Fraction"
def TX2 : u_T := fun k => match k with
  | 0 => ("NamelessBox$Fraction", "above", "[J", true)
  | 1 => ("NamelessBox$Fraction", "below", "[J", true)
  | 2 => ("NamelessBox$Fraction", "one", "[J", true)
  | _ => ("NamelessBox$Fraction", "other", "[J", true)
def tyX2 : Nat → FieldType := fun k => match k with
  | 0 => .array .long
  | 1 => .array .long
  | 2 => .array .long
  | _ => .array .long
abbrev wsX20 : List Cond := u_ws RX2 TX2 4
theorem nmX2 : ∀ a, a < 4 → ∀ b, b < 4 → a ≠ b → (TX2 a).2.1 ≠ (TX2 b).2.1 := by decide +kernel
theorem tyX2_ok : ∀ k, k < 4 → parseFieldDescriptor (TX2 k).2.2.1 = some (tyX2 k) := by decide +kernel
abbrev cX2_init : ByteArray := prog_4_method_1_code
def yX2_init : MethodName := ⟨RX2, "<init>", "()V"⟩
abbrev cX2_isZero : ByteArray := prog_4_method_2_code
def yX2_isZero : MethodName := ⟨RX2, "isZero", "()Z"⟩
abbrev cX2_setWhole : ByteArray := prog_4_method_3_code
def yX2_setWhole : MethodName := ⟨RX2, "setWhole", "([JI)V"⟩
abbrev cX2_set : ByteArray := prog_4_method_4_code
def yX2_set : MethodName := ⟨RX2, "set", "([JI[JI)V"⟩
abbrev cX2_halveBoth : ByteArray := prog_4_method_5_code
def yX2_halveBoth : MethodName := ⟨RX2, "halveBoth", "()V"⟩
abbrev cX2_findOddDivisor : ByteArray := prog_4_method_6_code
def yX2_findOddDivisor : MethodName := ⟨RX2, "findOddDivisor", "()V"⟩
def RX3 : String := "NamelessBox$Limbs"
def TX3 : u_T := fun k => match k with
  | _ => ("", "", "", false)
def tyX3 : Nat → FieldType := fun k => match k with
  | _ => .int
abbrev wsX30 : List Cond := u_ws RX3 TX3 0
theorem nmX3 : ∀ a, a < 0 → ∀ b, b < 0 → a ≠ b → (TX3 a).2.1 ≠ (TX3 b).2.1 := by decide +kernel
theorem tyX3_ok : ∀ k, k < 0 → parseFieldDescriptor (TX3 k).2.2.1 = some (tyX3 k) := by decide +kernel
abbrev cX3_zero : ByteArray := prog_5_method_2_code
def yX3_zero : MethodName := ⟨RX3, "zero", "([JI)V"⟩
abbrev cX3_set : ByteArray := prog_5_method_3_code
def yX3_set : MethodName := ⟨RX3, "set", "([JII)V"⟩
abbrev cX3_copy : ByteArray := prog_5_method_4_code
def yX3_copy : MethodName := ⟨RX3, "copy", "([JI[JI)V"⟩
abbrev cX3_isZero : ByteArray := prog_5_method_5_code
def yX3_isZero : MethodName := ⟨RX3, "isZero", "([JI)Z"⟩
abbrev cX3_add : ByteArray := prog_5_method_6_code
def yX3_add : MethodName := ⟨RX3, "add", "([JI[JI)V"⟩
abbrev cX3_carry : ByteArray := prog_5_method_7_code
def yX3_carry : MethodName := ⟨RX3, "carry", "([JI)V"⟩
abbrev cX3_subtract : ByteArray := prog_5_method_8_code
def yX3_subtract : MethodName := ⟨RX3, "subtract", "([JI[JI)V"⟩
abbrev cX3_multiply : ByteArray := prog_5_method_9_code
def yX3_multiply : MethodName := ⟨RX3, "multiply", "([JI[JIJ)V"⟩
abbrev cX3_compare : ByteArray := prog_5_method_10_code
def yX3_compare : MethodName := ⟨RX3, "compare", "([JI[JI)I"⟩
abbrev cX3_isEven : ByteArray := prog_5_method_11_code
def yX3_isEven : MethodName := ⟨RX3, "isEven", "([JI)Z"⟩
abbrev cX3_halve : ByteArray := prog_5_method_12_code
def yX3_halve : MethodName := ⟨RX3, "halve", "([JI)V"⟩
abbrev cX3_divide : ByteArray := prog_5_method_13_code
def yX3_divide : MethodName := ⟨RX3, "divide", "([JI[JI)V"⟩
abbrev cX3_inverseOf : ByteArray := prog_5_method_14_code
def yX3_inverseOf : MethodName := ⟨RX3, "inverseOf", "(J)J"⟩
abbrev cX3_length : ByteArray := prog_5_method_15_code
def yX3_length : MethodName := ⟨RX3, "length", "([JI)I"⟩
abbrev cX3_mixInto : ByteArray := prog_5_method_16_code
def yX3_mixInto : MethodName := ⟨RX3, "mixInto", "(J[JI)J"⟩
def RX4 : String := "NamelessBox$Rows"
def TX4 : u_T := fun k => match k with
  | 0 => ("NamelessBox$Rows", "width", "I", true)
  | 1 => ("NamelessBox$Rows", "limit", "I", true)
  | 2 => ("NamelessBox$Rows", "cells", "[I", true)
  | _ => ("NamelessBox$Rows", "size", "I", false)
def tyX4 : Nat → FieldType := fun k => match k with
  | 0 => .int
  | 1 => .int
  | 2 => .array .int
  | _ => .int
abbrev wsX40 : List Cond := u_ws RX4 TX4 4
theorem nmX4 : ∀ a, a < 4 → ∀ b, b < 4 → a ≠ b → (TX4 a).2.1 ≠ (TX4 b).2.1 := by decide +kernel
theorem tyX4_ok : ∀ k, k < 4 → parseFieldDescriptor (TX4 k).2.2.1 = some (tyX4 k) := by decide +kernel
abbrev cX4_init : ByteArray := prog_6_method_1_code
def yX4_init : MethodName := ⟨RX4, "<init>", "(II)V"⟩
abbrev cX4_has : ByteArray := prog_6_method_2_code
def yX4_has : MethodName := ⟨RX4, "has", "(I)Z"⟩
abbrev cX4_isFull : ByteArray := prog_6_method_3_code
def yX4_isFull : MethodName := ⟨RX4, "isFull", "()Z"⟩
abbrev cX4_at : ByteArray := prog_6_method_4_code
def yX4_at : MethodName := ⟨RX4, "at", "(II)I"⟩
abbrev cX4_put : ByteArray := prog_6_method_5_code
def yX4_put : MethodName := ⟨RX4, "put", "(III)V"⟩
abbrev cX4_grow : ByteArray := prog_6_method_6_code
def yX4_grow : MethodName := ⟨RX4, "grow", "()I"⟩
abbrev cX4_take : ByteArray := prog_6_method_7_code
def yX4_take : MethodName := ⟨RX4, "take", "(LNamelessBox$Rows;)V"⟩
abbrev cX4_mixInto : ByteArray := prog_6_method_8_code
def yX4_mixInto : MethodName := ⟨RX4, "mixInto", "(J)J"⟩
def RX5 : String := "NamelessBox$Sums"
def TX5 : u_T := fun k => match k with
  | 0 => ("NamelessBox$Sums", "total", "[J", true)
  | 1 => ("NamelessBox$Sums", "shares", "[J", true)
  | 2 => ("NamelessBox$Sums", "pairs", "[J", true)
  | 3 => ("NamelessBox$Sums", "crowds", "[J", true)
  | 4 => ("NamelessBox$Sums", "bestWay", "[I", true)
  | 5 => ("NamelessBox$Sums", "bestWeight", "[J", true)
  | 6 => ("NamelessBox$Sums", "answer", "[J", true)
  | 7 => ("NamelessBox$Sums", "mine", "[J", true)
  | 8 => ("NamelessBox$Sums", "theirs", "[J", true)
  | 9 => ("NamelessBox$Sums", "people", "I", false)
  | _ => ("NamelessBox$Sums", "heads", "I", false)
def tyX5 : Nat → FieldType := fun k => match k with
  | 0 => .array .long
  | 1 => .array .long
  | 2 => .array .long
  | 3 => .array .long
  | 4 => .array .int
  | 5 => .array .long
  | 6 => .array .long
  | 7 => .array .long
  | 8 => .array .long
  | 9 => .int
  | _ => .int
abbrev wsX50 : List Cond := u_ws RX5 TX5 11
theorem nmX5 : ∀ a, a < 11 → ∀ b, b < 11 → a ≠ b → (TX5 a).2.1 ≠ (TX5 b).2.1 := by decide +kernel
theorem tyX5_ok : ∀ k, k < 11 → parseFieldDescriptor (TX5 k).2.2.1 = some (tyX5 k) := by decide +kernel
abbrev cX5_init : ByteArray := prog_7_method_1_code
def yX5_init : MethodName := ⟨RX5, "<init>", "(Z)V"⟩
abbrev cX5_empty : ByteArray := prog_7_method_2_code
def yX5_empty : MethodName := ⟨RX5, "empty", "(III)V"⟩
abbrev cX5_addWay : ByteArray := prog_7_method_3_code
def yX5_addWay : MethodName := ⟨RX5, "addWay", "([II[JI)V"⟩
abbrev cX5_addPair : ByteArray := prog_7_method_4_code
def yX5_addPair : MethodName := ⟨RX5, "addPair", "(IIII[JI)V"⟩
abbrev cX5_pairAt : ByteArray := prog_7_method_5_code
def yX5_pairAt : MethodName := ⟨RX5, "pairAt", "(IIII)I"⟩
abbrev cX5_finish : ByteArray := prog_7_method_6_code
def yX5_finish : MethodName := ⟨RX5, "finish", "([JI)V"⟩
abbrev cX5_isNothing : ByteArray := prog_7_method_7_code
def yX5_isNothing : MethodName := ⟨RX5, "isNothing", "()Z"⟩
abbrev cX5_startAnswer : ByteArray := prog_7_method_8_code
def yX5_startAnswer : MethodName := ⟨RX5, "startAnswer", "()V"⟩
abbrev cX5_addJoint : ByteArray := prog_7_method_9_code
def yX5_addJoint : MethodName := ⟨RX5, "addJoint", "(IIII)V"⟩
abbrev cX5_putJoint : ByteArray := prog_7_method_10_code
def yX5_putJoint : MethodName := ⟨RX5, "putJoint", "([JIIIII)V"⟩
abbrev cX5_addCrowdsWithout : ByteArray := prog_7_method_11_code
def yX5_addCrowdsWithout : MethodName := ⟨RX5, "addCrowdsWithout", "(I)V"⟩
abbrev cX5_likeliest : ByteArray := prog_7_method_12_code
def yX5_likeliest : MethodName := ⟨RX5, "likeliest", "(I)I"⟩
abbrev cX5_addLikeliest : ByteArray := prog_7_method_13_code
def yX5_addLikeliest : MethodName := ⟨RX5, "addLikeliest", "()V"⟩
abbrev cX5_isSure : ByteArray := prog_7_method_14_code
def yX5_isSure : MethodName := ⟨RX5, "isSure", "(II)Z"⟩
abbrev cX5_closestHead : ByteArray := prog_7_method_15_code
def yX5_closestHead : MethodName := ⟨RX5, "closestHead", "(II)I"⟩
def RX6 : String := "NamelessBox$Text"
def TX6 : u_T := fun k => match k with
  | 0 => ("NamelessBox$Text", "bytes", "[C", true)
  | 1 => ("NamelessBox$Text", "length", "I", false)
  | 2 => ("NamelessBox$Text", "start", "I", false)
  | 3 => ("NamelessBox$Text", "end", "I", false)
  | 4 => ("NamelessBox$Text", "item", "I", false)
  | _ => ("NamelessBox$Text", "numbers", "[I", true)
def tyX6 : Nat → FieldType := fun k => match k with
  | 0 => .array .char
  | 1 => .int
  | 2 => .int
  | 3 => .int
  | 4 => .int
  | _ => .array .int
abbrev wsX60 : List Cond := u_ws RX6 TX6 6
theorem nmX6 : ∀ a, a < 6 → ∀ b, b < 6 → a ≠ b → (TX6 a).2.1 ≠ (TX6 b).2.1 := by decide +kernel
theorem tyX6_ok : ∀ k, k < 6 → parseFieldDescriptor (TX6 k).2.2.1 = some (tyX6 k) := by decide +kernel
abbrev cX6_init : ByteArray := prog_8_method_1_code
def yX6_init : MethodName := ⟨RX6, "<init>", "()V"⟩
abbrev cX6_hasRoom : ByteArray := prog_8_method_2_code
def yX6_hasRoom : MethodName := ⟨RX6, "hasRoom", "(I)Z"⟩
abbrev cX6_append : ByteArray := prog_8_method_3_code
def yX6_append : MethodName := ⟨RX6, "append", "(JI)I"⟩
abbrev cX6_empty : ByteArray := prog_8_method_4_code
def yX6_empty : MethodName := ⟨RX6, "empty", "()I"⟩
abbrev cX6_findFault : ByteArray := prog_8_method_5_code
def yX6_findFault : MethodName := ⟨RX6, "findFault", "()I"⟩
abbrev cX6_tell : ByteArray := prog_8_method_6_code
def yX6_tell : MethodName := ⟨RX6, "tell", "(LNamelessBox$Box;)I"⟩
abbrev cX6_takeItem : ByteArray := prog_8_method_7_code
def yX6_takeItem : MethodName := ⟨RX6, "takeItem", "(I)Z"⟩
abbrev cX6_tellItem : ByteArray := prog_8_method_8_code
def yX6_tellItem : MethodName := ⟨RX6, "tellItem", "(LNamelessBox$Box;)I"⟩
abbrev cX6_wordOf : ByteArray := prog_8_method_9_code
def yX6_wordOf : MethodName := ⟨RX6, "wordOf", "(I)Ljava/lang/String;"⟩
abbrev cX6_advance : ByteArray := prog_8_method_10_code
def yX6_advance : MethodName := ⟨RX6, "advance", "()I"⟩
abbrev cX6_isLetter : ByteArray := prog_8_method_11_code
def yX6_isLetter : MethodName := ⟨RX6, "isLetter", "(C)Z"⟩
abbrev cX6_isFigure : ByteArray := prog_8_method_12_code
def yX6_isFigure : MethodName := ⟨RX6, "isFigure", "(C)Z"⟩
abbrev cX6_itemOf : ByteArray := prog_8_method_13_code
def yX6_itemOf : MethodName := ⟨RX6, "itemOf", "()I"⟩
abbrev cX6_isWord : ByteArray := prog_8_method_14_code
def yX6_isWord : MethodName := ⟨RX6, "isWord", "(Ljava/lang/String;)Z"⟩
abbrev cX6_numberOf : ByteArray := prog_8_method_15_code
def yX6_numberOf : MethodName := ⟨RX6, "numberOf", "()I"⟩
def RX7 : String := "NamelessBox$Ways"
def TX7 : u_T := fun k => match k with
  | 0 => ("NamelessBox$Ways", "sums", "LNamelessBox$Sums;", true)
  | 1 => ("NamelessBox$Ways", "box", "LNamelessBox$Box;", true)
  | 2 => ("NamelessBox$Ways", "detail", "I", false)
  | 3 => ("NamelessBox$Ways", "skipped", "I", false)
  | 4 => ("NamelessBox$Ways", "early", "I", false)
  | 5 => ("NamelessBox$Ways", "late", "I", false)
  | 6 => ("NamelessBox$Ways", "firstOnly", "Z", false)
  | 7 => ("NamelessBox$Ways", "firstYear", "[I", true)
  | 8 => ("NamelessBox$Ways", "years", "[I", true)
  | 9 => ("NamelessBox$Ways", "place", "[I", true)
  | 10 => ("NamelessBox$Ways", "before", "[I", true)
  | 11 => ("NamelessBox$Ways", "closing", "[I", true)
  | 12 => ("NamelessBox$Ways", "likes", "[I", true)
  | 13 => ("NamelessBox$Ways", "likeSums", "[I", true)
  | 14 => ("NamelessBox$Ways", "namings", "[I", true)
  | 15 => ("NamelessBox$Ways", "products", "[J", true)
  | 16 => ("NamelessBox$Ways", "weights", "[J", true)
  | 17 => ("NamelessBox$Ways", "subtotals", "[J", true)
  | _ => ("NamelessBox$Ways", "way", "[I", true)
def tyX7 : Nat → FieldType := fun k => match k with
  | 0 => .object "NamelessBox$Sums"
  | 1 => .object "NamelessBox$Box"
  | 2 => .int
  | 3 => .int
  | 4 => .int
  | 5 => .int
  | 6 => .boolean
  | 7 => .array .int
  | 8 => .array .int
  | 9 => .array .int
  | 10 => .array .int
  | 11 => .array .int
  | 12 => .array .int
  | 13 => .array .int
  | 14 => .array .int
  | 15 => .array .long
  | 16 => .array .long
  | 17 => .array .long
  | _ => .array .int
abbrev wsX70 : List Cond := u_ws RX7 TX7 19
theorem nmX7 : ∀ a, a < 19 → ∀ b, b < 19 → a ≠ b → (TX7 a).2.1 ≠ (TX7 b).2.1 := by decide +kernel
theorem tyX7_ok : ∀ k, k < 19 → parseFieldDescriptor (TX7 k).2.2.1 = some (tyX7 k) := by decide +kernel
abbrev cX7_init : ByteArray := prog_9_method_1_code
def yX7_init : MethodName := ⟨RX7, "<init>", "(LNamelessBox$Box;LNamelessBox$Sums;)V"⟩
abbrev cX7_lookAtAll : ByteArray := prog_9_method_2_code
def yX7_lookAtAll : MethodName := ⟨RX7, "lookAtAll", "(I)V"⟩
abbrev cX7_leaveOut : ByteArray := prog_9_method_3_code
def yX7_leaveOut : MethodName := ⟨RX7, "leaveOut", "(I)V"⟩
abbrev cX7_lookAtYear : ByteArray := prog_9_method_4_code
def yX7_lookAtYear : MethodName := ⟨RX7, "lookAtYear", "(IIZ)V"⟩
abbrev cX7_lookInOrder : ByteArray := prog_9_method_5_code
def yX7_lookInOrder : MethodName := ⟨RX7, "lookInOrder", "(II)V"⟩
abbrev cX7_sumUp : ByteArray := prog_9_method_6_code
def yX7_sumUp : MethodName := ⟨RX7, "sumUp", "()V"⟩
abbrev cX7_placeHeads : ByteArray := prog_9_method_7_code
def yX7_placeHeads : MethodName := ⟨RX7, "placeHeads", "()V"⟩
abbrev cX7_planLikes : ByteArray := prog_9_method_8_code
def yX7_planLikes : MethodName := ⟨RX7, "planLikes", "(II)V"⟩
abbrev cX7_planNamings : ByteArray := prog_9_method_9_code
def yX7_planNamings : MethodName := ⟨RX7, "planNamings", "(II)V"⟩
abbrev cX7_takeEmptyPictures : ByteArray := prog_9_method_10_code
def yX7_takeEmptyPictures : MethodName := ⟨RX7, "takeEmptyPictures", "()V"⟩
abbrev cX7_descend : ByteArray := prog_9_method_11_code
def yX7_descend : MethodName := ⟨RX7, "descend", "(II)V"⟩
abbrev cX7_gather : ByteArray := prog_9_method_12_code
def yX7_gather : MethodName := ⟨RX7, "gather", "(II)V"⟩
abbrev cX7_goesOn : ByteArray := prog_9_method_13_code
def yX7_goesOn : MethodName := ⟨RX7, "goesOn", "(II)Z"⟩
abbrev cX7_isThereAlready : ByteArray := prog_9_method_14_code
def yX7_isThereAlready : MethodName := ⟨RX7, "isThereAlready", "(II)Z"⟩
abbrev cX7_joinings : ByteArray := prog_9_method_15_code
def yX7_joinings : MethodName := ⟨RX7, "joinings", "(II)I"⟩
abbrev cX7_takings : ByteArray := prog_9_method_16_code
def yX7_takings : MethodName := ⟨RX7, "takings", "(II)J"⟩
abbrev cX7_areBothTold : ByteArray := prog_9_method_17_code
def yX7_areBothTold : MethodName := ⟨RX7, "areBothTold", "(I)Z"⟩
abbrev cX7_multiplyYears : ByteArray := prog_9_method_18_code
def yX7_multiplyYears : MethodName := ⟨RX7, "multiplyYears", "(II)Z"⟩
abbrev cX7_sumYears : ByteArray := prog_9_method_19_code
def yX7_sumYears : MethodName := ⟨RX7, "sumYears", "(II)J"⟩
abbrev cX7_yearsInOrder : ByteArray := prog_9_method_20_code
def yX7_yearsInOrder : MethodName := ⟨RX7, "yearsInOrder", "()J"⟩
def RX8 : String := "NamelessBox"
def TX8 : u_T := fun k => match k with
  | 0 => ("NamelessBox", "box", "LNamelessBox$Box;", true)
  | 1 => ("NamelessBox", "scratch", "LNamelessBox$Box;", true)
  | 2 => ("NamelessBox", "image0", "LNamelessBox$Box;", true)
  | 3 => ("NamelessBox", "image1", "LNamelessBox$Box;", true)
  | 4 => ("NamelessBox", "kept", "[Z", true)
  | 5 => ("NamelessBox", "text", "LNamelessBox$Text;", true)
  | 6 => ("NamelessBox", "fraction", "LNamelessBox$Fraction;", true)
  | 7 => ("NamelessBox", "refusals", "[I", true)
  | 8 => ("NamelessBox", "now", "LNamelessBox$Ways;", true)
  | 9 => ("NamelessBox", "aside", "LNamelessBox$Ways;", true)
  | 10 => ("NamelessBox", "aunt", "LNamelessBox$Aunt;", true)
  | _ => ("NamelessBox", "summed", "I", false)
def tyX8 : Nat → FieldType := fun k => match k with
  | 0 => .object "NamelessBox$Box"
  | 1 => .object "NamelessBox$Box"
  | 2 => .object "NamelessBox$Box"
  | 3 => .object "NamelessBox$Box"
  | 4 => .array .boolean
  | 5 => .object "NamelessBox$Text"
  | 6 => .object "NamelessBox$Fraction"
  | 7 => .array .int
  | 8 => .object "NamelessBox$Ways"
  | 9 => .object "NamelessBox$Ways"
  | 10 => .object "NamelessBox$Aunt"
  | _ => .int
abbrev wsX80 : List Cond := u_ws RX8 TX8 12
theorem nmX8 : ∀ a, a < 12 → ∀ b, b < 12 → a ≠ b → (TX8 a).2.1 ≠ (TX8 b).2.1 := by decide +kernel
theorem tyX8_ok : ∀ k, k < 12 → parseFieldDescriptor (TX8 k).2.2.1 = some (tyX8 k) := by decide +kernel
abbrev cX8_init : ByteArray := prog_1_method_1_code
def yX8_init : MethodName := ⟨RX8, "<init>", "()V"⟩
abbrev cX8_person : ByteArray := prog_1_method_2_code
def yX8_person : MethodName := ⟨RX8, "person", "(IIII)I"⟩
abbrev cX8_parent : ByteArray := prog_1_method_3_code
def yX8_parent : MethodName := ⟨RX8, "parent", "(II)I"⟩
abbrev cX8_near : ByteArray := prog_1_method_4_code
def yX8_near : MethodName := ⟨RX8, "near", "(II)I"⟩
abbrev cX8_picture : ByteArray := prog_1_method_5_code
def yX8_picture : MethodName := ⟨RX8, "picture", "(II)I"⟩
abbrev cX8_head : ByteArray := prog_1_method_6_code
def yX8_head : MethodName := ⟨RX8, "head", "(IIIII)I"⟩
abbrev cX8_name : ByteArray := prog_1_method_7_code
def yX8_name : MethodName := ⟨RX8, "name", "(IIII)I"⟩
abbrev cX8_join : ByteArray := prog_1_method_8_code
def yX8_join : MethodName := ⟨RX8, "join", "(III)I"⟩
abbrev cX8_strange : ByteArray := prog_1_method_9_code
def yX8_strange : MethodName := ⟨RX8, "strange", "(I)I"⟩
abbrev cX8_mark : ByteArray := prog_1_method_10_code
def yX8_mark : MethodName := ⟨RX8, "mark", "(II)I"⟩
abbrev cX8_like : ByteArray := prog_1_method_11_code
def yX8_like : MethodName := ⟨RX8, "like", "(III)I"⟩
abbrev cX8_truth : ByteArray := prog_1_method_12_code
def yX8_truth : MethodName := ⟨RX8, "truth", "(I)I"⟩
abbrev cX8_type : ByteArray := prog_1_method_13_code
def yX8_type : MethodName := ⟨RX8, "type", "(JI)I"⟩
abbrev cX8_clear : ByteArray := prog_1_method_14_code
def yX8_clear : MethodName := ⟨RX8, "clear", "()I"⟩
abbrev cX8_read : ByteArray := prog_1_method_15_code
def yX8_read : MethodName := ⟨RX8, "read", "()I"⟩
abbrev cX8_who : ByteArray := prog_1_method_16_code
def yX8_who : MethodName := ⟨RX8, "who", "(II)I"⟩
abbrev cX8_named : ByteArray := prog_1_method_17_code
def yX8_named : MethodName := ⟨RX8, "named", "(I)I"⟩
abbrev cX8_best : ByteArray := prog_1_method_18_code
def yX8_best : MethodName := ⟨RX8, "best", "(I)I"⟩
abbrev cX8_all : ByteArray := prog_1_method_19_code
def yX8_all : MethodName := ⟨RX8, "all", "()I"⟩
abbrev cX8_sure : ByteArray := prog_1_method_20_code
def yX8_sure : MethodName := ⟨RX8, "sure", "(I)I"⟩
abbrev cX8_falls : ByteArray := prog_1_method_21_code
def yX8_falls : MethodName := ⟨RX8, "falls", "(II)I"⟩
abbrev cX8_same : ByteArray := prog_1_method_22_code
def yX8_same : MethodName := ⟨RX8, "same", "(II)I"⟩
abbrev cX8_noneOf : ByteArray := prog_1_method_23_code
def yX8_noneOf : MethodName := ⟨RX8, "noneOf", "(I)I"⟩
abbrev cX8_friend : ByteArray := prog_1_method_24_code
def yX8_friend : MethodName := ⟨RX8, "friend", "(I)I"⟩
abbrev cX8_of : ByteArray := prog_1_method_25_code
def yX8_of : MethodName := ⟨RX8, "of", "(II)I"⟩
abbrev cX8_when : ByteArray := prog_1_method_26_code
def yX8_when : MethodName := ⟨RX8, "when", "(II)I"⟩
abbrev cX8_span : ByteArray := prog_1_method_27_code
def yX8_span : MethodName := ⟨RX8, "span", "(II)I"⟩
abbrev cX8_ahead : ByteArray := prog_1_method_28_code
def yX8_ahead : MethodName := ⟨RX8, "ahead", "(II)I"⟩
abbrev cX8_parts : ByteArray := prog_1_method_29_code
def yX8_parts : MethodName := ⟨RX8, "parts", "(II)I"⟩
abbrev cX8_doubt : ByteArray := prog_1_method_30_code
def yX8_doubt : MethodName := ⟨RX8, "doubt", "(II)I"⟩
abbrev cX8_right : ByteArray := prog_1_method_31_code
def yX8_right : MethodName := ⟨RX8, "right", "()I"⟩
abbrev cX8_ask : ByteArray := prog_1_method_32_code
def yX8_ask : MethodName := ⟨RX8, "ask", "(I)I"⟩
abbrev cX8_next : ByteArray := prog_1_method_33_code
def yX8_next : MethodName := ⟨RX8, "next", "()I"⟩
abbrev cX8_sign : ByteArray := prog_1_method_34_code
def yX8_sign : MethodName := ⟨RX8, "sign", "(I)I"⟩
abbrev cX8_limb : ByteArray := prog_1_method_35_code
def yX8_limb : MethodName := ⟨RX8, "limb", "(II)I"⟩
abbrev cX8_image : ByteArray := prog_1_method_36_code
def yX8_image : MethodName := ⟨RX8, "image", "(I)I"⟩
abbrev cX8_from : ByteArray := prog_1_method_37_code
def yX8_from : MethodName := ⟨RX8, "from", "(I)I"⟩
abbrev cX8_status : ByteArray := prog_1_method_38_code
def yX8_status : MethodName := ⟨RX8, "status", "(I)I"⟩
abbrev cX8_count : ByteArray := prog_1_method_39_code
def yX8_count : MethodName := ⟨RX8, "count", "(I)I"⟩
abbrev cX8_digest : ByteArray := prog_1_method_40_code
def yX8_digest : MethodName := ⟨RX8, "digest", "()J"⟩
abbrev cX8_within : ByteArray := prog_1_method_41_code
def yX8_within : MethodName := ⟨RX8, "within", "(III)Z"⟩
abbrev cX8_isWho : ByteArray := prog_1_method_42_code
def yX8_isWho : MethodName := ⟨RX8, "isWho", "(I)Z"⟩
abbrev cX8_whoIs : ByteArray := prog_1_method_43_code
def yX8_whoIs : MethodName := ⟨RX8, "whoIs", "(I)I"⟩
abbrev cX8_whoAt : ByteArray := prog_1_method_44_code
def yX8_whoAt : MethodName := ⟨RX8, "whoAt", "(II)I"⟩
abbrev cX8_areTwoPeople : ByteArray := prog_1_method_45_code
def yX8_areTwoPeople : MethodName := ⟨RX8, "areTwoPeople", "(II)Z"⟩
abbrev cX8_isYearOf : ByteArray := prog_1_method_46_code
def yX8_isYearOf : MethodName := ⟨RX8, "isYearOf", "(II)Z"⟩
abbrev cX8_told : ByteArray := prog_1_method_47_code
def yX8_told : MethodName := ⟨RX8, "told", "(I)I"⟩
abbrev cX8_refused : ByteArray := prog_1_method_48_code
def yX8_refused : MethodName := ⟨RX8, "refused", "(I)I"⟩
abbrev cX8_anyWay : ByteArray := prog_1_method_49_code
def yX8_anyWay : MethodName := ⟨RX8, "anyWay", "(I)Z"⟩
abbrev cX8_share : ByteArray := prog_1_method_50_code
def yX8_share : MethodName := ⟨RX8, "share", "([JI)I"⟩
abbrev cX8_answerShare : ByteArray := prog_1_method_51_code
def yX8_answerShare : MethodName := ⟨RX8, "answerShare", "()I"⟩
abbrev cX8_staysSure : ByteArray := prog_1_method_52_code
def yX8_staysSure : MethodName := ⟨RX8, "staysSure", "(II)Z"⟩
abbrev cX8_addStrangerBeside : ByteArray := prog_1_method_53_code
def yX8_addStrangerBeside : MethodName := ⟨RX8, "addStrangerBeside", "(II)V"⟩
abbrev cX8_imageOf : ByteArray := prog_1_method_54_code
def yX8_imageOf : MethodName := ⟨RX8, "imageOf", "(I)LNamelessBox$Box;"⟩
abbrev cX8_howMany : ByteArray := prog_1_method_55_code
def yX8_howMany : MethodName := ⟨RX8, "howMany", "(I)I"⟩
def RX9 : String := "NamelessBoxModel"
def TX9 : u_T := fun k => match k with
  | 0 => ("NamelessBoxModel", "limbs", "[I", true)
  | 1 => ("NamelessBoxModel", "wide", "[I", true)
  | 2 => ("NamelessBoxModel", "book", "[I", true)
  | 3 => ("NamelessBoxModel", "images", "[I", true)
  | 4 => ("NamelessBoxModel", "kept", "[Z", true)
  | 5 => ("NamelessBoxModel", "before", "[I", true)
  | 6 => ("NamelessBoxModel", "refused", "[I", true)
  | 7 => ("NamelessBoxModel", "quiet", "Z", false)
  | 8 => ("NamelessBoxModel", "text", "[I", true)
  | 9 => ("NamelessBoxModel", "typed", "I", false)
  | 10 => ("NamelessBoxModel", "at", "I", false)
  | 11 => ("NamelessBoxModel", "start", "I", false)
  | 12 => ("NamelessBoxModel", "token", "I", false)
  | 13 => ("NamelessBoxModel", "value", "I", false)
  | 14 => ("NamelessBoxModel", "items", "[I", true)
  | 15 => ("NamelessBoxModel", "many", "I", false)
  | 16 => ("NamelessBoxModel", "is", "[I", true)
  | 17 => ("NamelessBoxModel", "likes", "[I", true)
  | 18 => ("NamelessBoxModel", "without", "I", false)
  | 19 => ("NamelessBoxModel", "onePicture", "I", false)
  | 20 => ("NamelessBoxModel", "oneYear", "I", false)
  | 21 => ("NamelessBoxModel", "first", "I", false)
  | 22 => ("NamelessBoxModel", "second", "I", false)
  | _ => ("NamelessBoxModel", "names", "[I", true)
def tyX9 : Nat → FieldType := fun k => match k with
  | 0 => .array .int
  | 1 => .array .int
  | 2 => .array .int
  | 3 => .array .int
  | 4 => .array .boolean
  | 5 => .array .int
  | 6 => .array .int
  | 7 => .boolean
  | 8 => .array .int
  | 9 => .int
  | 10 => .int
  | 11 => .int
  | 12 => .int
  | 13 => .int
  | 14 => .array .int
  | 15 => .int
  | 16 => .array .int
  | 17 => .array .int
  | 18 => .int
  | 19 => .int
  | 20 => .int
  | 21 => .int
  | 22 => .int
  | _ => .array .int
abbrev wsX90 : List Cond := u_ws RX9 TX9 24
theorem nmX9 : ∀ a, a < 24 → ∀ b, b < 24 → a ≠ b → (TX9 a).2.1 ≠ (TX9 b).2.1 := by decide +kernel
theorem tyX9_ok : ∀ k, k < 24 → parseFieldDescriptor (TX9 k).2.2.1 = some (tyX9 k) := by decide +kernel
abbrev cX9_in : ByteArray := prog_11_method_2_code
def yX9_in : MethodName := ⟨RX9, "in", "(JJJ)Z"⟩
abbrev cX9_trims : ByteArray := prog_11_method_3_code
def yX9_trims : MethodName := ⟨RX9, "trims", "(I)V"⟩
abbrev cX9_sets : ByteArray := prog_11_method_4_code
def yX9_sets : MethodName := ⟨RX9, "sets", "(IJ)V"⟩
abbrev cX9_takes : ByteArray := prog_11_method_5_code
def yX9_takes : MethodName := ⟨RX9, "takes", "(II)V"⟩
abbrev cX9_times : ByteArray := prog_11_method_6_code
def yX9_times : MethodName := ⟨RX9, "times", "(II)V"⟩
abbrev cX9_multiplies : ByteArray := prog_11_method_7_code
def yX9_multiplies : MethodName := ⟨RX9, "multiplies", "(II)V"⟩
abbrev cX9_adds : ByteArray := prog_11_method_8_code
def yX9_adds : MethodName := ⟨RX9, "adds", "(II)V"⟩
abbrev cX9_lessens : ByteArray := prog_11_method_9_code
def yX9_lessens : MethodName := ⟨RX9, "lessens", "(II)V"⟩
abbrev cX9_against : ByteArray := prog_11_method_10_code
def yX9_against : MethodName := ⟨RX9, "against", "(II)I"⟩
abbrev cX9_isEven : ByteArray := prog_11_method_11_code
def yX9_isEven : MethodName := ⟨RX9, "isEven", "(I)Z"⟩
abbrev cX9_halves : ByteArray := prog_11_method_12_code
def yX9_halves : MethodName := ⟨RX9, "halves", "(I)V"⟩
abbrev cX9_lowers : ByteArray := prog_11_method_13_code
def yX9_lowers : MethodName := ⟨RX9, "lowers", "()V"⟩
abbrev cX9_dividesOdd : ByteArray := prog_11_method_14_code
def yX9_dividesOdd : MethodName := ⟨RX9, "dividesOdd", "(I)V"⟩
abbrev cX9_init : ByteArray := prog_11_method_16_code
def yX9_init : MethodName := ⟨RX9, "<init>", "()V"⟩
abbrev cX9_refuses : ByteArray := prog_11_method_17_code
def yX9_refuses : MethodName := ⟨RX9, "refuses", "(II)I"⟩
abbrev cX9_bad : ByteArray := prog_11_method_18_code
def yX9_bad : MethodName := ⟨RX9, "bad", "()I"⟩
abbrev cX9_no : ByteArray := prog_11_method_19_code
def yX9_no : MethodName := ⟨RX9, "no", "()I"⟩
abbrev cX9_full : ByteArray := prog_11_method_20_code
def yX9_full : MethodName := ⟨RX9, "full", "()I"⟩
abbrev cX9_isPerson : ByteArray := prog_11_method_21_code
def yX9_isPerson : MethodName := ⟨RX9, "isPerson", "(I)Z"⟩
abbrev cX9_isPicture : ByteArray := prog_11_method_22_code
def yX9_isPicture : MethodName := ⟨RX9, "isPicture", "(I)Z"⟩
abbrev cX9_isHead : ByteArray := prog_11_method_23_code
def yX9_isHead : MethodName := ⟨RX9, "isHead", "(I)Z"⟩
abbrev cX9_ofPerson : ByteArray := prog_11_method_24_code
def yX9_ofPerson : MethodName := ⟨RX9, "ofPerson", "(II)I"⟩
abbrev cX9_ofHead : ByteArray := prog_11_method_25_code
def yX9_ofHead : MethodName := ⟨RX9, "ofHead", "(II)I"⟩
abbrev cX9_person : ByteArray := prog_11_method_26_code
def yX9_person : MethodName := ⟨RX9, "person", "(IIII)I"⟩
abbrev cX9_parent : ByteArray := prog_11_method_27_code
def yX9_parent : MethodName := ⟨RX9, "parent", "(II)I"⟩
abbrev cX9_near : ByteArray := prog_11_method_28_code
def yX9_near : MethodName := ⟨RX9, "near", "(II)I"⟩
abbrev cX9_picture : ByteArray := prog_11_method_29_code
def yX9_picture : MethodName := ⟨RX9, "picture", "(II)I"⟩
abbrev cX9_head : ByteArray := prog_11_method_30_code
def yX9_head : MethodName := ⟨RX9, "head", "(IIIII)I"⟩
abbrev cX9_name : ByteArray := prog_11_method_31_code
def yX9_name : MethodName := ⟨RX9, "name", "(IIII)I"⟩
abbrev cX9_join : ByteArray := prog_11_method_32_code
def yX9_join : MethodName := ⟨RX9, "join", "(III)I"⟩
abbrev cX9_strange : ByteArray := prog_11_method_33_code
def yX9_strange : MethodName := ⟨RX9, "strange", "(I)I"⟩
abbrev cX9_markOf : ByteArray := prog_11_method_34_code
def yX9_markOf : MethodName := ⟨RX9, "markOf", "(II)I"⟩
abbrev cX9_mark : ByteArray := prog_11_method_35_code
def yX9_mark : MethodName := ⟨RX9, "mark", "(II)I"⟩
abbrev cX9_likeOf : ByteArray := prog_11_method_36_code
def yX9_likeOf : MethodName := ⟨RX9, "likeOf", "(III)I"⟩
abbrev cX9_like : ByteArray := prog_11_method_37_code
def yX9_like : MethodName := ⟨RX9, "like", "(III)I"⟩
abbrev cX9_truthOf : ByteArray := prog_11_method_38_code
def yX9_truthOf : MethodName := ⟨RX9, "truthOf", "(I)I"⟩
abbrev cX9_truth : ByteArray := prog_11_method_39_code
def yX9_truth : MethodName := ⟨RX9, "truth", "(I)I"⟩
abbrev cX9_type : ByteArray := prog_11_method_40_code
def yX9_type : MethodName := ⟨RX9, "type", "(JI)I"⟩
abbrev cX9_clear : ByteArray := prog_11_method_41_code
def yX9_clear : MethodName := ⟨RX9, "clear", "()I"⟩
abbrev cX9_isAt : ByteArray := prog_11_method_42_code
def yX9_isAt : MethodName := ⟨RX9, "isAt", "(II)Z"⟩
abbrev cX9_verbOf : ByteArray := prog_11_method_43_code
def yX9_verbOf : MethodName := ⟨RX9, "verbOf", "(J)I"⟩
abbrev cX9_scans : ByteArray := prog_11_method_44_code
def yX9_scans : MethodName := ⟨RX9, "scans", "()V"⟩
abbrev cX9_numbers : ByteArray := prog_11_method_45_code
def yX9_numbers : MethodName := ⟨RX9, "numbers", "(I)I"⟩
abbrev cX9_reads : ByteArray := prog_11_method_46_code
def yX9_reads : MethodName := ⟨RX9, "reads", "()Z"⟩
abbrev cX9_tellsItem : ByteArray := prog_11_method_47_code
def yX9_tellsItem : MethodName := ⟨RX9, "tellsItem", "(I)Z"⟩
abbrev cX9_read : ByteArray := prog_11_method_48_code
def yX9_read : MethodName := ⟨RX9, "read", "()I"⟩
abbrev cX9_ways : ByteArray := prog_11_method_49_code
def yX9_ways : MethodName := ⟨RX9, "ways", "()I"⟩
abbrev cX9_begins : ByteArray := prog_11_method_50_code
def yX9_begins : MethodName := ⟨RX9, "begins", "()V"⟩
abbrev cX9_picks : ByteArray := prog_11_method_51_code
def yX9_picks : MethodName := ⟨RX9, "picks", "(I)V"⟩
abbrev cX9_termOf : ByteArray := prog_11_method_52_code
def yX9_termOf : MethodName := ⟨RX9, "termOf", "(II)J"⟩
abbrev cX9_years : ByteArray := prog_11_method_53_code
def yX9_years : MethodName := ⟨RX9, "years", "(I)I"⟩
abbrev cX9_isTwice : ByteArray := prog_11_method_54_code
def yX9_isTwice : MethodName := ⟨RX9, "isTwice", "()Z"⟩
abbrev cX9_timesLong : ByteArray := prog_11_method_55_code
def yX9_timesLong : MethodName := ⟨RX9, "timesLong", "(IJ)V"⟩
abbrev cX9_weighs : ByteArray := prog_11_method_56_code
def yX9_weighs : MethodName := ⟨RX9, "weighs", "(I)Z"⟩
abbrev cX9_isOn : ByteArray := prog_11_method_57_code
def yX9_isOn : MethodName := ⟨RX9, "isOn", "(II)Z"⟩
abbrev cX9_counts : ByteArray := prog_11_method_58_code
def yX9_counts : MethodName := ⟨RX9, "counts", "(III)I"⟩
abbrev cX9_sums : ByteArray := prog_11_method_59_code
def yX9_sums : MethodName := ⟨RX9, "sums", "(III)V"⟩
abbrev cX9_tellsHit : ByteArray := prog_11_method_60_code
def yX9_tellsHit : MethodName := ⟨RX9, "tellsHit", "()I"⟩
abbrev cX9_shares : ByteArray := prog_11_method_61_code
def yX9_shares : MethodName := ⟨RX9, "shares", "(I)V"⟩
abbrev cX9_namedNow : ByteArray := prog_11_method_62_code
def yX9_namedNow : MethodName := ⟨RX9, "namedNow", "(I)I"⟩
abbrev cX9_who : ByteArray := prog_11_method_63_code
def yX9_who : MethodName := ⟨RX9, "who", "(II)I"⟩
abbrev cX9_named : ByteArray := prog_11_method_64_code
def yX9_named : MethodName := ⟨RX9, "named", "(I)I"⟩
abbrev cX9_best : ByteArray := prog_11_method_65_code
def yX9_best : MethodName := ⟨RX9, "best", "(I)I"⟩
abbrev cX9_all : ByteArray := prog_11_method_66_code
def yX9_all : MethodName := ⟨RX9, "all", "()I"⟩
abbrev cX9_isSure : ByteArray := prog_11_method_67_code
def yX9_isSure : MethodName := ⟨RX9, "isSure", "(II)Z"⟩
abbrev cX9_sure : ByteArray := prog_11_method_68_code
def yX9_sure : MethodName := ⟨RX9, "sure", "(I)I"⟩
abbrev cX9_falls : ByteArray := prog_11_method_69_code
def yX9_falls : MethodName := ⟨RX9, "falls", "(II)I"⟩
abbrev cX9_asks : ByteArray := prog_11_method_70_code
def yX9_asks : MethodName := ⟨RX9, "asks", "(III)I"⟩
abbrev cX9_same : ByteArray := prog_11_method_71_code
def yX9_same : MethodName := ⟨RX9, "same", "(II)I"⟩
abbrev cX9_noneOf : ByteArray := prog_11_method_72_code
def yX9_noneOf : MethodName := ⟨RX9, "noneOf", "(I)I"⟩
abbrev cX9_friend : ByteArray := prog_11_method_73_code
def yX9_friend : MethodName := ⟨RX9, "friend", "(I)I"⟩
abbrev cX9_of : ByteArray := prog_11_method_74_code
def yX9_of : MethodName := ⟨RX9, "of", "(II)I"⟩
abbrev cX9_years2 : ByteArray := prog_11_method_75_code
def yX9_years2 : MethodName := ⟨RX9, "years2", "(IIII)Z"⟩
abbrev cX9_when : ByteArray := prog_11_method_76_code
def yX9_when : MethodName := ⟨RX9, "when", "(II)I"⟩
abbrev cX9_span : ByteArray := prog_11_method_77_code
def yX9_span : MethodName := ⟨RX9, "span", "(II)I"⟩
abbrev cX9_ahead : ByteArray := prog_11_method_78_code
def yX9_ahead : MethodName := ⟨RX9, "ahead", "(II)I"⟩
abbrev cX9_parts : ByteArray := prog_11_method_79_code
def yX9_parts : MethodName := ⟨RX9, "parts", "(II)I"⟩
abbrev cX9_doubt : ByteArray := prog_11_method_80_code
def yX9_doubt : MethodName := ⟨RX9, "doubt", "(II)I"⟩
abbrev cX9_rights : ByteArray := prog_11_method_81_code
def yX9_rights : MethodName := ⟨RX9, "rights", "(I)V"⟩
abbrev cX9_right : ByteArray := prog_11_method_82_code
def yX9_right : MethodName := ⟨RX9, "right", "()I"⟩
abbrev cX9_truthAbout : ByteArray := prog_11_method_83_code
def yX9_truthAbout : MethodName := ⟨RX9, "truthAbout", "(I)I"⟩
abbrev cX9_addsGreatest : ByteArray := prog_11_method_84_code
def yX9_addsGreatest : MethodName := ⟨RX9, "addsGreatest", "(II)V"⟩
abbrev cX9_worths : ByteArray := prog_11_method_85_code
def yX9_worths : MethodName := ⟨RX9, "worths", "(I)Z"⟩
abbrev cX9_tellsWorth : ByteArray := prog_11_method_86_code
def yX9_tellsWorth : MethodName := ⟨RX9, "tellsWorth", "(I)I"⟩
abbrev cX9_ask : ByteArray := prog_11_method_87_code
def yX9_ask : MethodName := ⟨RX9, "ask", "(I)I"⟩
abbrev cX9_next : ByteArray := prog_11_method_88_code
def yX9_next : MethodName := ⟨RX9, "next", "()I"⟩
abbrev cX9_signNow : ByteArray := prog_11_method_89_code
def yX9_signNow : MethodName := ⟨RX9, "signNow", "()I"⟩
abbrev cX9_sign : ByteArray := prog_11_method_90_code
def yX9_sign : MethodName := ⟨RX9, "sign", "(I)I"⟩
abbrev cX9_limb : ByteArray := prog_11_method_91_code
def yX9_limb : MethodName := ⟨RX9, "limb", "(II)I"⟩
abbrev cX9_image : ByteArray := prog_11_method_92_code
def yX9_image : MethodName := ⟨RX9, "image", "(I)I"⟩
abbrev cX9_from : ByteArray := prog_11_method_93_code
def yX9_from : MethodName := ⟨RX9, "from", "(I)I"⟩
abbrev cX9_status : ByteArray := prog_11_method_94_code
def yX9_status : MethodName := ⟨RX9, "status", "(I)I"⟩
abbrev cX9_countOf : ByteArray := prog_11_method_95_code
def yX9_countOf : MethodName := ⟨RX9, "countOf", "(I)I"⟩
abbrev cX9_count : ByteArray := prog_11_method_96_code
def yX9_count : MethodName := ⟨RX9, "count", "(I)I"⟩
abbrev cX9_mixed : ByteArray := prog_11_method_97_code
def yX9_mixed : MethodName := ⟨RX9, "mixed", "(JII)J"⟩
abbrev cX9_digest : ByteArray := prog_11_method_98_code
def yX9_digest : MethodName := ⟨RX9, "digest", "()J"⟩
def RJ13 : String := "java/lang/Long"
def TJ13 : u_T := fun k => match k with
  | _ => ("", "", "", false)
def tyJ13 : Nat → FieldType := fun k => match k with
  | _ => .int
abbrev wsJ130 : List Cond := u_ws RJ13 TJ13 0
theorem nmJ13 : ∀ a, a < 0 → ∀ b, b < 0 → a ≠ b → (TJ13 a).2.1 ≠ (TJ13 b).2.1 := by decide +kernel
theorem tyJ13_ok : ∀ k, k < 0 → parseFieldDescriptor (TJ13 k).2.2.1 = some (tyJ13 k) := by decide +kernel
abbrev cJ13_compare_74951 : ByteArray := prog_12_method_42_code
def yJ13_compare_74951 : MethodName := ⟨RJ13, "compare", "(JJ)I"⟩
def RJ0 : String := "java/lang/String"
def TJ0 : u_T := fun k => match k with
  | _ => ("", "", "", false)
def tyJ0 : Nat → FieldType := fun k => match k with
  | _ => .int
abbrev wsJ00 : List Cond := u_ws RJ0 TJ0 0
theorem nmJ0 : ∀ a, a < 0 → ∀ b, b < 0 → a ≠ b → (TJ0 a).2.1 ≠ (TJ0 b).2.1 := by decide +kernel
theorem tyJ0_ok : ∀ k, k < 0 → parseFieldDescriptor (TJ0 k).2.2.1 = some (tyJ0 k) := by decide +kernel
abbrev cJ0_length_8abf5 : ByteArray := prog_14_method_54_code
def yJ0_length_8abf5 : MethodName := ⟨RJ0, "length", "()I"⟩
abbrev cJ0_charAt_5068e : ByteArray := prog_14_method_56_code
def yJ0_charAt_5068e : MethodName := ⟨RJ0, "charAt", "(I)C"⟩
abbrev cJ0_coder_7d493 : ByteArray := prog_14_method_152_code
def yJ0_coder_7d493 : MethodName := ⟨RJ0, "coder", "()B"⟩
abbrev cJ0_isLatin1_aae02 : ByteArray := prog_14_method_154_code
def yJ0_isLatin1_aae02 : MethodName := ⟨RJ0, "isLatin1", "()Z"⟩
abbrev cJ0_checkIndex_df160 : ByteArray := prog_14_method_155_code
def yJ0_checkIndex_df160 : MethodName := ⟨RJ0, "checkIndex", "(II)V"⟩
def RJ1 : String := "java/lang/StringLatin1"
def TJ1 : u_T := fun k => match k with
  | _ => ("", "", "", false)
def tyJ1 : Nat → FieldType := fun k => match k with
  | _ => .int
theorem nmJ1 : ∀ a, a < 0 → ∀ b, b < 0 → a ≠ b → (TJ1 a).2.1 ≠ (TJ1 b).2.1 := by decide +kernel
theorem tyJ1_ok : ∀ k, k < 0 → parseFieldDescriptor (TJ1 k).2.2.1 = some (tyJ1 k) := by decide +kernel
abbrev cJ1_charAt_3b067 : ByteArray := prog_15_method_2_code
def yJ1_charAt_3b067 : MethodName := ⟨RJ1, "charAt", "([BI)C"⟩
def RJ2 : String := "java/lang/StringUTF16"
def TJ2 : u_T := fun k => match k with
  | _ => ("", "", "", false)
def tyJ2 : Nat → FieldType := fun k => match k with
  | _ => .int
abbrev wsJ20 : List Cond := u_ws RJ2 TJ2 0
theorem nmJ2 : ∀ a, a < 0 → ∀ b, b < 0 → a ≠ b → (TJ2 a).2.1 ≠ (TJ2 b).2.1 := by decide +kernel
theorem tyJ2_ok : ∀ k, k < 0 → parseFieldDescriptor (TJ2 k).2.2.1 = some (tyJ2 k) := by decide +kernel
abbrev cJ2_getChar_3b067 : ByteArray := prog_16_method_5_code
def yJ2_getChar_3b067 : MethodName := ⟨RJ2, "getChar", "([BI)C"⟩
abbrev cJ2_length_9d52b : ByteArray := prog_16_method_6_code
def yJ2_length_9d52b : MethodName := ⟨RJ2, "length", "([B)I"⟩
abbrev cJ2_charAt_3b067 : ByteArray := prog_16_method_83_code
def yJ2_charAt_3b067 : MethodName := ⟨RJ2, "charAt", "([BI)C"⟩
abbrev cJ2_checkIndex_2214a : ByteArray := prog_16_method_91_code
def yJ2_checkIndex_2214a : MethodName := ⟨RJ2, "checkIndex", "(I[B)V"⟩
def RJ7 : String := "java/util/Arrays"
def TJ7 : u_T := fun k => match k with
  | _ => ("", "", "", false)
def tyJ7 : Nat → FieldType := fun k => match k with
  | _ => .int
abbrev wsJ70 : List Cond := u_ws RJ7 TJ7 0
theorem nmJ7 : ∀ a, a < 0 → ∀ b, b < 0 → a ≠ b → (TJ7 a).2.1 ≠ (TJ7 b).2.1 := by decide +kernel
theorem tyJ7_ok : ∀ k, k < 0 → parseFieldDescriptor (TJ7 k).2.2.1 = some (tyJ7 k) := by decide +kernel
abbrev cJ7_fill_d0a16 : ByteArray := prog_18_method_101_code
def yJ7_fill_d0a16 : MethodName := ⟨RJ7, "fill", "([JJ)V"⟩
abbrev cJ7_fill_53178 : ByteArray := prog_18_method_103_code
def yJ7_fill_53178 : MethodName := ⟨RJ7, "fill", "([II)V"⟩
def RJ3 : String := "jdk/internal/util/Preconditions"
def TJ3 : u_T := fun k => match k with
  | _ => ("", "", "", false)
def tyJ3 : Nat → FieldType := fun k => match k with
  | _ => .int
abbrev wsJ30 : List Cond := u_ws RJ3 TJ3 0
theorem nmJ3 : ∀ a, a < 0 → ∀ b, b < 0 → a ≠ b → (TJ3 a).2.1 ≠ (TJ3 b).2.1 := by decide +kernel
theorem tyJ3_ok : ∀ k, k < 0 → parseFieldDescriptor (TJ3 k).2.2.1 = some (tyJ3 k) := by decide +kernel
abbrev cJ3_checkIndex_8e157 : ByteArray := prog_19_method_11_code
def yJ3_checkIndex_8e157 : MethodName := ⟨RJ3, "checkIndex", "(IILjava/util/function/BiFunction;)I"⟩
def RL : String := "NamelessBoxLaw"
abbrev cL_law : ByteArray := code
def yL_law : MethodName := ⟨RL, "law", "([I)Z"⟩
abbrev cx_cl : List vw_C := [(RX0, TX0, 8), (RX1, TX1, 6), (RX2, TX2, 4), (RX4, TX4, 4), (RX5, TX5, 11), (RX6, TX6, 6), (RX7, TX7, 19), (RX8, TX8, 12), (RX9, TX9, 24)]
end
section
/-! words, one list for every method -/
def cx_G : List Cond := lw_tbl.filter goodWord
theorem cx_in {w : Cond} (i : Nat) (h : lw_tbl[i]? = some w) (hg : goodWord w = true) : w ∈ cx_G := List.mem_filter.mpr ⟨List.mem_of_getElem? h, hg⟩
theorem cx_inW {w : Cond} (h : w ∈ lw_tbl) (hg : goodWord w = true) : w ∈ cx_G := List.mem_filter.mpr ⟨h, hg⟩
theorem cx_goodG {w : Cond} (h : w ∈ cx_G) : GoodIn cx_G (w :: cx_G) := by
  intro v hv
  have hm : v ∈ cx_G := by
    rcases List.mem_cons.mp hv with rfl | h2
    · exact h
    · exact h2
  exact ⟨hm, good_of_word (List.mem_filter.mp hm).2⟩
def cx_rm (d : Nat) : Room := { frames := d, cells := 0, slots := 0, locals := 40 * d }
abbrev cx_ty (k : Nat → ClassId) : List (ClassId × FieldType) := [(k 0, .int), (k 1, .long), (k 2, .char), (k 3, .boolean)]
def cx_N (U : State) : Prop := va_Nw (.methodLinkNest "NamelessBox" 9 ⟨"NamelessBox$Box", "<init>", "()V"⟩ "NamelessBox") U ∧ va_Nw (.methodLinkNest "NamelessBox" 31 ⟨"NamelessBox$Text", "<init>", "()V"⟩ "NamelessBox") U ∧ va_Nw (.methodLinkNest "NamelessBox$Box" 43 ⟨"NamelessBox", "within", "(III)Z"⟩ "NamelessBox") U ∧ va_Nw (.methodLinkNest "NamelessBox$Rows" 35 ⟨"NamelessBox", "within", "(III)Z"⟩ "NamelessBox") U ∧ va_Nw (.methodLinkNest "NamelessBox$Ways" 121 ⟨"NamelessBox", "whoAt", "(II)I"⟩ "NamelessBox") U ∧ va_Nw (.methodLinkNest "NamelessBox$Sums" 91 ⟨"NamelessBox", "whoAt", "(II)I"⟩ "NamelessBox") U ∧ va_Nw (.methodLinkNest "NamelessBox$Aunt" 102 ⟨"NamelessBox", "whoAt", "(II)I"⟩ "NamelessBox") U
theorem cx_N.warm {s U : State} (hW : s.WarmedH U.vm) (h : cx_N s) : cx_N U := ⟨va_Nw.warmM hW h.1, va_Nw.warmM hW h.2.1, va_Nw.warmM hW h.2.2.1, va_Nw.warmM hW h.2.2.2.1, va_Nw.warmM hW h.2.2.2.2.1, va_Nw.warmM hW h.2.2.2.2.2.1, va_Nw.warmM hW h.2.2.2.2.2.2⟩
theorem cx_N.same {s U : State} (hv : s.vm = U.vm) (h : cx_N s) : cx_N U := ⟨va_Nw.same rfl hv h.1, va_Nw.same rfl hv h.2.1, va_Nw.same rfl hv h.2.2.1, va_Nw.same rfl hv h.2.2.2.1, va_Nw.same rfl hv h.2.2.2.2.1, va_Nw.same rfl hv h.2.2.2.2.2.1, va_Nw.same rfl hv h.2.2.2.2.2.2⟩
def cx_K (D : va_G) (k : Nat → ClassId) (U : State) : Prop := va_K D cx_cl (cx_ty k) U ∧ cx_N U
theorem cx_K.warm {D : va_G} {k : Nat → ClassId} {s U : State} (hW : s.WarmedH U.vm) (h : cx_K D k s) : cx_K D k U := ⟨va_K.moved hW.alike h.1, h.2.warm hW⟩
/-- a method's start -/
def cx_P (D : va_G) (k : Nat → ClassId) (av : List Value) (ws : va_W) (sz : Nat) : Array Value → State → Prop := va_Pc av (fun U => U.heap.size = sz ∧ va_P D cx_cl ws U.heap ∧ cx_K D k U ∧ va_D (fun _ => True) ws)
theorem cx_P.blind {D : va_G} {k : Nat → ClassId} {av : List Value} {ws : va_W} {sz : Nat} : FrameBlind (cx_P D k av ws sz) := fun a U g mk q => by
  obtain ⟨q0, q1, q2, q3, q4⟩ := q
  exact ⟨q0, q1, q2, ⟨va_K.moved (u := U) (U := U.calling g mk a) (Vm.Alike.refl U.vm) q3.1, q3.2.same rfl⟩, q4⟩
def cx_Qi (D : va_G) (r : Int32) (w0 w1 : va_W) (sz : Nat) : Array Value → State → Outcome → State → Prop := va_Qi (fun (x : Int32) (_ : Unit) => x = r) (fun _ t => va_P D cx_cl w1 t.heap) (va_A w0 sz)
def cx_Ql (D : va_G) (r : Int64) (w0 w1 : va_W) (sz : Nat) : Array Value → State → Outcome → State → Prop := va_Ql (fun (x : Int64) (_ : Unit) => x = r) (fun _ t => va_P D cx_cl w1 t.heap) (va_A w0 sz)
def cx_Qv (D : va_G) (w0 w1 : va_W) (sz : Nat) : Array Value → State → Outcome → State → Prop := va_Qv (fun (_ : Unit) => True) (fun _ t => va_P D cx_cl w1 t.heap) (va_A w0 sz)
def cx_Qr (D : va_G) (r : Nat) (w0 w1 : va_W) (sz : Nat) : Array Value → State → Outcome → State → Prop := va_Qr (fun (_ : Unit) => True) (fun _ a t => a = r ∧ va_P D cx_cl w1 t.heap) (va_A w0 sz)
/-- the contract of a method that makes no cell -/
abbrev cx_M (l : Launch) (y : MethodName) (bytes : ByteArray) (maxL : Nat) (ret : Option FieldType) (d : Nat) (D : va_G) (k : Nat → ClassId) (av : List Value) (w0 : va_W) (Qc : Nat → Array Value → State → Outcome → State → Prop) : Prop :=
  ∀ sz : Nat, Met l y (.code y bytes maxL ret :: cx_G) (cx_rm d) (cx_P D k av w0 sz) (Qc sz) 0 0 (va_A w0 sz)
/-- what a frame knows -/
def cx_C (p : Program) (s : State) (m : MethodId) (args : Array Value) (c : Code) (cc : ByteArray) (nL : Nat) (own : String) (D : va_G) (k : Nat → ClassId) : Prop := p.tables.exec = Jvm.exec ∧ c.code = cc ∧ c.maxLocals = nL ∧ s.vm.findClass own = some m.cls ∧ (∀ w ∈ cx_G, w.before args s = true) ∧ cx_K D k s
/-- the machine at a frame, with a world -/
def cx_S (p : Program) (l : Launch) (e : Env) (R : Room) (s : State) (m : MethodId) (args : Array Value) (below : List Frame) (meth : Method) (c : Code) (A : Nat → Prop) (D : va_G) (nL cells slots : Nat) (Q : State → Prop) (pc : Nat) (lv : List (Nat × Value)) (st : List Value) (ws : va_W) : Prop :=
  ∀ (H : Heap) (locs : List Loc) (ls : Array Slot), va_P D cx_cl ws H → va_D A ws → va_S A s.heap H locs → lv_has ls nL lv → W p l e R s m args below meth c H locs cells slots Q (F0 m pc ls st)
theorem cx_met {l : Launch} {y : MethodName} {cc : ByteArray} {maxL d : Nat} {ret : Option FieldType} {D : va_G} {k : Nat → ClassId} {av : List Value} {w0 : va_W} {Qc : Nat → Array Value → State → Outcome → State → Prop} {own : String} (hy : plainName y.cls = true) (ho : y.cls = own) (hn : (lg_sl av).length ≤ maxL)
    (body : ∀ (p : Program) (e : Env) (s : State) (m : MethodId) (args : Array Value) (below : List Frame) (meth : Method) (c : Code) (A : Nat → Prop) (Q : State → Prop), cx_C p s m args c cc maxL own D k → A = va_A w0 s.heap.size → Q = MQ below (Qc s.heap.size) args s 0 0 (va_A w0 s.heap.size) → meth.sig.returnType = ret → meth.locks = false →
      cx_S p l e (cx_rm d) s m args below meth c A D maxL 0 0 Q 0 (lv_args 0 av) [] w0) : cx_M l y cc maxL ret d D k av w0 Qc := by
  intro sz
  refine Met.ofW (cc := cc) (maxL := maxL) (ret := ret) hy rfl ?_
  intro p e s m args below meth c s₁ B hml hv
  obtain ⟨rfl, hsz, hP, hK, hD0⟩ := hv
  have hts := atoms_spec (ws := .code y cc maxL ret :: cx_G) B.pre
  have hown : s.vm.findClass own = some m.cls := ho ▸ findClass_of_methodNamed B.named
  subst hsz
  have hl := lv_entry av (n := maxL) hn
  rw [lg_entry_eq]
  exact body p e s m av.toArray below meth c _ _ ⟨B.exec, B.bytes, hml, hown, fun w hw => hts w (List.mem_cons_of_mem _ hw), hK⟩ rfl rfl B.returns B.notSynchronized s.heap [] _ hP hD0.self va_S.rf hl
/-! in-place change of some cells of a world -/
def cx_put : va_W → List Nat → va_W → va_W
  | ws, i :: is, w :: w1 => cx_put (ws.set i w) is w1
  | ws, _, _ => ws
theorem cx_put_get : ∀ (is : List Nat) (w1 ws : va_W) (j : Nat) (q : Nat × va_E), (cx_put ws is w1)[j]? = some q → (∃ i : Nat, w1[i]? = some q ∧ is[i]? = some j) ∨ (ws[j]? = some q ∧ ∀ i : Nat, i < w1.length → is[i]? ≠ some j)
  | [], w1, ws, j, q, h => by
    right
    refine ⟨by cases w1 <;> simpa [cx_put] using h, fun i _ => by simp⟩
  | i :: is, [], ws, j, q, h => by
    right
    exact ⟨by simpa [cx_put] using h, fun i hi => by simp at hi⟩
  | i :: is, w :: w1, ws, j, q, h => by
    rcases cx_put_get is w1 (ws.set i w) j q h with ⟨n, h1, h2⟩ | ⟨h1, h2⟩
    · exact Or.inl ⟨n + 1, by simpa using h1, by simpa using h2⟩
    · by_cases hij : i = j
      · subst hij
        by_cases hl : i < ws.length
        · rw [List.getElem?_set_self hl] at h1
          exact Or.inl ⟨0, by simpa using h1, rfl⟩
        · rw [List.getElem?_eq_none (by simp; omega)] at h1
          cases h1
      · rw [List.getElem?_set_ne hij] at h1
        refine Or.inr ⟨h1, fun n hn => ?_⟩
        cases n with
        | zero => simpa using hij
        | succ n => simpa using h2 n (by simpa using hn)
theorem cx_join {A0 : Nat → Prop} {D : va_G} {cl : List vw_C} {ws wc w1 : va_W} {H H1 : Heap} (hP : va_P D cl ws H) (hD : va_D A0 ws) (is : List Nat) (hC : is.map (fun i => ws[i]?) = wc.map some) (ha : w1.map Prod.fst = wc.map Prod.fst)
    (hk : ∀ q : Nat, q < H.size → ¬ va_A wc H.size q → H1[q]? = H[q]?) (hP1 : va_P D cl w1 H1) : va_P D cl (cx_put ws is w1) H1 ∧ va_D A0 (cx_put ws is w1) := by
  have hlen : is.length = wc.length := by simpa using congrArg List.length hC
  have hlen1 : w1.length = wc.length := by simpa using congrArg List.length ha
  have at' : ∀ (i j : Nat) (q : Nat × va_E), w1[i]? = some q → is[i]? = some j → ∃ e : va_E, ws[j]? = some (q.1, e) ∧ wc[i]? = some (q.1, e) := by
    intro i j q h1 h2
    have h3 : (is.map (fun i => ws[i]?))[i]? = some ws[j]? := by rw [List.getElem?_map, h2]; rfl
    have h4 : (w1.map Prod.fst)[i]? = some q.1 := by rw [List.getElem?_map, h1]; rfl
    rw [ha, List.getElem?_map] at h4
    cases h5 : wc[i]? with
    | none => rw [h5] at h4; cases h4
    | some x =>
      rw [h5] at h4
      have h6 : x.1 = q.1 := Option.some.inj h4
      rw [hC, List.getElem?_map, h5] at h3
      have h7 : some x = ws[j]? := Option.some.inj h3
      refine ⟨x.2, ?_, ?_⟩
      · rw [← h7, ← h6]
      · rw [← h6]
  have key : ∀ (j : Nat) (q : Nat × va_E), (cx_put ws is w1)[j]? = some q → va_at D cl q H1 ∧ ∃ e : va_E, ws[j]? = some (q.1, e) := by
    intro j q h
    rcases cx_put_get is w1 ws j q h with ⟨i, h1, h2⟩ | ⟨h1, h2⟩
    · obtain ⟨e, g1, g2⟩ := at' i j q h1 h2
      exact ⟨hP1 i q h1, e, g1⟩
    · refine ⟨(hP j q h1).kept (hk q.1 (hP j q h1).lt ?_), q.2, h1⟩
      rintro (⟨n, e, h3⟩ | h3)
      · have hn : n < wc.length := (List.getElem?_eq_some_iff.mp h3).1
        have h4 : (is.map (fun i => ws[i]?))[n]? = some (some (q.1, e)) := by rw [hC, List.getElem?_map, h3]; rfl
        rw [List.getElem?_map] at h4
        cases h5 : is[n]? with
        | none => rw [h5] at h4; cases h4
        | some i =>
          rw [h5] at h4
          have h6 : ws[i]? = some (q.1, e) := Option.some.inj h4
          have h7 := hD.1 j i q (q.1, e) h1 h6 rfl
          subst h7
          exact h2 n (by omega) h5
      · have := (hP j q h1).lt
        omega
  refine ⟨fun j q h => (key j q h).1, fun i j x y hx hy hxy => ?_, fun j q h => ?_⟩
  · obtain ⟨-, e1, g1⟩ := key i x hx
    obtain ⟨-, e2, g2⟩ := key j y hy
    exact hD.1 i j _ _ g1 g2 hxy
  · obtain ⟨-, e1, g1⟩ := key j q h
    exact hD.2 j (q.1, e1) g1
/-! pure words of the decompiled functions -/
def cx_let {α β : Type} (a : α) (f : α → β) : β := f a
theorem cx_let_at {α β : Type} {a v : α} {f : α → Option β} {y : β} (h : cx_let a f = some y) (e : v = a) : f v = some y := by rw [e]; exact h
def cx_gd {β : Type} (b : Bool) (x : Option β) : Option β := if b = true then x else none
theorem cx_gd_at {β : Type} {b : Bool} {x : Option β} {y : β} (h : cx_gd b x = some y) : b = true ∧ x = some y := by
  unfold cx_gd at h
  split at h
  · exact ⟨by assumption, h⟩
  · cases h
theorem cx_bd_at {α β : Type} {o : Option α} {f : α → Option β} {y : β} (h : Option.bind o f = some y) : ∃ a, o = some a ∧ f a = some y := by
  cases o with
  | none => cases h
  | some a => exact ⟨a, rfl, h⟩
theorem cx_if_t {β : Type} {c : Prop} [Decidable c] {a b : Option β} {y : β} (h : (if c then a else b) = some y) (hc : c) : a = some y := by rw [if_pos hc] at h; exact h
theorem cx_if_f {β : Type} {c : Prop} [Decidable c] {a b : Option β} {y : β} (h : (if c then a else b) = some y) (hc : ¬ c) : b = some y := by rw [if_neg hc] at h; exact h
/-- an index inside a row -/
def cx_ib (i : Int32) (n : Nat) : Bool := decide (0 ≤ i.toInt ∧ i.toInt < (n : Int))
theorem cx_ib_in {i : Int32} {n : Nat} (h : cx_ib i n = true) : vp_in i n := vp_in_iff.mpr (by simpa [cx_ib] using h)
abbrev cx_ix (i : Int32) : Nat := i.toNatClampNeg
/-- a loop with fuel -/
def cx_loop {σ ρ : Type} (F : (σ → Option ρ) → σ → Option ρ) : Nat → σ → Option ρ
  | 0, _ => none
  | n + 1, x => F (cx_loop F n) x
def cx_N0 : Nat := 10000000000

/-- a copy inside both rows -/
def cx_cb (sp dp n : Int32) (n0 n1 : Nat) : Bool := decide (¬ sp < 0 ∧ ¬ dp < 0 ∧ ¬ n < 0 ∧ sp.toNatClampNeg + n.toNatClampNeg ≤ n0 ∧ dp.toNatClampNeg + n.toNatClampNeg ≤ n1)
theorem cx_cb_at {sp dp n : Int32} {n0 n1 : Nat} (h : cx_cb sp dp n n0 n1 = true) : ¬ sp < 0 ∧ ¬ dp < 0 ∧ ¬ n < 0 ∧ sp.toNatClampNeg + n.toNatClampNeg ≤ n0 ∧ dp.toNatClampNeg + n.toNatClampNeg ≤ n1 := of_decide_eq_true h
section CXR
variable {p : Program} {l : Launch} {e : Env} {R : Room} {s : State} {m : MethodId} {args : Array Value} {below : List Frame} {meth : Method} {c : Code} {A : Nat → Prop} {D : va_G} {nL cells slots : Nat} {Q : State → Prop} {cc : ByteArray} {own : String} {k : Nat → ClassId} {pc : Nat} {lv : List (Nat × Value)} {st : List Value} {ws : va_W}
theorem cx_iconst (C : cx_C p s m args c cc nL own D k) {n : Int} {v : Int32} (hd : decode cc pc = .ok (.iconst n, 1)) (hv : Int32.ofInt n = v) (h : cx_S p l e R s m args below meth c A D nL cells slots Q (pc + 1) lv (.int v :: st) ws) : cx_S p l e R s m args below meth c A D nL cells slots Q (pc) lv (st) ws := fun H locs ls hP hD hS hl => lv_iconst C.1 C.2.1 hd hv (h H locs ls hP hD hS hl)
theorem cx_bipush (C : cx_C p s m args c cc nL own D k) {n : Int} {v : Int32} (hd : decode cc pc = .ok (.bipush n, 2)) (hv : (Int8.ofInt n).toInt32 = v) (h : cx_S p l e R s m args below meth c A D nL cells slots Q (pc + 2) lv (.int v :: st) ws) : cx_S p l e R s m args below meth c A D nL cells slots Q (pc) lv (st) ws := fun H locs ls hP hD hS hl => lv_bipush C.1 C.2.1 hd hv (h H locs ls hP hD hS hl)
theorem cx_sipush (C : cx_C p s m args c cc nL own D k) {n : Int} {v : Int32} (hd : decode cc pc = .ok (.sipush n, 3)) (hv : (Int16.ofInt n).toInt32 = v) (h : cx_S p l e R s m args below meth c A D nL cells slots Q (pc + 3) lv (.int v :: st) ws) : cx_S p l e R s m args below meth c A D nL cells slots Q (pc) lv (st) ws := fun H locs ls hP hD hS hl => lv_sipush C.1 C.2.1 hd hv (h H locs ls hP hD hS hl)
theorem cx_lconst (C : cx_C p s m args c cc nL own D k) {n : Fin 2} {v : Int64} (hd : decode cc pc = .ok (.lconst n, 1)) (hv : Int64.ofNat (n : Nat) = v) (h : cx_S p l e R s m args below meth c A D nL cells slots Q (pc + 1) lv (.long v :: st) ws) : cx_S p l e R s m args below meth c A D nL cells slots Q (pc) lv (st) ws := fun H locs ls hP hD hS hl => lv_lconst C.1 C.2.1 hd hv (h H locs ls hP hD hS hl)
theorem cx_iload_n (C : cx_C p s m args c cc nL own D k) {j : Fin 4} {x : Int32} (hd : decode cc pc = .ok (.iload_n j, 1)) (q : Nat) (hq : lv[q]? = some ((j : Nat), .int x)) (h : cx_S p l e R s m args below meth c A D nL cells slots Q (pc + 1) lv (.int x :: st) ws) : cx_S p l e R s m args below meth c A D nL cells slots Q (pc) lv (st) ws := fun H locs ls hP hD hS hl => lv_iload_n C.1 C.2.1 hd rfl (lv_at hl q hq) (h H locs ls hP hD hS hl)
theorem cx_iload (C : cx_C p s m args c cc nL own D k) {j : Nat} {x : Int32} (hd : decode cc pc = .ok (.iload j, 2)) (q : Nat) (hq : lv[q]? = some (j, .int x)) (h : cx_S p l e R s m args below meth c A D nL cells slots Q (pc + 2) lv (.int x :: st) ws) : cx_S p l e R s m args below meth c A D nL cells slots Q (pc) lv (st) ws := fun H locs ls hP hD hS hl => lv_iload C.1 C.2.1 hd (lv_at hl q hq) (h H locs ls hP hD hS hl)
theorem cx_istore_n (C : cx_C p s m args c cc nL own D k) {j : Fin 4} {i : Nat} {x : Int32} {lv' : List (Nat × Value)} (hd : decode cc pc = .ok (.istore_n j, 1)) (hi : (j : Nat) = i) (hn : i < nL) (hv : (i, Value.int x) :: lv.filter (fun q => !(q.1 == i) && !(q.1 + 1 == i && q.2.category == 2)) = lv') (h : cx_S p l e R s m args below meth c A D nL cells slots Q (pc + 1) lv' (st) ws) : cx_S p l e R s m args below meth c A D nL cells slots Q (pc) lv (.int x :: st) ws := fun H locs ls hP hD hS hl => lv_istore_n C.1 C.2.1 hd hi hl hn hv (fun ls' hl' => h H locs ls' hP hD hS hl')
theorem cx_istore (C : cx_C p s m args c cc nL own D k) {i : Nat} {x : Int32} {lv' : List (Nat × Value)} (hd : decode cc pc = .ok (.istore i, 2)) (hn : i < nL) (hv : (i, Value.int x) :: lv.filter (fun q => !(q.1 == i) && !(q.1 + 1 == i && q.2.category == 2)) = lv') (h : cx_S p l e R s m args below meth c A D nL cells slots Q (pc + 2) lv' (st) ws) : cx_S p l e R s m args below meth c A D nL cells slots Q (pc) lv (.int x :: st) ws := fun H locs ls hP hD hS hl => lv_istore C.1 C.2.1 hd hl hn hv (fun ls' hl' => h H locs ls' hP hD hS hl')
theorem cx_lload_n (C : cx_C p s m args c cc nL own D k) {j : Fin 4} {x : Int64} (hd : decode cc pc = .ok (.lload_n j, 1)) (q : Nat) (hq : lv[q]? = some ((j : Nat), .long x)) (h : cx_S p l e R s m args below meth c A D nL cells slots Q (pc + 1) lv (.long x :: st) ws) : cx_S p l e R s m args below meth c A D nL cells slots Q (pc) lv (st) ws := fun H locs ls hP hD hS hl => lv_lload_n C.1 C.2.1 hd rfl (lv_at hl q hq) (h H locs ls hP hD hS hl)
theorem cx_lload (C : cx_C p s m args c cc nL own D k) {j : Nat} {x : Int64} (hd : decode cc pc = .ok (.lload j, 2)) (q : Nat) (hq : lv[q]? = some (j, .long x)) (h : cx_S p l e R s m args below meth c A D nL cells slots Q (pc + 2) lv (.long x :: st) ws) : cx_S p l e R s m args below meth c A D nL cells slots Q (pc) lv (st) ws := fun H locs ls hP hD hS hl => lv_lload C.1 C.2.1 hd (lv_at hl q hq) (h H locs ls hP hD hS hl)
theorem cx_lstore_n (C : cx_C p s m args c cc nL own D k) {j : Fin 4} {i : Nat} {x : Int64} {lv' : List (Nat × Value)} (hd : decode cc pc = .ok (.lstore_n j, 1)) (hi : (j : Nat) = i) (hn : i + 1 < nL) (hv : (i, Value.long x) :: lv.filter (fun q => !(q.1 == i) && (!(q.1 == i + 1) && !(q.1 + 1 == i && q.2.category == 2))) = lv') (h : cx_S p l e R s m args below meth c A D nL cells slots Q (pc + 1) lv' (st) ws) : cx_S p l e R s m args below meth c A D nL cells slots Q (pc) lv (.long x :: st) ws := fun H locs ls hP hD hS hl => lv_lstore_n C.1 C.2.1 hd hi hl hn hv (fun ls' hl' => h H locs ls' hP hD hS hl')
theorem cx_lstore (C : cx_C p s m args c cc nL own D k) {i : Nat} {x : Int64} {lv' : List (Nat × Value)} (hd : decode cc pc = .ok (.lstore i, 2)) (hn : i + 1 < nL) (hv : (i, Value.long x) :: lv.filter (fun q => !(q.1 == i) && (!(q.1 == i + 1) && !(q.1 + 1 == i && q.2.category == 2))) = lv') (h : cx_S p l e R s m args below meth c A D nL cells slots Q (pc + 2) lv' (st) ws) : cx_S p l e R s m args below meth c A D nL cells slots Q (pc) lv (.long x :: st) ws := fun H locs ls hP hD hS hl => lv_lstore C.1 C.2.1 hd hl hn hv (fun ls' hl' => h H locs ls' hP hD hS hl')
theorem cx_aload_n (C : cx_C p s m args c cc nL own D k) {j : Fin 4} {x : Nat} (hd : decode cc pc = .ok (.aload_n j, 1)) (q : Nat) (hq : lv[q]? = some ((j : Nat), .ref x)) (h : cx_S p l e R s m args below meth c A D nL cells slots Q (pc + 1) lv (.ref x :: st) ws) : cx_S p l e R s m args below meth c A D nL cells slots Q (pc) lv (st) ws := fun H locs ls hP hD hS hl => lv_aload_n C.1 C.2.1 hd rfl (lv_at hl q hq) (h H locs ls hP hD hS hl)
theorem cx_aload (C : cx_C p s m args c cc nL own D k) {j : Nat} {x : Nat} (hd : decode cc pc = .ok (.aload j, 2)) (q : Nat) (hq : lv[q]? = some (j, .ref x)) (h : cx_S p l e R s m args below meth c A D nL cells slots Q (pc + 2) lv (.ref x :: st) ws) : cx_S p l e R s m args below meth c A D nL cells slots Q (pc) lv (st) ws := fun H locs ls hP hD hS hl => lv_aload C.1 C.2.1 hd (lv_at hl q hq) (h H locs ls hP hD hS hl)
theorem cx_astore_n (C : cx_C p s m args c cc nL own D k) {j : Fin 4} {i : Nat} {x : Nat} {lv' : List (Nat × Value)} (hd : decode cc pc = .ok (.astore_n j, 1)) (hi : (j : Nat) = i) (hn : i < nL) (hv : (i, Value.ref x) :: lv.filter (fun q => !(q.1 == i) && !(q.1 + 1 == i && q.2.category == 2)) = lv') (h : cx_S p l e R s m args below meth c A D nL cells slots Q (pc + 1) lv' (st) ws) : cx_S p l e R s m args below meth c A D nL cells slots Q (pc) lv (.ref x :: st) ws := fun H locs ls hP hD hS hl => lv_astore_n C.1 C.2.1 hd hi hl hn hv (fun ls' hl' => h H locs ls' hP hD hS hl')
theorem cx_astore (C : cx_C p s m args c cc nL own D k) {i : Nat} {x : Nat} {lv' : List (Nat × Value)} (hd : decode cc pc = .ok (.astore i, 2)) (hn : i < nL) (hv : (i, Value.ref x) :: lv.filter (fun q => !(q.1 == i) && !(q.1 + 1 == i && q.2.category == 2)) = lv') (h : cx_S p l e R s m args below meth c A D nL cells slots Q (pc + 2) lv' (st) ws) : cx_S p l e R s m args below meth c A D nL cells slots Q (pc) lv (.ref x :: st) ws := fun H locs ls hP hD hS hl => lv_astore C.1 C.2.1 hd hl hn hv (fun ls' hl' => h H locs ls' hP hD hS hl')
theorem cx_iinc (C : cx_C p s m args c cc nL own D k) {i : Nat} {n : Int} {x v : Int32} {lv' : List (Nat × Value)} (hd : decode cc pc = .ok (.iinc i n, 3)) (q : Nat) (hq : lv[q]? = some (i, .int x)) (hv : x + Int32.ofInt n = v) (hn : i < nL) (hv' : (i, Value.int v) :: lv.filter (fun q => !(q.1 == i) && !(q.1 + 1 == i && q.2.category == 2)) = lv') (h : cx_S p l e R s m args below meth c A D nL cells slots Q (pc + 3) lv' (st) ws) : cx_S p l e R s m args below meth c A D nL cells slots Q (pc) lv (st) ws := fun H locs ls hP hD hS hl => lv_iinc C.1 C.2.1 hd hl hq hv hn hv' (fun ls' hl' => h H locs ls' hP hD hS hl')
theorem cx_iadd (C : cx_C p s m args c cc nL own D k) {x y : Int32} (hd : decode cc pc = .ok (.iadd, 1))  (h : cx_S p l e R s m args below meth c A D nL cells slots Q (pc + 1) lv (.int (x + y) :: st) ws) : cx_S p l e R s m args below meth c A D nL cells slots Q (pc) lv (.int y :: .int x :: st) ws := fun H locs ls hP hD hS hl => lv_iadd C.1 C.2.1 hd  (h H locs ls hP hD hS hl)
theorem cx_isub (C : cx_C p s m args c cc nL own D k) {x y : Int32} (hd : decode cc pc = .ok (.isub, 1))  (h : cx_S p l e R s m args below meth c A D nL cells slots Q (pc + 1) lv (.int (x - y) :: st) ws) : cx_S p l e R s m args below meth c A D nL cells slots Q (pc) lv (.int y :: .int x :: st) ws := fun H locs ls hP hD hS hl => lv_isub C.1 C.2.1 hd  (h H locs ls hP hD hS hl)
theorem cx_imul (C : cx_C p s m args c cc nL own D k) {x y : Int32} (hd : decode cc pc = .ok (.imul, 1))  (h : cx_S p l e R s m args below meth c A D nL cells slots Q (pc + 1) lv (.int (x * y) :: st) ws) : cx_S p l e R s m args below meth c A D nL cells slots Q (pc) lv (.int y :: .int x :: st) ws := fun H locs ls hP hD hS hl => lv_imul C.1 C.2.1 hd  (h H locs ls hP hD hS hl)
theorem cx_iand (C : cx_C p s m args c cc nL own D k) {x y : Int32} (hd : decode cc pc = .ok (.iand, 1))  (h : cx_S p l e R s m args below meth c A D nL cells slots Q (pc + 1) lv (.int (x &&& y) :: st) ws) : cx_S p l e R s m args below meth c A D nL cells slots Q (pc) lv (.int y :: .int x :: st) ws := fun H locs ls hP hD hS hl => lv_iand C.1 C.2.1 hd  (h H locs ls hP hD hS hl)
theorem cx_ior (C : cx_C p s m args c cc nL own D k) {x y : Int32} (hd : decode cc pc = .ok (.ior, 1))  (h : cx_S p l e R s m args below meth c A D nL cells slots Q (pc + 1) lv (.int (x ||| y) :: st) ws) : cx_S p l e R s m args below meth c A D nL cells slots Q (pc) lv (.int y :: .int x :: st) ws := fun H locs ls hP hD hS hl => lv_ior C.1 C.2.1 hd  (h H locs ls hP hD hS hl)
theorem cx_ishl (C : cx_C p s m args c cc nL own D k) {x y : Int32} (hd : decode cc pc = .ok (.ishl, 1))  (h : cx_S p l e R s m args below meth c A D nL cells slots Q (pc + 1) lv (.int (x <<< (y &&& 31)) :: st) ws) : cx_S p l e R s m args below meth c A D nL cells slots Q (pc) lv (.int y :: .int x :: st) ws := fun H locs ls hP hD hS hl => lv_ishl C.1 C.2.1 hd  (h H locs ls hP hD hS hl)
theorem cx_ishr (C : cx_C p s m args c cc nL own D k) {x y : Int32} (hd : decode cc pc = .ok (.ishr, 1))  (h : cx_S p l e R s m args below meth c A D nL cells slots Q (pc + 1) lv (.int (x >>> (y &&& 31)) :: st) ws) : cx_S p l e R s m args below meth c A D nL cells slots Q (pc) lv (.int y :: .int x :: st) ws := fun H locs ls hP hD hS hl => lv_ishr C.1 C.2.1 hd  (h H locs ls hP hD hS hl)
theorem cx_ladd (C : cx_C p s m args c cc nL own D k) {x y : Int64} (hd : decode cc pc = .ok (.ladd, 1))  (h : cx_S p l e R s m args below meth c A D nL cells slots Q (pc + 1) lv (.long (x + y) :: st) ws) : cx_S p l e R s m args below meth c A D nL cells slots Q (pc) lv (.long y :: .long x :: st) ws := fun H locs ls hP hD hS hl => lv_ladd C.1 C.2.1 hd  (h H locs ls hP hD hS hl)
theorem cx_lsub (C : cx_C p s m args c cc nL own D k) {x y : Int64} (hd : decode cc pc = .ok (.lsub, 1))  (h : cx_S p l e R s m args below meth c A D nL cells slots Q (pc + 1) lv (.long (x - y) :: st) ws) : cx_S p l e R s m args below meth c A D nL cells slots Q (pc) lv (.long y :: .long x :: st) ws := fun H locs ls hP hD hS hl => lv_lsub C.1 C.2.1 hd  (h H locs ls hP hD hS hl)
theorem cx_lmul (C : cx_C p s m args c cc nL own D k) {x y : Int64} (hd : decode cc pc = .ok (.lmul, 1))  (h : cx_S p l e R s m args below meth c A D nL cells slots Q (pc + 1) lv (.long (x * y) :: st) ws) : cx_S p l e R s m args below meth c A D nL cells slots Q (pc) lv (.long y :: .long x :: st) ws := fun H locs ls hP hD hS hl => lv_lmul C.1 C.2.1 hd  (h H locs ls hP hD hS hl)
theorem cx_land (C : cx_C p s m args c cc nL own D k) {x y : Int64} (hd : decode cc pc = .ok (.land, 1))  (h : cx_S p l e R s m args below meth c A D nL cells slots Q (pc + 1) lv (.long (x &&& y) :: st) ws) : cx_S p l e R s m args below meth c A D nL cells slots Q (pc) lv (.long y :: .long x :: st) ws := fun H locs ls hP hD hS hl => lv_land C.1 C.2.1 hd  (h H locs ls hP hD hS hl)
theorem cx_lor (C : cx_C p s m args c cc nL own D k) {x y : Int64} (hd : decode cc pc = .ok (.lor, 1))  (h : cx_S p l e R s m args below meth c A D nL cells slots Q (pc + 1) lv (.long (x ||| y) :: st) ws) : cx_S p l e R s m args below meth c A D nL cells slots Q (pc) lv (.long y :: .long x :: st) ws := fun H locs ls hP hD hS hl => lv_lor C.1 C.2.1 hd  (h H locs ls hP hD hS hl)
theorem cx_lneg (C : cx_C p s m args c cc nL own D k) {x : Int64} (hd : decode cc pc = .ok (.lneg, 1))  (h : cx_S p l e R s m args below meth c A D nL cells slots Q (pc + 1) lv (.long (-x) :: st) ws) : cx_S p l e R s m args below meth c A D nL cells slots Q (pc) lv (.long x :: st) ws := fun H locs ls hP hD hS hl => lv_lneg C.1 C.2.1 hd  (h H locs ls hP hD hS hl)
theorem cx_idiv (C : cx_C p s m args c cc nL own D k) {x y : Int32} (hd : decode cc pc = .ok (.idiv, 1)) (hne : ¬ y = 0) (h : cx_S p l e R s m args below meth c A D nL cells slots Q (pc + 1) lv (.int (x / y) :: st) ws) : cx_S p l e R s m args below meth c A D nL cells slots Q (pc) lv (.int y :: .int x :: st) ws := fun H locs ls hP hD hS hl => lv_idiv C.1 C.2.1 hd hne (h H locs ls hP hD hS hl)
theorem cx_irem (C : cx_C p s m args c cc nL own D k) {x y : Int32} (hd : decode cc pc = .ok (.irem, 1)) (hne : ¬ y = 0) (h : cx_S p l e R s m args below meth c A D nL cells slots Q (pc + 1) lv (.int (x - x / y * y) :: st) ws) : cx_S p l e R s m args below meth c A D nL cells slots Q (pc) lv (.int y :: .int x :: st) ws := fun H locs ls hP hD hS hl => lv_irem C.1 C.2.1 hd hne (h H locs ls hP hD hS hl)
theorem cx_i2l (C : cx_C p s m args c cc nL own D k) {x : Int32} (hd : decode cc pc = .ok (.i2l, 1))  (h : cx_S p l e R s m args below meth c A D nL cells slots Q (pc + 1) lv (.long x.toInt64 :: st) ws) : cx_S p l e R s m args below meth c A D nL cells slots Q (pc) lv (.int x :: st) ws := fun H locs ls hP hD hS hl => lv_i2l C.1 C.2.1 hd rfl (h H locs ls hP hD hS hl)
theorem cx_l2i (C : cx_C p s m args c cc nL own D k) {x : Int64} (hd : decode cc pc = .ok (.l2i, 1))  (h : cx_S p l e R s m args below meth c A D nL cells slots Q (pc + 1) lv (.int x.toInt32 :: st) ws) : cx_S p l e R s m args below meth c A D nL cells slots Q (pc) lv (.long x :: st) ws := fun H locs ls hP hD hS hl => lv_l2i C.1 C.2.1 hd rfl (h H locs ls hP hD hS hl)
theorem cx_i2c (C : cx_C p s m args c cc nL own D k) {x : Int32} (hd : decode cc pc = .ok (.i2c, 1))  (h : cx_S p l e R s m args below meth c A D nL cells slots Q (pc + 1) lv (.int ((x.toUInt32 % 65536).toInt32) :: st) ws) : cx_S p l e R s m args below meth c A D nL cells slots Q (pc) lv (.int x :: st) ws := fun H locs ls hP hD hS hl => lv_i2c C.1 C.2.1 hd rfl (h H locs ls hP hD hS hl)
theorem cx_iushr (C : cx_C p s m args c cc nL own D k) {x y : Int32} (hd : decode cc pc = .ok (.iushr, 1))  (h : cx_S p l e R s m args below meth c A D nL cells slots Q (pc + 1) lv (.int ((x.toUInt32 >>> (y.toUInt32 &&& Int32.toUInt32 31)).toInt32) :: st) ws) : cx_S p l e R s m args below meth c A D nL cells slots Q (pc) lv (.int y :: .int x :: st) ws := fun H locs ls hP hD hS hl => lv_iushr C.1 C.2.1 hd rfl (h H locs ls hP hD hS hl)
theorem cx_lshl (C : cx_C p s m args c cc nL own D k) {x : Int64} {y : Int32} (hd : decode cc pc = .ok (.lshl, 1))  (h : cx_S p l e R s m args below meth c A D nL cells slots Q (pc + 1) lv (.long (x <<< (y.toInt64 &&& 63)) :: st) ws) : cx_S p l e R s m args below meth c A D nL cells slots Q (pc) lv (.int y :: .long x :: st) ws := fun H locs ls hP hD hS hl => lv_lshl C.1 C.2.1 hd rfl (h H locs ls hP hD hS hl)
theorem cx_lshr (C : cx_C p s m args c cc nL own D k) {x : Int64} {y : Int32} (hd : decode cc pc = .ok (.lshr, 1))  (h : cx_S p l e R s m args below meth c A D nL cells slots Q (pc + 1) lv (.long (x >>> (y.toInt64 &&& 63)) :: st) ws) : cx_S p l e R s m args below meth c A D nL cells slots Q (pc) lv (.int y :: .long x :: st) ws := fun H locs ls hP hD hS hl => lv_lshr C.1 C.2.1 hd rfl (h H locs ls hP hD hS hl)
theorem cx_lcmp (C : cx_C p s m args c cc nL own D k) {x y : Int64} (hd : decode cc pc = .ok (.lcmp, 1))  (h : cx_S p l e R s m args below meth c A D nL cells slots Q (pc + 1) lv (.int (lg_cmp x y) :: st) ws) : cx_S p l e R s m args below meth c A D nL cells slots Q (pc) lv (.long y :: .long x :: st) ws := fun H locs ls hP hD hS hl => W.lcmp C.1 C.2.1 hd  (h H locs ls hP hD hS hl)
theorem cx_dup (C : cx_C p s m args c cc nL own D k) {v : Value} (hd : decode cc pc = .ok (.dup, 1)) (hv : v.category = 1) (h : cx_S p l e R s m args below meth c A D nL cells slots Q (pc + 1) lv (v :: v :: st) ws) : cx_S p l e R s m args below meth c A D nL cells slots Q (pc) lv (v :: st) ws := fun H locs ls hP hD hS hl => lv_dup C.1 C.2.1 hd hv (h H locs ls hP hD hS hl)
theorem cx_pop (C : cx_C p s m args c cc nL own D k) {v : Value} (hd : decode cc pc = .ok (.pop, 1)) (hv : v.category = 1) (h : cx_S p l e R s m args below meth c A D nL cells slots Q (pc + 1) lv (st) ws) : cx_S p l e R s m args below meth c A D nL cells slots Q (pc) lv (v :: st) ws := fun H locs ls hP hD hS hl => lv_pop C.1 C.2.1 hd hv (h H locs ls hP hD hS hl)
theorem cx_dup2_11 (C : cx_C p s m args c cc nL own D k) {va vb : Value} (hd : decode cc pc = .ok (.dup2, 1)) (hva : va.category = 1) (hvb : vb.category = 1) (h : cx_S p l e R s m args below meth c A D nL cells slots Q (pc + 1) lv (va :: vb :: va :: vb :: st) ws) : cx_S p l e R s m args below meth c A D nL cells slots Q (pc) lv (va :: vb :: st) ws := fun H locs ls hP hD hS hl => lv_dup2_11 C.1 C.2.1 hd hva hvb (h H locs ls hP hD hS hl)
theorem cx_if_eq (C : cx_C p s m args c cc nL own D k) {x : Int32} {off : Int} {tgt : Nat} (hd : decode cc pc = .ok (.ifCond .eq off, 3)) (ht : (pc : Int) + off = (tgt : Int)) (ha : x = 0 → cx_S p l e R s m args below meth c A D nL cells slots Q (tgt) lv (st) ws) (hb : ¬ x = 0 → cx_S p l e R s m args below meth c A D nL cells slots Q (pc + 3) lv (st) ws) : cx_S p l e R s m args below meth c A D nL cells slots Q (pc) lv (.int x :: st) ws := fun H locs ls hP hD hS hl => lv_if_eq C.1 C.2.1 hd ht (fun q => ha q H locs ls hP hD hS hl) (fun q => hb q H locs ls hP hD hS hl)
theorem cx_icmp_eq (C : cx_C p s m args c cc nL own D k) {x y : Int32} {off : Int} {tgt : Nat} (hd : decode cc pc = .ok (.if_icmp .eq off, 3)) (ht : (pc : Int) + off = (tgt : Int)) (ha : x = y → cx_S p l e R s m args below meth c A D nL cells slots Q (tgt) lv (st) ws) (hb : ¬ x = y → cx_S p l e R s m args below meth c A D nL cells slots Q (pc + 3) lv (st) ws) : cx_S p l e R s m args below meth c A D nL cells slots Q (pc) lv (.int y :: .int x :: st) ws := fun H locs ls hP hD hS hl => lv_icmp_eq C.1 C.2.1 hd ht (fun q => ha q H locs ls hP hD hS hl) (fun q => hb q H locs ls hP hD hS hl)
theorem cx_if_lt (C : cx_C p s m args c cc nL own D k) {x : Int32} {off : Int} {tgt : Nat} (hd : decode cc pc = .ok (.ifCond .lt off, 3)) (ht : (pc : Int) + off = (tgt : Int)) (ha : x < 0 → cx_S p l e R s m args below meth c A D nL cells slots Q (tgt) lv (st) ws) (hb : ¬ x < 0 → cx_S p l e R s m args below meth c A D nL cells slots Q (pc + 3) lv (st) ws) : cx_S p l e R s m args below meth c A D nL cells slots Q (pc) lv (.int x :: st) ws := fun H locs ls hP hD hS hl => lv_if_lt C.1 C.2.1 hd ht (fun q => ha q H locs ls hP hD hS hl) (fun q => hb q H locs ls hP hD hS hl)
theorem cx_icmp_lt (C : cx_C p s m args c cc nL own D k) {x y : Int32} {off : Int} {tgt : Nat} (hd : decode cc pc = .ok (.if_icmp .lt off, 3)) (ht : (pc : Int) + off = (tgt : Int)) (ha : x < y → cx_S p l e R s m args below meth c A D nL cells slots Q (tgt) lv (st) ws) (hb : ¬ x < y → cx_S p l e R s m args below meth c A D nL cells slots Q (pc + 3) lv (st) ws) : cx_S p l e R s m args below meth c A D nL cells slots Q (pc) lv (.int y :: .int x :: st) ws := fun H locs ls hP hD hS hl => lv_icmp_lt C.1 C.2.1 hd ht (fun q => ha q H locs ls hP hD hS hl) (fun q => hb q H locs ls hP hD hS hl)
theorem cx_if_ge (C : cx_C p s m args c cc nL own D k) {x : Int32} {off : Int} {tgt : Nat} (hd : decode cc pc = .ok (.ifCond .ge off, 3)) (ht : (pc : Int) + off = (tgt : Int)) (ha : 0 ≤ x → cx_S p l e R s m args below meth c A D nL cells slots Q (tgt) lv (st) ws) (hb : ¬ 0 ≤ x → cx_S p l e R s m args below meth c A D nL cells slots Q (pc + 3) lv (st) ws) : cx_S p l e R s m args below meth c A D nL cells slots Q (pc) lv (.int x :: st) ws := fun H locs ls hP hD hS hl => lv_if_ge C.1 C.2.1 hd ht (fun q => ha q H locs ls hP hD hS hl) (fun q => hb q H locs ls hP hD hS hl)
theorem cx_icmp_ge (C : cx_C p s m args c cc nL own D k) {x y : Int32} {off : Int} {tgt : Nat} (hd : decode cc pc = .ok (.if_icmp .ge off, 3)) (ht : (pc : Int) + off = (tgt : Int)) (ha : y ≤ x → cx_S p l e R s m args below meth c A D nL cells slots Q (tgt) lv (st) ws) (hb : ¬ y ≤ x → cx_S p l e R s m args below meth c A D nL cells slots Q (pc + 3) lv (st) ws) : cx_S p l e R s m args below meth c A D nL cells slots Q (pc) lv (.int y :: .int x :: st) ws := fun H locs ls hP hD hS hl => lv_icmp_ge C.1 C.2.1 hd ht (fun q => ha q H locs ls hP hD hS hl) (fun q => hb q H locs ls hP hD hS hl)
theorem cx_if_gt (C : cx_C p s m args c cc nL own D k) {x : Int32} {off : Int} {tgt : Nat} (hd : decode cc pc = .ok (.ifCond .gt off, 3)) (ht : (pc : Int) + off = (tgt : Int)) (ha : 0 < x → cx_S p l e R s m args below meth c A D nL cells slots Q (tgt) lv (st) ws) (hb : ¬ 0 < x → cx_S p l e R s m args below meth c A D nL cells slots Q (pc + 3) lv (st) ws) : cx_S p l e R s m args below meth c A D nL cells slots Q (pc) lv (.int x :: st) ws := fun H locs ls hP hD hS hl => lv_if_gt C.1 C.2.1 hd ht (fun q => ha q H locs ls hP hD hS hl) (fun q => hb q H locs ls hP hD hS hl)
theorem cx_icmp_gt (C : cx_C p s m args c cc nL own D k) {x y : Int32} {off : Int} {tgt : Nat} (hd : decode cc pc = .ok (.if_icmp .gt off, 3)) (ht : (pc : Int) + off = (tgt : Int)) (ha : y < x → cx_S p l e R s m args below meth c A D nL cells slots Q (tgt) lv (st) ws) (hb : ¬ y < x → cx_S p l e R s m args below meth c A D nL cells slots Q (pc + 3) lv (st) ws) : cx_S p l e R s m args below meth c A D nL cells slots Q (pc) lv (.int y :: .int x :: st) ws := fun H locs ls hP hD hS hl => lv_icmp_gt C.1 C.2.1 hd ht (fun q => ha q H locs ls hP hD hS hl) (fun q => hb q H locs ls hP hD hS hl)
theorem cx_if_le (C : cx_C p s m args c cc nL own D k) {x : Int32} {off : Int} {tgt : Nat} (hd : decode cc pc = .ok (.ifCond .le off, 3)) (ht : (pc : Int) + off = (tgt : Int)) (ha : x ≤ 0 → cx_S p l e R s m args below meth c A D nL cells slots Q (tgt) lv (st) ws) (hb : ¬ x ≤ 0 → cx_S p l e R s m args below meth c A D nL cells slots Q (pc + 3) lv (st) ws) : cx_S p l e R s m args below meth c A D nL cells slots Q (pc) lv (.int x :: st) ws := fun H locs ls hP hD hS hl => lv_if_le C.1 C.2.1 hd ht (fun q => ha q H locs ls hP hD hS hl) (fun q => hb q H locs ls hP hD hS hl)
theorem cx_icmp_le (C : cx_C p s m args c cc nL own D k) {x y : Int32} {off : Int} {tgt : Nat} (hd : decode cc pc = .ok (.if_icmp .le off, 3)) (ht : (pc : Int) + off = (tgt : Int)) (ha : x ≤ y → cx_S p l e R s m args below meth c A D nL cells slots Q (tgt) lv (st) ws) (hb : ¬ x ≤ y → cx_S p l e R s m args below meth c A D nL cells slots Q (pc + 3) lv (st) ws) : cx_S p l e R s m args below meth c A D nL cells slots Q (pc) lv (.int y :: .int x :: st) ws := fun H locs ls hP hD hS hl => lv_icmp_le C.1 C.2.1 hd ht (fun q => ha q H locs ls hP hD hS hl) (fun q => hb q H locs ls hP hD hS hl)
theorem cx_if_ne (C : cx_C p s m args c cc nL own D k) {x : Int32} {off : Int} {tgt : Nat} (hd : decode cc pc = .ok (.ifCond .ne off, 3)) (ht : (pc : Int) + off = (tgt : Int)) (ha : ¬ x = 0 → cx_S p l e R s m args below meth c A D nL cells slots Q (tgt) lv (st) ws) (hb : x = 0 → cx_S p l e R s m args below meth c A D nL cells slots Q (pc + 3) lv (st) ws) : cx_S p l e R s m args below meth c A D nL cells slots Q (pc) lv (.int x :: st) ws := fun H locs ls hP hD hS hl => lv_if_ne C.1 C.2.1 hd ht (fun q => ha q H locs ls hP hD hS hl) (fun q => hb q H locs ls hP hD hS hl)
theorem cx_icmp_ne (C : cx_C p s m args c cc nL own D k) {x y : Int32} {off : Int} {tgt : Nat} (hd : decode cc pc = .ok (.if_icmp .ne off, 3)) (ht : (pc : Int) + off = (tgt : Int)) (ha : ¬ x = y → cx_S p l e R s m args below meth c A D nL cells slots Q (tgt) lv (st) ws) (hb : x = y → cx_S p l e R s m args below meth c A D nL cells slots Q (pc + 3) lv (st) ws) : cx_S p l e R s m args below meth c A D nL cells slots Q (pc) lv (.int y :: .int x :: st) ws := fun H locs ls hP hD hS hl => lv_icmp_ne C.1 C.2.1 hd ht (fun q => ha q H locs ls hP hD hS hl) (fun q => hb q H locs ls hP hD hS hl)
theorem cx_goto (C : cx_C p s m args c cc nL own D k) {off : Int} {tgt : Nat} (hd : decode cc pc = .ok (.goto off, 3)) (ht : (pc : Int) + off = (tgt : Int)) (h : cx_S p l e R s m args below meth c A D nL cells slots Q (tgt) lv (st) ws) : cx_S p l e R s m args below meth c A D nL cells slots Q (pc) lv (st) ws := fun H locs ls hP hD hS hl => lv_goto C.1 C.2.1 hd ht (h H locs ls hP hD hS hl)
theorem cx_ldc (C : cx_C p s m args c cc nL own D k) {idx : Nat} {v : Int32} (hd : decode cc pc = .ok (.ldc idx, 2)) (hw : Cond.constant own idx v ∈ cx_G) (h : cx_S p l e R s m args below meth c A D nL cells slots Q (pc + 2) lv (.int v :: st) ws) : cx_S p l e R s m args below meth c A D nL cells slots Q (pc) lv (st) ws := fun H locs ls hP hD hS hl => lv_ldc C.1 C.2.1 C.2.2.2.1 (C.2.2.2.2.1 _ hw) hd (h H locs ls hP hD hS hl)
theorem cx_ldc2 (C : cx_C p s m args c cc nL own D k) {idx : Nat} {v : Int64} (hd : decode cc pc = .ok (.ldc2_w idx, 3)) (hw : Cond.constantLong own idx v ∈ cx_G) (h : cx_S p l e R s m args below meth c A D nL cells slots Q (pc + 3) lv (.long v :: st) ws) : cx_S p l e R s m args below meth c A D nL cells slots Q (pc) lv (st) ws := fun H locs ls hP hD hS hl => lv_ldc2 C.1 C.2.1 C.2.2.2.1 (C.2.2.2.2.1 _ hw) hd (h H locs ls hP hD hS hl)
theorem cx_tabIn (C : cx_C p s m args c cc nL own D k) {dflt lo hi : Int} {offs : Array Int} {len : Nat} {x : Int32} {off : Int} {tgt : Nat} (hd : decode cc pc = .ok (.tableswitch dflt lo hi offs, len)) (h1 : ¬ x.toInt < lo) (h2 : ¬ hi < x.toInt) (ho : offs[(x.toInt - lo).toNat]? = some off) (ht : (pc : Int) + off = (tgt : Int)) (h : cx_S p l e R s m args below meth c A D nL cells slots Q (tgt) lv (st) ws) : cx_S p l e R s m args below meth c A D nL cells slots Q (pc) lv (.int x :: st) ws := fun H locs ls hP hD hS hl => lv_tableIn C.1 C.2.1 hd h1 h2 ho ht (h H locs ls hP hD hS hl)
theorem cx_tabOut (C : cx_C p s m args c cc nL own D k) {dflt lo hi : Int} {offs : Array Int} {len : Nat} {x : Int32} {tgt : Nat} (hd : decode cc pc = .ok (.tableswitch dflt lo hi offs, len)) (h1 : x.toInt < lo ∨ hi < x.toInt) (ht : (pc : Int) + dflt = (tgt : Int)) (h : cx_S p l e R s m args below meth c A D nL cells slots Q (tgt) lv (st) ws) : cx_S p l e R s m args below meth c A D nL cells slots Q (pc) lv (.int x :: st) ws := fun H locs ls hP hD hS hl => lv_tableOut C.1 C.2.1 hd h1 ht (h H locs ls hP hD hS hl)
theorem cx_look (C : cx_C p s m args c cc nL own D k) {dflt : Int} {ps : Array (Int × Int)} {len : Nat} {x : Int32} {off : Int} {tgt : Nat} (hd : decode cc pc = .ok (.lookupswitch dflt ps, len)) (hp : (ps.toList.zip (ps.toList.drop 1)).all (fun (a, next) => a.1 < next.1) = true) (ho : Op.lookupswitch.offset ps.toList dflt x.toInt = off) (ht : (pc : Int) + off = (tgt : Int)) (h : cx_S p l e R s m args below meth c A D nL cells slots Q (tgt) lv (st) ws) : cx_S p l e R s m args below meth c A D nL cells slots Q (pc) lv (.int x :: st) ws := fun H locs ls hP hD hS hl => lv_lookup C.1 C.2.1 hd hp ho ht (h H locs ls hP hD hS hl)
theorem cx_get (C : cx_C p s m args c cc nL own D k) {Cn : String} {T : u_T} {N ci idx a : Nat} {fs : List Value} {v : Value} (hin : ∀ w ∈ u_ws Cn T N, w ∈ cx_G) (hd : decode cc pc = .ok (.getfield idx, 3)) (q0 : Nat) (he : ws[q0]? = some (a, .inr (ci, fs))) (hc : cx_cl[ci]? = some (Cn, T, N)) (j : Nat) (hj : j < N) (hw : Cond.fieldLink own idx (T j).1 (T j).2.1 (T j).2.2.1 ∈ cx_G) (hv : fs[j]? = some v) (h : cx_S p l e R s m args below meth c A D nL cells slots Q (pc + 3) lv (v :: st) ws) : cx_S p l e R s m args below meth c A D nL cells slots Q (pc) lv (.ref a :: st) ws := fun H locs ls hP hD hS hl => va_get (D := D) (cl := cx_cl) C.1 C.2.1 C.2.2.2.2.1 hin C.2.2.2.1 C.2.2.2.2.2.1 hP q0 he hc j hj (C.2.2.2.2.1 _ hw) (fun _ h9 => h9) hv hd (h H locs ls hP hD hS hl)
theorem cx_putf (C : cx_C p s m args c cc nL own D k) {Cn : String} {T : u_T} {N ci idx a : Nat} {fs : List Value} {v : Value} {ty : FieldType} {ws' : va_W} (hin : ∀ w ∈ u_ws Cn T N, w ∈ cx_G) (ty0 : Nat → FieldType) (hty : ∀ k, k < N → parseFieldDescriptor (T k).2.2.1 = some (ty0 k)) (hnm : ∀ a, a < N → ∀ b, b < N → a ≠ b → (T a).2.1 ≠ (T b).2.1) (hd : decode cc pc = .ok (.putfield idx, 3)) (q0 : Nat) (he : ws[q0]? = some (a, .inr (ci, fs))) (hc : cx_cl[ci]? = some (Cn, T, N)) (j : Nat) (hj : j < N) (hw : Cond.fieldLink own idx (T j).1 (T j).2.1 (T j).2.2.1 ∈ cx_G) (hfin : (T j).2.2.2 = false) (hdesc : parseFieldDescriptor (T j).2.2.1 = some ty) (hn : narrow ty v = v) (hfit : fits ty v = true) (hl9 : j < fs.length) (hw' : ws.set q0 (a, .inr (ci, fs.set j v)) = ws') (h : cx_S p l e R s m args below meth c A D nL cells slots Q (pc + 3) lv (st) ws') : cx_S p l e R s m args below meth c A D nL cells slots Q (pc) lv (v :: .ref a :: st) ws := fun H locs ls hP hD hS hl => va_put (D := D) (cl := cx_cl) C.1 C.2.1 C.2.2.2.2.1 hin ty0 hty hnm C.2.2.2.1 C.2.2.2.2.2.1 hP hD hS q0 he hc j hj (C.2.2.2.2.1 _ hw) (fun _ h9 => h9) hfin hdesc hn hfit hl9 hd (fun H1 locs1 p1 d1 s1 => h H1 locs1 ls (hw' ▸ p1) (hw' ▸ d1) s1 hl)
theorem cx_iald (C : cx_C p s m args c cc nL own D k) {a n : Nat} {f : Nat → Int32} {i : Int32} (hd : decode cc pc = .ok (.iaload, 1)) (q0 : Nat) (ha : ws[q0]? = some (a, .inl (k 0, n, .inl f))) (hi : vp_in i n) (h : cx_S p l e R s m args below meth c A D nL cells slots Q (pc + 1) lv (.int (f (cx_ix i)) :: st) ws) : cx_S p l e R s m args below meth c A D nL cells slots Q (pc) lv (.int i :: .ref a :: st) ws := fun H locs ls hP hD hS hl => va_iald (D := D) (cl := cx_cl) C.1 C.2.1 C.2.2.2.2.2.1 hP q0 0 ha rfl hi hd (h H locs ls hP hD hS hl)
theorem cx_lald (C : cx_C p s m args c cc nL own D k) {a n : Nat} {f : Nat → Int64} {i : Int32} (hd : decode cc pc = .ok (.laload, 1)) (q0 : Nat) (ha : ws[q0]? = some (a, .inl (k 1, n, .inr (.inl f)))) (hi : vp_in i n) (h : cx_S p l e R s m args below meth c A D nL cells slots Q (pc + 1) lv (.long (f (cx_ix i)) :: st) ws) : cx_S p l e R s m args below meth c A D nL cells slots Q (pc) lv (.int i :: .ref a :: st) ws := fun H locs ls hP hD hS hl => va_lald (D := D) (cl := cx_cl) C.1 C.2.1 C.2.2.2.2.2.1 hP q0 1 ha rfl hi hd (h H locs ls hP hD hS hl)
theorem cx_cald (C : cx_C p s m args c cc nL own D k) {a n : Nat} {f : Nat → Int32} {i : Int32} (hd : decode cc pc = .ok (.caload, 1)) (q0 : Nat) (ha : ws[q0]? = some (a, .inl (k 2, n, .inl f))) (hi : vp_in i n) (h : cx_S p l e R s m args below meth c A D nL cells slots Q (pc + 1) lv (.int (f (cx_ix i)) :: st) ws) : cx_S p l e R s m args below meth c A D nL cells slots Q (pc) lv (.int i :: .ref a :: st) ws := fun H locs ls hP hD hS hl => va_cald (D := D) (cl := cx_cl) C.1 C.2.1 C.2.2.2.2.2.1 hP q0 2 ha rfl hi hd (h H locs ls hP hD hS hl)
theorem cx_zald (C : cx_C p s m args c cc nL own D k) {a n : Nat} {f : Nat → Int32} {i : Int32} (hd : decode cc pc = .ok (.baload, 1)) (q0 : Nat) (ha : ws[q0]? = some (a, .inl (k 3, n, .inl f))) (hi : vp_in i n) (h : cx_S p l e R s m args below meth c A D nL cells slots Q (pc + 1) lv (.int (f (cx_ix i)) :: st) ws) : cx_S p l e R s m args below meth c A D nL cells slots Q (pc) lv (.int i :: .ref a :: st) ws := fun H locs ls hP hD hS hl => va_zald (D := D) (cl := cx_cl) C.1 C.2.1 C.2.2.2.2.2.1 hP q0 3 ha rfl hi hd (h H locs ls hP hD hS hl)
theorem cx_iast (C : cx_C p s m args c cc nL own D k) {a n : Nat} {f : Nat → Int32} {i : Int32} {x : Int32} {ws' : va_W} (hd : decode cc pc = .ok (.iastore, 1)) (q0 : Nat) (ha : ws[q0]? = some (a, .inl (k 0, n, .inl f))) (hi : vp_in i n) (hw' : ws.set q0 (a, .inl (k 0, n, .inl (upd f (cx_ix i) x))) = ws') (h : cx_S p l e R s m args below meth c A D nL cells slots Q (pc + 1) lv (st) ws') : cx_S p l e R s m args below meth c A D nL cells slots Q (pc) lv (.int x :: .int i :: .ref a :: st) ws := fun H locs ls hP hD hS hl => va_iast (D := D) (cl := cx_cl) C.1 C.2.1 C.2.2.2.2.2.1 hP hD hS q0 0 ha rfl hi hd (fun H1 locs1 p1 d1 s1 => h H1 locs1 ls (hw' ▸ p1) (hw' ▸ d1) s1 hl)
theorem cx_last (C : cx_C p s m args c cc nL own D k) {a n : Nat} {f : Nat → Int64} {i : Int32} {x : Int64} {ws' : va_W} (hd : decode cc pc = .ok (.lastore, 1)) (q0 : Nat) (ha : ws[q0]? = some (a, .inl (k 1, n, .inr (.inl f)))) (hi : vp_in i n) (hw' : ws.set q0 (a, .inl (k 1, n, .inr (.inl (vp_updL f (cx_ix i) x)))) = ws') (h : cx_S p l e R s m args below meth c A D nL cells slots Q (pc + 1) lv (st) ws') : cx_S p l e R s m args below meth c A D nL cells slots Q (pc) lv (.long x :: .int i :: .ref a :: st) ws := fun H locs ls hP hD hS hl => va_last (D := D) (cl := cx_cl) C.1 C.2.1 C.2.2.2.2.2.1 hP hD hS q0 1 ha rfl hi hd (fun H1 locs1 p1 d1 s1 => h H1 locs1 ls (hw' ▸ p1) (hw' ▸ d1) s1 hl)
theorem cx_cast (C : cx_C p s m args c cc nL own D k) {a n : Nat} {f : Nat → Int32} {i : Int32} {x : Int32} {ws' : va_W} (hd : decode cc pc = .ok (.castore, 1)) (q0 : Nat) (ha : ws[q0]? = some (a, .inl (k 2, n, .inl f))) (hi : vp_in i n) (hw' : ws.set q0 (a, .inl (k 2, n, .inl (upd f (cx_ix i) (vp_nar .char x)))) = ws') (h : cx_S p l e R s m args below meth c A D nL cells slots Q (pc + 1) lv (st) ws') : cx_S p l e R s m args below meth c A D nL cells slots Q (pc) lv (.int x :: .int i :: .ref a :: st) ws := fun H locs ls hP hD hS hl => va_cast (D := D) (cl := cx_cl) C.1 C.2.1 C.2.2.2.2.2.1 hP hD hS q0 2 ha rfl hi hd (fun H1 locs1 p1 d1 s1 => h H1 locs1 ls (hw' ▸ p1) (hw' ▸ d1) s1 hl)
theorem cx_zast (C : cx_C p s m args c cc nL own D k) {a n : Nat} {f : Nat → Int32} {i : Int32} {x : Int32} {ws' : va_W} (hd : decode cc pc = .ok (.bastore, 1)) (q0 : Nat) (ha : ws[q0]? = some (a, .inl (k 3, n, .inl f))) (hi : vp_in i n) (hw' : ws.set q0 (a, .inl (k 3, n, .inl (upd f (cx_ix i) (vp_nar .boolean x)))) = ws') (h : cx_S p l e R s m args below meth c A D nL cells slots Q (pc + 1) lv (st) ws') : cx_S p l e R s m args below meth c A D nL cells slots Q (pc) lv (.int x :: .int i :: .ref a :: st) ws := fun H locs ls hP hD hS hl => va_zast (D := D) (cl := cx_cl) C.1 C.2.1 C.2.2.2.2.2.1 hP hD hS q0 3 ha rfl hi hd (fun H1 locs1 p1 d1 s1 => h H1 locs1 ls (hw' ▸ p1) (hw' ▸ d1) s1 hl)
theorem cx_alen (C : cx_C p s m args c cc nL own D k) {a : Nat} {cA : ClassId} {x : vp_A} {ty : FieldType} {v : Int32} (hd : decode cc pc = .ok (.arraylength, 1)) (q0 t0 : Nat) (ha : ws[q0]? = some (a, .inl (cA, x))) (ht : (cx_ty k)[t0]? = some (cA, ty)) (hv : Int32.ofNat x.1 = v) (h : cx_S p l e R s m args below meth c A D nL cells slots Q (pc + 1) lv (.int v :: st) ws) : cx_S p l e R s m args below meth c A D nL cells slots Q (pc) lv (.ref a :: st) ws := fun H locs ls hP hD hS hl => va_alen (D := D) (cl := cx_cl) C.1 C.2.1 C.2.2.2.2.2.1 hP q0 t0 ha ht hv hd (h H locs ls hP hD hS hl)
theorem cx_mmax (C : cx_C p s m args c cc nL own D k) {idx : Nat} {x y : Int32} (hd : decode cc pc = .ok (.invokestatic idx, 3)) (h1 : Cond.methodLink own idx Lib.Math.max.name ∈ cx_G) (h2 : Cond.static Lib.Math.max.name ∈ cx_G) (h3 : Cond.initialized "java/lang/Math" ∈ cx_G) (h4 : Cond.code Lib.Math.max.name Lib.Math.max.code 2 (some .int) ∈ cx_G) (hf : 1 ≤ R.frames) (hlo : (st.map fun v => v.category).sum + 13 ≤ R.locals) (hcs : cells ≤ R.cells ∧ slots ≤ R.slots) (h : cx_S p l e R s m args below meth c A D nL cells slots Q (pc + 3) lv (.int (if x < y then y else x) :: st) ws) : cx_S p l e R s m args below meth c A D nL cells slots Q (pc) lv (.int y :: .int x :: st) ws := fun H locs ls hP hD hS hl => va_mmax C.1 C.2.1 (C.2.2.1.trans hl.1.symm) C.2.2.2.1 (C.2.2.2.2.1 _ h1) (C.2.2.2.2.1 _ h2) (C.2.2.2.2.1 _ h3) (C.2.2.2.2.1 _ h4) hf hlo hcs.1 hcs.2 hd (h H locs ls hP hD hS hl)
theorem cx_mmin (C : cx_C p s m args c cc nL own D k) {idx : Nat} {x y : Int32} (hd : decode cc pc = .ok (.invokestatic idx, 3)) (h1 : Cond.methodLink own idx Lib.Math.min.name ∈ cx_G) (h2 : Cond.static Lib.Math.min.name ∈ cx_G) (h3 : Cond.initialized "java/lang/Math" ∈ cx_G) (h4 : Cond.code Lib.Math.min.name Lib.Math.min.code 2 (some .int) ∈ cx_G) (hf : 1 ≤ R.frames) (hlo : (st.map fun v => v.category).sum + 13 ≤ R.locals) (hcs : cells ≤ R.cells ∧ slots ≤ R.slots) (h : cx_S p l e R s m args below meth c A D nL cells slots Q (pc + 3) lv (.int (if y < x then y else x) :: st) ws) : cx_S p l e R s m args below meth c A D nL cells slots Q (pc) lv (.int y :: .int x :: st) ws := fun H locs ls hP hD hS hl => va_mmin C.1 C.2.1 (C.2.2.1.trans hl.1.symm) C.2.2.2.1 (C.2.2.2.2.1 _ h1) (C.2.2.2.2.1 _ h2) (C.2.2.2.2.1 _ h3) (C.2.2.2.2.1 _ h4) hf hlo hcs.1 hcs.2 hd (h H locs ls hP hD hS hl)
theorem cx_copyi (C : cx_C p s m args c cc nL own D k) {idx a a0 n0 n1 : Nat} {f g : Nat → Int32} {sp dp n : Int32} {ws' : va_W} (hd : decode cc pc = .ok (.invokestatic idx, 3)) (g1 : Cond.methodLink own idx arraycopyName ∈ cx_G) (g2 : Cond.native arraycopyName ∈ cx_G) (g3 : Cond.static arraycopyName ∈ cx_G) (g4 : Cond.initialized "java/lang/System" ∈ cx_G) (q0 q1 : Nat) (ha0 : ws[q0]? = some (a0, .inl (k 0, n0, .inl f))) (ha1 : ws[q1]? = some (a, .inl (k 0, n1, .inl g))) (hb : cx_cb sp dp n n0 n1 = true) (hfit : ∀ (x : Int32), fits .int (.int x) = true) (hf : 1 ≤ R.frames) (hlo : (st.map fun v => v.category).sum + (nativeFrameWords "java/lang/System" "arraycopy" 5 + 11) ≤ R.locals) (hw' : ws.set q1 (a, .inl (k 0, n1, .inl (va_cpy f g sp.toNatClampNeg dp.toNatClampNeg n.toNatClampNeg))) = ws') (h : cx_S p l e R s m args below meth c A D nL cells slots Q (pc + 3) lv (st) ws') : cx_S p l e R s m args below meth c A D nL cells slots Q (pc) lv (.int n :: .int dp :: .ref a :: .int sp :: .ref a0 :: st) ws := fun H locs ls hP hD hS hl => va_copyi (D := D) (cl := cx_cl) C.1 C.2.1 (C.2.2.1.trans hl.1.symm) C.2.2.2.1 (C.2.2.2.2.1 _ g1) (C.2.2.2.2.1 _ g2) (C.2.2.2.2.1 _ g3) (C.2.2.2.2.1 _ g4) C.2.2.2.2.2.1 hP hD hS q0 q1 0 0 ha0 ha1 rfl rfl rfl (cx_cb_at hb).1 (cx_cb_at hb).2.1 (cx_cb_at hb).2.2.1 (cx_cb_at hb).2.2.2.1 (cx_cb_at hb).2.2.2.2 (fun i _ => hfit _) hf hlo hd (fun H1 locs1 p1 d1 s1 => h H1 locs1 ls (hw' ▸ p1) (hw' ▸ d1) s1 hl)
theorem cx_copyl (C : cx_C p s m args c cc nL own D k) {idx a a0 n0 n1 : Nat} {f g : Nat → Int64} {sp dp n : Int32} {ws' : va_W} (hd : decode cc pc = .ok (.invokestatic idx, 3)) (g1 : Cond.methodLink own idx arraycopyName ∈ cx_G) (g2 : Cond.native arraycopyName ∈ cx_G) (g3 : Cond.static arraycopyName ∈ cx_G) (g4 : Cond.initialized "java/lang/System" ∈ cx_G) (q0 q1 : Nat) (ha0 : ws[q0]? = some (a0, .inl (k 1, n0, .inr (.inl f)))) (ha1 : ws[q1]? = some (a, .inl (k 1, n1, .inr (.inl g)))) (hb : cx_cb sp dp n n0 n1 = true) (hfit : ∀ (x : Int64), fits .long (.long x) = true) (hf : 1 ≤ R.frames) (hlo : (st.map fun v => v.category).sum + (nativeFrameWords "java/lang/System" "arraycopy" 5 + 11) ≤ R.locals) (hw' : ws.set q1 (a, .inl (k 1, n1, .inr (.inl (va_cpy f g sp.toNatClampNeg dp.toNatClampNeg n.toNatClampNeg)))) = ws') (h : cx_S p l e R s m args below meth c A D nL cells slots Q (pc + 3) lv (st) ws') : cx_S p l e R s m args below meth c A D nL cells slots Q (pc) lv (.int n :: .int dp :: .ref a :: .int sp :: .ref a0 :: st) ws := fun H locs ls hP hD hS hl => va_copyl (D := D) (cl := cx_cl) C.1 C.2.1 (C.2.2.1.trans hl.1.symm) C.2.2.2.1 (C.2.2.2.2.1 _ g1) (C.2.2.2.2.1 _ g2) (C.2.2.2.2.1 _ g3) (C.2.2.2.2.1 _ g4) C.2.2.2.2.2.1 hP hD hS q0 q1 1 1 ha0 ha1 rfl rfl rfl (cx_cb_at hb).1 (cx_cb_at hb).2.1 (cx_cb_at hb).2.2.1 (cx_cb_at hb).2.2.2.1 (cx_cb_at hb).2.2.2.2 (fun i _ => hfit _) hf hlo hd (fun H1 locs1 p1 d1 s1 => h H1 locs1 ls (hw' ▸ p1) (hw' ▸ d1) s1 hl)
theorem cx_iret (C : cx_C p s m args c cc nL own D k) {v r : Int32} {w0 w1 : va_W} (hA : A = va_A w0 s.heap.size) (hQ : Q = MQ below (cx_Qi D r w0 w1 s.heap.size) args s cells slots (va_A w0 s.heap.size)) (hr : meth.sig.returnType = some .int) (hlocks : meth.locks = false) (hd : decode cc pc = .ok (.ireturn, 1)) (hv : v = r) (hw : ws = w1) : cx_S p l e R s m args below meth c A D nL cells slots Q pc lv [.int v] ws := by
  subst hA hQ
  exact fun H locs ls hP hD hS hl => W.iret C.1 C.2.1 hr (fun t ht _ => ⟨⟨v, (), rfl, hv, by show va_P D cx_cl w1 t.heap; rw [ht, ← hw]; exact hP⟩, hS.F ht⟩) hS.2.2 hd hlocks
theorem cx_lret (C : cx_C p s m args c cc nL own D k) {v r : Int64} {w0 w1 : va_W} (hA : A = va_A w0 s.heap.size) (hQ : Q = MQ below (cx_Ql D r w0 w1 s.heap.size) args s cells slots (va_A w0 s.heap.size)) (hr : meth.sig.returnType = some .long) (hlocks : meth.locks = false) (hd : decode cc pc = .ok (.lreturn, 1)) (hv : v = r) (hw : ws = w1) : cx_S p l e R s m args below meth c A D nL cells slots Q pc lv [.long v] ws := by
  subst hA hQ
  exact fun H locs ls hP hD hS hl => W.lret C.1 C.2.1 hr (fun t ht _ => ⟨⟨v, (), rfl, hv, by show va_P D cx_cl w1 t.heap; rw [ht, ← hw]; exact hP⟩, hS.F ht⟩) hS.2.2 hd hlocks
theorem cx_zret (C : cx_C p s m args c cc nL own D k) {v r : Int32} {w0 w1 : va_W} {ty : FieldType} (hA : A = va_A w0 s.heap.size) (hQ : Q = MQ below (cx_Qi D r w0 w1 s.heap.size) args s cells slots (va_A w0 s.heap.size)) (hr : meth.sig.returnType = some ty) (hlocks : meth.locks = false) (hd : decode cc pc = .ok (.ireturn, 1)) (hn : narrow ty (.int v) = .int v) (hv : v = r) (hw : ws = w1) : cx_S p l e R s m args below meth c A D nL cells slots Q pc lv [.int v] ws := by
  subst hA hQ
  exact fun H locs ls hP hD hS hl => W.zret C.1 C.2.1 hr hn (fun t ht _ => ⟨⟨v, (), rfl, hv, by show va_P D cx_cl w1 t.heap; rw [ht, ← hw]; exact hP⟩, hS.F ht⟩) hS.2.2 hd hlocks
theorem cx_vret (C : cx_C p s m args c cc nL own D k) {w0 w1 : va_W} (hA : A = va_A w0 s.heap.size) (hQ : Q = MQ below (cx_Qv D w0 w1 s.heap.size) args s cells slots (va_A w0 s.heap.size)) (hr : meth.sig.returnType = none) (hlocks : meth.locks = false) (hd : decode cc pc = .ok (.return_, 1)) (hw : ws = w1) : cx_S p l e R s m args below meth c A D nL cells slots Q pc lv [] ws := by
  subst hA hQ
  exact fun H locs ls hP hD hS hl => W.vret C.1 C.2.1 hr (fun t ht _ => ⟨⟨(), rfl, trivial, by show va_P D cx_cl w1 t.heap; rw [ht, ← hw]; exact hP⟩, hS.F ht⟩) hS.2.2 hd hlocks
theorem cx_aret (C : cx_C p s m args c cc nL own D k) {v r : Nat} {w0 w1 : va_W} {cn : String} (hA : A = va_A w0 s.heap.size) (hQ : Q = MQ below (cx_Qr D r w0 w1 s.heap.size) args s cells slots (va_A w0 s.heap.size)) (hr : meth.sig.returnType = some (.object cn)) (hlocks : meth.locks = false) (hd : decode cc pc = .ok (.areturn, 1)) (hv : v = r) (hw : ws = w1) : cx_S p l e R s m args below meth c A D nL cells slots Q pc lv [.ref v] ws := by
  subst hA hQ
  exact fun H locs ls hP hD hS hl => W.aret C.1 C.2.1 hr (Or.inl ⟨_, rfl⟩) (Or.inr ⟨_, rfl⟩) (fun t ht _ => ⟨⟨(), v, rfl, trivial, hv, by show va_P D cx_cl w1 t.heap; rw [ht, ← hw]; exact hP⟩, hS.F ht⟩) hS.2.2 hd hlocks
end CXR
/-- a callee, by its rows of the tables -/
def cx_Me (y : MethodName) (bytes : ByteArray) (maxL : Nat) (ret : Option FieldType) (n : Nat) : Prop := (y.cls ≠ "java/lang/invoke/MethodHandle" ∧ y.cls ≠ "java/lang/invoke/VarHandle" ∧ (parseMethodDescriptor y.desc).map (fun d => d.parameters.length) = some n) ∧ Cond.initialized y.cls ∈ cx_G ∧ Cond.code y bytes maxL ret ∈ cx_G
def cx_Mv (y : MethodName) (bytes : ByteArray) (maxL : Nat) (ret : Option FieldType) (n : Nat) : Prop := cx_Me y bytes maxL ret n ∧ Cond.instanceMethod y ∈ cx_G ∧ Cond.selects y.cls y y ∈ cx_G
def cx_Ms (y : MethodName) (bytes : ByteArray) (maxL : Nat) (ret : Option FieldType) (n : Nat) : Prop := cx_Me y bytes maxL ret n ∧ Cond.static y ∈ cx_G
section CXC
variable {p : Program} {l : Launch} {e : Env} {R : Room} {s : State} {m : MethodId} {args : Array Value} {below : List Frame} {meth : Method} {c : Code} {A : Nat → Prop} {D : va_G} {nL cells slots : Nat} {Q : State → Prop} {cc : ByteArray} {own : String} {k : Nat → ClassId} {pc : Nat} {lv : List (Nat × Value)} {st : List Value} {ws : va_W}
variable {y : MethodName} {bytes : ByteArray} {maxL d idx n2 b ci : Nat} {ret : Option FieldType} {As rest st0 : List Value} {wc w1 ws' : va_W} {is : List Nat} {fs : List Value} {q : vw_C}
theorem cx_callB (C : cx_C p s m args c cc nL own D k) (hy : cx_Me y bytes maxL ret n2) (hl : Cond.methodLink own idx y ∈ cx_G) (hR : d + 1 ≤ R.frames ∧ 8 + (maxL + 11) + 40 * d ≤ R.locals) : CallB R s args own idx y bytes maxL ret (.code y bytes maxL ret :: cx_G) (cx_rm d) 0 0 n2 :=
  callB_of n2 C.2.2.2.2.1 (cx_goodG hy.2.2) rfl rfl rfl (C.2.2.2.2.1 _ hy.2.1) (C.2.2.2.2.1 _ hl) hy.1 hR
theorem cx_pre (C : cx_C p s m args c cc nL own D k) {av : List Value} {H : Heap} (hP : va_P D cx_cl wc H) (hD : va_D A wc) : ∀ U : State, U.heap = H → s.WarmedH U.vm → cx_P D k av wc H.size av.toArray U := fun U hU hW => ⟨rfl, by rw [hU], by rw [hU]; exact hP, C.2.2.2.2.2.warm hW, hD.weaken (fun _ _ _ _ => trivial)⟩
theorem cx_freeC {H0 H : Heap} {locs : List Loc} (hD : va_D A ws) (hS : va_S A H0 H locs) (is : List Nat) (hC : is.map (fun i => ws[i]?) = wc.map some) (hA : ∀ q, H0.size ≤ q → A q) : ∀ q, va_A wc H.size q → A q := va_free hD hS hA is hC
theorem cx_AA {w0 : va_W} {H0 : Heap} : ∀ q, H0.size ≤ q → va_A w0 H0.size q := fun _ h => Or.inr h
theorem cx_cvi {r : Int32} {w0 : va_W}  (hA : A = va_A w0 s.heap.size) (C : cx_C p s m args c cc nL own D k) (hy : cx_Mv y bytes maxL ret n2) (hlk : Cond.methodLink own idx y ∈ cx_G) (hM : cx_M l y bytes maxL ret d D k (.ref b :: As) wc (fun sz => cx_Qi D r wc w1 sz)) (hd : decode cc pc = .ok (.invokevirtual idx, 3)) (hR : d + 1 ≤ R.frames ∧ 8 + (maxL + 11) + 40 * d ≤ R.locals) (hcs : cells ≤ R.cells ∧ slots ≤ R.slots) (hn : As.length = n2) (hst : st0 = As.reverse ++ .ref b :: rest) (hro : (rest.map fun v => v.category).sum ≤ 8) (he : wc[0]? = some (b, .inr (ci, fs))) (hci : cx_cl[ci]? = some (y.cls, q.2)) (is : List Nat) (hC : is.map (fun i => ws[i]?) = wc.map some) (hnd : va_nd is = true) (ha : w1.map Prod.fst = wc.map Prod.fst) (hw' : cx_put ws is w1 = ws') (h : cx_S p l e R s m args below meth c A D nL cells slots Q (pc + 3) lv (.int r :: rest) ws') : cx_S p l e R s m args below meth c A D nL cells slots Q pc lv st0 ws := by
  intro H locs ls hP hD hS hl
  have hPc : va_P D cx_cl wc H := hP.sub is (by
    have e := congrArg (fun z => z.filterMap id) hC
    simpa [List.filterMap_map, Function.comp_def] using e)
  have hDc : va_D A wc := hD.sub is hnd hC
  have hFc := cx_freeC hD hS is hC (fun q h => by rw [hA]; exact Or.inr h)
  refine va_calli (va_runV (As := As) (rest := rest) ⟨C.1, C.2.1, C.2.2.1, C.2.2.2.1, C.2.2.2.2.1⟩ (hM H.size) ⟨cx_callB C hy.1 hlk hR, C.2.2.2.2.1 _ hy.2.1, C.2.2.2.2.1 _ hy.2.2⟩ ⟨cx_P.blind, va_recv C.2.2.2.2.2.1 hPc hci he, cx_pre C hPc hDc⟩ rfl hn hl.1 hst (lv_room hro) hd ⟨hcs.1, hcs.2⟩) hS (fun q _ h => hFc q h) hFc (fun r1 u t H1 locs1 ht _ hw hB _ hk1 hS1 => ?_)
  · subst hw
    obtain ⟨hP2, hD2⟩ := cx_join hP hD is hC ha hk1 (ht ▸ hB)
    rw [hw'] at hP2 hD2
    exact h H1 locs1 ls hP2 hD2 hS1 hl
theorem cx_cvl {r : Int64} {w0 : va_W}  (hA : A = va_A w0 s.heap.size) (C : cx_C p s m args c cc nL own D k) (hy : cx_Mv y bytes maxL ret n2) (hlk : Cond.methodLink own idx y ∈ cx_G) (hM : cx_M l y bytes maxL ret d D k (.ref b :: As) wc (fun sz => cx_Ql D r wc w1 sz)) (hd : decode cc pc = .ok (.invokevirtual idx, 3)) (hR : d + 1 ≤ R.frames ∧ 8 + (maxL + 11) + 40 * d ≤ R.locals) (hcs : cells ≤ R.cells ∧ slots ≤ R.slots) (hn : As.length = n2) (hst : st0 = As.reverse ++ .ref b :: rest) (hro : (rest.map fun v => v.category).sum ≤ 8) (he : wc[0]? = some (b, .inr (ci, fs))) (hci : cx_cl[ci]? = some (y.cls, q.2)) (is : List Nat) (hC : is.map (fun i => ws[i]?) = wc.map some) (hnd : va_nd is = true) (ha : w1.map Prod.fst = wc.map Prod.fst) (hw' : cx_put ws is w1 = ws') (h : cx_S p l e R s m args below meth c A D nL cells slots Q (pc + 3) lv (.long r :: rest) ws') : cx_S p l e R s m args below meth c A D nL cells slots Q pc lv st0 ws := by
  intro H locs ls hP hD hS hl
  have hPc : va_P D cx_cl wc H := hP.sub is (by
    have e := congrArg (fun z => z.filterMap id) hC
    simpa [List.filterMap_map, Function.comp_def] using e)
  have hDc : va_D A wc := hD.sub is hnd hC
  have hFc := cx_freeC hD hS is hC (fun q h => by rw [hA]; exact Or.inr h)
  refine va_calll (va_runV (As := As) (rest := rest) ⟨C.1, C.2.1, C.2.2.1, C.2.2.2.1, C.2.2.2.2.1⟩ (hM H.size) ⟨cx_callB C hy.1 hlk hR, C.2.2.2.2.1 _ hy.2.1, C.2.2.2.2.1 _ hy.2.2⟩ ⟨cx_P.blind, va_recv C.2.2.2.2.2.1 hPc hci he, cx_pre C hPc hDc⟩ rfl hn hl.1 hst (lv_room hro) hd ⟨hcs.1, hcs.2⟩) hS (fun q _ h => hFc q h) hFc (fun r1 u t H1 locs1 ht _ hw hB _ hk1 hS1 => ?_)
  · subst hw
    obtain ⟨hP2, hD2⟩ := cx_join hP hD is hC ha hk1 (ht ▸ hB)
    rw [hw'] at hP2 hD2
    exact h H1 locs1 ls hP2 hD2 hS1 hl
theorem cx_cvv  {w0 : va_W}  (hA : A = va_A w0 s.heap.size) (C : cx_C p s m args c cc nL own D k) (hy : cx_Mv y bytes maxL ret n2) (hlk : Cond.methodLink own idx y ∈ cx_G) (hM : cx_M l y bytes maxL ret d D k (.ref b :: As) wc (fun sz => cx_Qv D wc w1 sz)) (hd : decode cc pc = .ok (.invokevirtual idx, 3)) (hR : d + 1 ≤ R.frames ∧ 8 + (maxL + 11) + 40 * d ≤ R.locals) (hcs : cells ≤ R.cells ∧ slots ≤ R.slots) (hn : As.length = n2) (hst : st0 = As.reverse ++ .ref b :: rest) (hro : (rest.map fun v => v.category).sum ≤ 8) (he : wc[0]? = some (b, .inr (ci, fs))) (hci : cx_cl[ci]? = some (y.cls, q.2)) (is : List Nat) (hC : is.map (fun i => ws[i]?) = wc.map some) (hnd : va_nd is = true) (ha : w1.map Prod.fst = wc.map Prod.fst) (hw' : cx_put ws is w1 = ws') (h : cx_S p l e R s m args below meth c A D nL cells slots Q (pc + 3) lv (rest) ws') : cx_S p l e R s m args below meth c A D nL cells slots Q pc lv st0 ws := by
  intro H locs ls hP hD hS hl
  have hPc : va_P D cx_cl wc H := hP.sub is (by
    have e := congrArg (fun z => z.filterMap id) hC
    simpa [List.filterMap_map, Function.comp_def] using e)
  have hDc : va_D A wc := hD.sub is hnd hC
  have hFc := cx_freeC hD hS is hC (fun q h => by rw [hA]; exact Or.inr h)
  refine va_callv (va_runV (As := As) (rest := rest) ⟨C.1, C.2.1, C.2.2.1, C.2.2.2.1, C.2.2.2.2.1⟩ (hM H.size) ⟨cx_callB C hy.1 hlk hR, C.2.2.2.2.1 _ hy.2.1, C.2.2.2.2.1 _ hy.2.2⟩ ⟨cx_P.blind, va_recv C.2.2.2.2.2.1 hPc hci he, cx_pre C hPc hDc⟩ rfl hn hl.1 hst (lv_room hro) hd ⟨hcs.1, hcs.2⟩) hS (fun q _ h => hFc q h) hFc (fun u t H1 locs1 ht _ hw hB _ hk1 hS1 => ?_)
  · obtain ⟨hP2, hD2⟩ := cx_join hP hD is hC ha hk1 (ht ▸ hB)
    rw [hw'] at hP2 hD2
    exact h H1 locs1 ls hP2 hD2 hS1 hl
theorem cx_cvr {r : Nat} {w0 : va_W}  (hA : A = va_A w0 s.heap.size) (C : cx_C p s m args c cc nL own D k) (hy : cx_Mv y bytes maxL ret n2) (hlk : Cond.methodLink own idx y ∈ cx_G) (hM : cx_M l y bytes maxL ret d D k (.ref b :: As) wc (fun sz => cx_Qr D r wc w1 sz)) (hd : decode cc pc = .ok (.invokevirtual idx, 3)) (hR : d + 1 ≤ R.frames ∧ 8 + (maxL + 11) + 40 * d ≤ R.locals) (hcs : cells ≤ R.cells ∧ slots ≤ R.slots) (hn : As.length = n2) (hst : st0 = As.reverse ++ .ref b :: rest) (hro : (rest.map fun v => v.category).sum ≤ 8) (he : wc[0]? = some (b, .inr (ci, fs))) (hci : cx_cl[ci]? = some (y.cls, q.2)) (is : List Nat) (hC : is.map (fun i => ws[i]?) = wc.map some) (hnd : va_nd is = true) (ha : w1.map Prod.fst = wc.map Prod.fst) (hw' : cx_put ws is w1 = ws') (h : cx_S p l e R s m args below meth c A D nL cells slots Q (pc + 3) lv (.ref r :: rest) ws') : cx_S p l e R s m args below meth c A D nL cells slots Q pc lv st0 ws := by
  intro H locs ls hP hD hS hl
  have hPc : va_P D cx_cl wc H := hP.sub is (by
    have e := congrArg (fun z => z.filterMap id) hC
    simpa [List.filterMap_map, Function.comp_def] using e)
  have hDc : va_D A wc := hD.sub is hnd hC
  have hFc := cx_freeC hD hS is hC (fun q h => by rw [hA]; exact Or.inr h)
  refine va_callr (va_runV (As := As) (rest := rest) ⟨C.1, C.2.1, C.2.2.1, C.2.2.2.1, C.2.2.2.2.1⟩ (hM H.size) ⟨cx_callB C hy.1 hlk hR, C.2.2.2.2.1 _ hy.2.1, C.2.2.2.2.1 _ hy.2.2⟩ ⟨cx_P.blind, va_recv C.2.2.2.2.2.1 hPc hci he, cx_pre C hPc hDc⟩ rfl hn hl.1 hst (lv_room hro) hd ⟨hcs.1, hcs.2⟩) hS (fun q _ h => hFc q h) hFc (fun u ra t H1 locs1 ht _ hw hB _ hk1 hS1 => ?_)
  · obtain ⟨hra, hB⟩ := hB
    subst hra
    obtain ⟨hP2, hD2⟩ := cx_join hP hD is hC ha hk1 (ht ▸ hB)
    rw [hw'] at hP2 hD2
    exact h H1 locs1 ls hP2 hD2 hS1 hl
theorem cx_csi {r : Int32} {w0 : va_W}  (hA : A = va_A w0 s.heap.size) (C : cx_C p s m args c cc nL own D k) (hy : cx_Ms y bytes maxL ret n2) (hlk : Cond.methodLink own idx y ∈ cx_G) (hM : cx_M l y bytes maxL ret d D k (As) wc (fun sz => cx_Qi D r wc w1 sz)) (hd : decode cc pc = .ok (.invokestatic idx, 3)) (hR : d + 1 ≤ R.frames ∧ 8 + (maxL + 11) + 40 * d ≤ R.locals) (hcs : cells ≤ R.cells ∧ slots ≤ R.slots) (hn : As.length = n2) (hst : st0 = As.reverse ++ rest) (hro : (rest.map fun v => v.category).sum ≤ 8)  (is : List Nat) (hC : is.map (fun i => ws[i]?) = wc.map some) (hnd : va_nd is = true) (ha : w1.map Prod.fst = wc.map Prod.fst) (hw' : cx_put ws is w1 = ws') (h : cx_S p l e R s m args below meth c A D nL cells slots Q (pc + 3) lv (.int r :: rest) ws') : cx_S p l e R s m args below meth c A D nL cells slots Q pc lv st0 ws := by
  intro H locs ls hP hD hS hl
  have hPc : va_P D cx_cl wc H := hP.sub is (by
    have e := congrArg (fun z => z.filterMap id) hC
    simpa [List.filterMap_map, Function.comp_def] using e)
  have hDc : va_D A wc := hD.sub is hnd hC
  have hFc := cx_freeC hD hS is hC (fun q h => by rw [hA]; exact Or.inr h)
  refine va_calli (va_runS (As := As) (rest := rest) ⟨C.1, C.2.1, C.2.2.1, C.2.2.2.1, C.2.2.2.2.1⟩ (hM H.size) ⟨cx_callB C hy.1 hlk hR, C.2.2.2.2.1 _ hy.2⟩ ⟨cx_P.blind, cx_pre C hPc hDc⟩ rfl hn hl.1 hst (lv_room hro) hd ⟨hcs.1, hcs.2⟩) hS (fun q _ h => hFc q h) hFc (fun r1 u t H1 locs1 ht _ hw hB _ hk1 hS1 => ?_)
  · subst hw
    obtain ⟨hP2, hD2⟩ := cx_join hP hD is hC ha hk1 (ht ▸ hB)
    rw [hw'] at hP2 hD2
    exact h H1 locs1 ls hP2 hD2 hS1 hl
theorem cx_csl {r : Int64} {w0 : va_W}  (hA : A = va_A w0 s.heap.size) (C : cx_C p s m args c cc nL own D k) (hy : cx_Ms y bytes maxL ret n2) (hlk : Cond.methodLink own idx y ∈ cx_G) (hM : cx_M l y bytes maxL ret d D k (As) wc (fun sz => cx_Ql D r wc w1 sz)) (hd : decode cc pc = .ok (.invokestatic idx, 3)) (hR : d + 1 ≤ R.frames ∧ 8 + (maxL + 11) + 40 * d ≤ R.locals) (hcs : cells ≤ R.cells ∧ slots ≤ R.slots) (hn : As.length = n2) (hst : st0 = As.reverse ++ rest) (hro : (rest.map fun v => v.category).sum ≤ 8)  (is : List Nat) (hC : is.map (fun i => ws[i]?) = wc.map some) (hnd : va_nd is = true) (ha : w1.map Prod.fst = wc.map Prod.fst) (hw' : cx_put ws is w1 = ws') (h : cx_S p l e R s m args below meth c A D nL cells slots Q (pc + 3) lv (.long r :: rest) ws') : cx_S p l e R s m args below meth c A D nL cells slots Q pc lv st0 ws := by
  intro H locs ls hP hD hS hl
  have hPc : va_P D cx_cl wc H := hP.sub is (by
    have e := congrArg (fun z => z.filterMap id) hC
    simpa [List.filterMap_map, Function.comp_def] using e)
  have hDc : va_D A wc := hD.sub is hnd hC
  have hFc := cx_freeC hD hS is hC (fun q h => by rw [hA]; exact Or.inr h)
  refine va_calll (va_runS (As := As) (rest := rest) ⟨C.1, C.2.1, C.2.2.1, C.2.2.2.1, C.2.2.2.2.1⟩ (hM H.size) ⟨cx_callB C hy.1 hlk hR, C.2.2.2.2.1 _ hy.2⟩ ⟨cx_P.blind, cx_pre C hPc hDc⟩ rfl hn hl.1 hst (lv_room hro) hd ⟨hcs.1, hcs.2⟩) hS (fun q _ h => hFc q h) hFc (fun r1 u t H1 locs1 ht _ hw hB _ hk1 hS1 => ?_)
  · subst hw
    obtain ⟨hP2, hD2⟩ := cx_join hP hD is hC ha hk1 (ht ▸ hB)
    rw [hw'] at hP2 hD2
    exact h H1 locs1 ls hP2 hD2 hS1 hl
theorem cx_csv  {w0 : va_W}  (hA : A = va_A w0 s.heap.size) (C : cx_C p s m args c cc nL own D k) (hy : cx_Ms y bytes maxL ret n2) (hlk : Cond.methodLink own idx y ∈ cx_G) (hM : cx_M l y bytes maxL ret d D k (As) wc (fun sz => cx_Qv D wc w1 sz)) (hd : decode cc pc = .ok (.invokestatic idx, 3)) (hR : d + 1 ≤ R.frames ∧ 8 + (maxL + 11) + 40 * d ≤ R.locals) (hcs : cells ≤ R.cells ∧ slots ≤ R.slots) (hn : As.length = n2) (hst : st0 = As.reverse ++ rest) (hro : (rest.map fun v => v.category).sum ≤ 8)  (is : List Nat) (hC : is.map (fun i => ws[i]?) = wc.map some) (hnd : va_nd is = true) (ha : w1.map Prod.fst = wc.map Prod.fst) (hw' : cx_put ws is w1 = ws') (h : cx_S p l e R s m args below meth c A D nL cells slots Q (pc + 3) lv (rest) ws') : cx_S p l e R s m args below meth c A D nL cells slots Q pc lv st0 ws := by
  intro H locs ls hP hD hS hl
  have hPc : va_P D cx_cl wc H := hP.sub is (by
    have e := congrArg (fun z => z.filterMap id) hC
    simpa [List.filterMap_map, Function.comp_def] using e)
  have hDc : va_D A wc := hD.sub is hnd hC
  have hFc := cx_freeC hD hS is hC (fun q h => by rw [hA]; exact Or.inr h)
  refine va_callv (va_runS (As := As) (rest := rest) ⟨C.1, C.2.1, C.2.2.1, C.2.2.2.1, C.2.2.2.2.1⟩ (hM H.size) ⟨cx_callB C hy.1 hlk hR, C.2.2.2.2.1 _ hy.2⟩ ⟨cx_P.blind, cx_pre C hPc hDc⟩ rfl hn hl.1 hst (lv_room hro) hd ⟨hcs.1, hcs.2⟩) hS (fun q _ h => hFc q h) hFc (fun u t H1 locs1 ht _ hw hB _ hk1 hS1 => ?_)
  · obtain ⟨hP2, hD2⟩ := cx_join hP hD is hC ha hk1 (ht ▸ hB)
    rw [hw'] at hP2 hD2
    exact h H1 locs1 ls hP2 hD2 hS1 hl
theorem cx_cni {r : Int32} {w0 : va_W} {host : String} (hA : A = va_A w0 s.heap.size) (C : cx_C p s m args c cc nL own D k) (hy : cx_Ms y bytes maxL ret n2) (hlk : ∀ {U : State}, cx_N U → va_Nw (.methodLinkNest own idx y host) U) (hM : cx_M l y bytes maxL ret d D k (As) wc (fun sz => cx_Qi D r wc w1 sz)) (hd : decode cc pc = .ok (.invokestatic idx, 3)) (hR : d + 1 ≤ R.frames ∧ 8 + (maxL + 11) + 40 * d ≤ R.locals) (hcs : cells ≤ R.cells ∧ slots ≤ R.slots) (hn : As.length = n2) (hst : st0 = As.reverse ++ rest) (hro : (rest.map fun v => v.category).sum ≤ 8)  (is : List Nat) (hC : is.map (fun i => ws[i]?) = wc.map some) (hnd : va_nd is = true) (ha : w1.map Prod.fst = wc.map Prod.fst) (hw' : cx_put ws is w1 = ws') (h : cx_S p l e R s m args below meth c A D nL cells slots Q (pc + 3) lv (.int r :: rest) ws') : cx_S p l e R s m args below meth c A D nL cells slots Q pc lv st0 ws := by
  intro H locs ls hP hD hS hl
  have hPc : va_P D cx_cl wc H := hP.sub is (by
    have e := congrArg (fun z => z.filterMap id) hC
    simpa [List.filterMap_map, Function.comp_def] using e)
  have hDc : va_D A wc := hD.sub is hnd hC
  have hFc := cx_freeC hD hS is hC (fun q h => by rw [hA]; exact Or.inr h)
  refine va_calli (va_runSN (As := As) (rest := rest) (host := host) ⟨C.1, C.2.1, C.2.2.1, C.2.2.2.1, C.2.2.2.2.1⟩ (hM H.size) ⟨va_cnB n2 C.2.2.2.2.1 (cx_goodG hy.1.2.2) rfl rfl rfl (hlk C.2.2.2.2.2.2) (C.2.2.2.2.1 _ hy.1.2.1) hy.1.1 hR, C.2.2.2.2.1 _ hy.2, trivial⟩ ⟨cx_P.blind, cx_pre C hPc hDc⟩ rfl hn hl.1 hst (lv_room hro) hd ⟨hcs.1, hcs.2⟩) hS (fun q _ h => hFc q h) hFc (fun r1 u t H1 locs1 ht _ hw hB _ hk1 hS1 => ?_)
  · subst hw
    obtain ⟨hP2, hD2⟩ := cx_join hP hD is hC ha hk1 (ht ▸ hB)
    rw [hw'] at hP2 hD2
    exact h H1 locs1 ls hP2 hD2 hS1 hl
theorem cx_cnl {r : Int64} {w0 : va_W} {host : String} (hA : A = va_A w0 s.heap.size) (C : cx_C p s m args c cc nL own D k) (hy : cx_Ms y bytes maxL ret n2) (hlk : ∀ {U : State}, cx_N U → va_Nw (.methodLinkNest own idx y host) U) (hM : cx_M l y bytes maxL ret d D k (As) wc (fun sz => cx_Ql D r wc w1 sz)) (hd : decode cc pc = .ok (.invokestatic idx, 3)) (hR : d + 1 ≤ R.frames ∧ 8 + (maxL + 11) + 40 * d ≤ R.locals) (hcs : cells ≤ R.cells ∧ slots ≤ R.slots) (hn : As.length = n2) (hst : st0 = As.reverse ++ rest) (hro : (rest.map fun v => v.category).sum ≤ 8)  (is : List Nat) (hC : is.map (fun i => ws[i]?) = wc.map some) (hnd : va_nd is = true) (ha : w1.map Prod.fst = wc.map Prod.fst) (hw' : cx_put ws is w1 = ws') (h : cx_S p l e R s m args below meth c A D nL cells slots Q (pc + 3) lv (.long r :: rest) ws') : cx_S p l e R s m args below meth c A D nL cells slots Q pc lv st0 ws := by
  intro H locs ls hP hD hS hl
  have hPc : va_P D cx_cl wc H := hP.sub is (by
    have e := congrArg (fun z => z.filterMap id) hC
    simpa [List.filterMap_map, Function.comp_def] using e)
  have hDc : va_D A wc := hD.sub is hnd hC
  have hFc := cx_freeC hD hS is hC (fun q h => by rw [hA]; exact Or.inr h)
  refine va_calll (va_runSN (As := As) (rest := rest) (host := host) ⟨C.1, C.2.1, C.2.2.1, C.2.2.2.1, C.2.2.2.2.1⟩ (hM H.size) ⟨va_cnB n2 C.2.2.2.2.1 (cx_goodG hy.1.2.2) rfl rfl rfl (hlk C.2.2.2.2.2.2) (C.2.2.2.2.1 _ hy.1.2.1) hy.1.1 hR, C.2.2.2.2.1 _ hy.2, trivial⟩ ⟨cx_P.blind, cx_pre C hPc hDc⟩ rfl hn hl.1 hst (lv_room hro) hd ⟨hcs.1, hcs.2⟩) hS (fun q _ h => hFc q h) hFc (fun r1 u t H1 locs1 ht _ hw hB _ hk1 hS1 => ?_)
  · subst hw
    obtain ⟨hP2, hD2⟩ := cx_join hP hD is hC ha hk1 (ht ▸ hB)
    rw [hw'] at hP2 hD2
    exact h H1 locs1 ls hP2 hD2 hS1 hl
theorem cx_cnv  {w0 : va_W} {host : String} (hA : A = va_A w0 s.heap.size) (C : cx_C p s m args c cc nL own D k) (hy : cx_Ms y bytes maxL ret n2) (hlk : ∀ {U : State}, cx_N U → va_Nw (.methodLinkNest own idx y host) U) (hM : cx_M l y bytes maxL ret d D k (As) wc (fun sz => cx_Qv D wc w1 sz)) (hd : decode cc pc = .ok (.invokestatic idx, 3)) (hR : d + 1 ≤ R.frames ∧ 8 + (maxL + 11) + 40 * d ≤ R.locals) (hcs : cells ≤ R.cells ∧ slots ≤ R.slots) (hn : As.length = n2) (hst : st0 = As.reverse ++ rest) (hro : (rest.map fun v => v.category).sum ≤ 8)  (is : List Nat) (hC : is.map (fun i => ws[i]?) = wc.map some) (hnd : va_nd is = true) (ha : w1.map Prod.fst = wc.map Prod.fst) (hw' : cx_put ws is w1 = ws') (h : cx_S p l e R s m args below meth c A D nL cells slots Q (pc + 3) lv (rest) ws') : cx_S p l e R s m args below meth c A D nL cells slots Q pc lv st0 ws := by
  intro H locs ls hP hD hS hl
  have hPc : va_P D cx_cl wc H := hP.sub is (by
    have e := congrArg (fun z => z.filterMap id) hC
    simpa [List.filterMap_map, Function.comp_def] using e)
  have hDc : va_D A wc := hD.sub is hnd hC
  have hFc := cx_freeC hD hS is hC (fun q h => by rw [hA]; exact Or.inr h)
  refine va_callv (va_runSN (As := As) (rest := rest) (host := host) ⟨C.1, C.2.1, C.2.2.1, C.2.2.2.1, C.2.2.2.2.1⟩ (hM H.size) ⟨va_cnB n2 C.2.2.2.2.1 (cx_goodG hy.1.2.2) rfl rfl rfl (hlk C.2.2.2.2.2.2) (C.2.2.2.2.1 _ hy.1.2.1) hy.1.1 hR, C.2.2.2.2.1 _ hy.2, trivial⟩ ⟨cx_P.blind, cx_pre C hPc hDc⟩ rfl hn hl.1 hst (lv_room hro) hd ⟨hcs.1, hcs.2⟩) hS (fun q _ h => hFc q h) hFc (fun u t H1 locs1 ht _ hw hB _ hk1 hS1 => ?_)
  · obtain ⟨hP2, hD2⟩ := cx_join hP hD is hC ha hk1 (ht ▸ hB)
    rw [hw'] at hP2 hD2
    exact h H1 locs1 ls hP2 hD2 hS1 hl
end CXC
end
section
theorem cx_t1 {w : Cond} (i : Nat) (h9 : tables_1_1[i]? = some w) (hg : goodWord w = true) : w ∈ cx_G := cx_inW (List.mem_append_right _ (by have h := List.mem_of_getElem? h9; exact List.mem_append_left _ h)) hg
theorem cx_t2 {w : Cond} (i : Nat) (h9 : tables_1_2[i]? = some w) (hg : goodWord w = true) : w ∈ cx_G := cx_inW (List.mem_append_right _ (by have h := List.mem_of_getElem? h9; exact List.mem_append_right _ (List.mem_append_left _ h))) hg
theorem cx_t3 {w : Cond} (i : Nat) (h9 : tables_1_3[i]? = some w) (hg : goodWord w = true) : w ∈ cx_G := cx_inW (List.mem_append_right _ (by have h := List.mem_of_getElem? h9; exact List.mem_append_right _ (List.mem_append_right _ (List.mem_append_left _ h)))) hg
theorem cx_t4 {w : Cond} (i : Nat) (h9 : tables_1_4[i]? = some w) (hg : goodWord w = true) : w ∈ cx_G := cx_inW (List.mem_append_right _ (by have h := List.mem_of_getElem? h9; exact List.mem_append_right _ (List.mem_append_right _ (List.mem_append_right _ (List.mem_append_left _ h))))) hg
theorem cx_t5 {w : Cond} (i : Nat) (h9 : tables_1_5[i]? = some w) (hg : goodWord w = true) : w ∈ cx_G := cx_inW (List.mem_append_right _ (by have h := List.mem_of_getElem? h9; exact List.mem_append_right _ (List.mem_append_right _ (List.mem_append_right _ (List.mem_append_right _ (List.mem_append_left _ h)))))) hg
theorem cx_t6 {w : Cond} (i : Nat) (h9 : tables_1_6[i]? = some w) (hg : goodWord w = true) : w ∈ cx_G := cx_inW (List.mem_append_right _ (by have h := List.mem_of_getElem? h9; exact List.mem_append_right _ (List.mem_append_right _ (List.mem_append_right _ (List.mem_append_right _ (List.mem_append_right _ (List.mem_append_left _ h))))))) hg
theorem cx_t7 {w : Cond} (i : Nat) (h9 : tables_1_7[i]? = some w) (hg : goodWord w = true) : w ∈ cx_G := cx_inW (List.mem_append_right _ (by have h := List.mem_of_getElem? h9; exact List.mem_append_right _ (List.mem_append_right _ (List.mem_append_right _ (List.mem_append_right _ (List.mem_append_right _ (List.mem_append_right _ (h)))))))) hg
theorem hs_0 : Cond.selects "NamelessBox" ⟨"NamelessBox", "told", "(I)I"⟩ ⟨"NamelessBox", "told", "(I)I"⟩ ∈ cx_G := cx_in 0 (by decide +kernel) rfl
theorem hs_1 : Cond.selects "NamelessBox" ⟨"NamelessBox", "refused", "(I)I"⟩ ⟨"NamelessBox", "refused", "(I)I"⟩ ∈ cx_G := cx_in 1 (by decide +kernel) rfl
theorem hs_2 : Cond.selects "NamelessBox$Box" ⟨"NamelessBox$Box", "mayBeParent", "(II)Z"⟩ ⟨"NamelessBox$Box", "mayBeParent", "(II)Z"⟩ ∈ cx_G := cx_in 2 (by decide +kernel) rfl
theorem hs_3 : Cond.selects "NamelessBox" ⟨"NamelessBox", "isWho", "(I)Z"⟩ ⟨"NamelessBox", "isWho", "(I)Z"⟩ ∈ cx_G := cx_in 3 (by decide +kernel) rfl
theorem hs_4 : Cond.selects "NamelessBox$Text" ⟨"NamelessBox$Text", "advance", "()I"⟩ ⟨"NamelessBox$Text", "advance", "()I"⟩ ∈ cx_G := cx_in 4 (by decide +kernel) rfl
theorem hs_5 : Cond.selects "NamelessBox$Text" ⟨"NamelessBox$Text", "takeItem", "(I)Z"⟩ ⟨"NamelessBox$Text", "takeItem", "(I)Z"⟩ ∈ cx_G := cx_in 5 (by decide +kernel) rfl
theorem hs_6 : Cond.selects "NamelessBox$Text" ⟨"NamelessBox$Text", "itemOf", "()I"⟩ ⟨"NamelessBox$Text", "itemOf", "()I"⟩ ∈ cx_G := cx_in 6 (by decide +kernel) rfl
theorem hs_7 : Cond.selects "NamelessBox$Text" ⟨"NamelessBox$Text", "isWord", "(Ljava/lang/String;)Z"⟩ ⟨"NamelessBox$Text", "isWord", "(Ljava/lang/String;)Z"⟩ ∈ cx_G := cx_in 7 (by decide +kernel) rfl
theorem hs_8 : Cond.selects "NamelessBox$Text" ⟨"NamelessBox$Text", "numberOf", "()I"⟩ ⟨"NamelessBox$Text", "numberOf", "()I"⟩ ∈ cx_G := cx_in 8 (by decide +kernel) rfl
theorem hs_9 : Cond.selects "NamelessBox$Text" ⟨"NamelessBox$Text", "tellItem", "(LNamelessBox$Box;)I"⟩ ⟨"NamelessBox$Text", "tellItem", "(LNamelessBox$Box;)I"⟩ ∈ cx_G := cx_in 9 (by decide +kernel) rfl
theorem hs_10 : Cond.selects "NamelessBox" ⟨"NamelessBox", "anyWay", "(I)Z"⟩ ⟨"NamelessBox", "anyWay", "(I)Z"⟩ ∈ cx_G := cx_in 10 (by decide +kernel) rfl
theorem hs_11 : Cond.selects "NamelessBox$Ways" ⟨"NamelessBox$Ways", "placeHeads", "()V"⟩ ⟨"NamelessBox$Ways", "placeHeads", "()V"⟩ ∈ cx_G := cx_in 11 (by decide +kernel) rfl
theorem hs_12 : Cond.selects "NamelessBox$Ways" ⟨"NamelessBox$Ways", "planLikes", "(II)V"⟩ ⟨"NamelessBox$Ways", "planLikes", "(II)V"⟩ ∈ cx_G := cx_in 12 (by decide +kernel) rfl
theorem hs_13 : Cond.selects "NamelessBox$Ways" ⟨"NamelessBox$Ways", "planNamings", "(II)V"⟩ ⟨"NamelessBox$Ways", "planNamings", "(II)V"⟩ ∈ cx_G := cx_in 13 (by decide +kernel) rfl
theorem hs_14 : Cond.selects "NamelessBox$Ways" ⟨"NamelessBox$Ways", "takeEmptyPictures", "()V"⟩ ⟨"NamelessBox$Ways", "takeEmptyPictures", "()V"⟩ ∈ cx_G := cx_in 14 (by decide +kernel) rfl
theorem hs_15 : Cond.selects "NamelessBox$Ways" ⟨"NamelessBox$Ways", "yearsInOrder", "()J"⟩ ⟨"NamelessBox$Ways", "yearsInOrder", "()J"⟩ ∈ cx_G := cx_in 15 (by decide +kernel) rfl
theorem hs_16 : Cond.selects "NamelessBox$Ways" ⟨"NamelessBox$Ways", "descend", "(II)V"⟩ ⟨"NamelessBox$Ways", "descend", "(II)V"⟩ ∈ cx_G := cx_in 16 (by decide +kernel) rfl
theorem hs_17 : Cond.selects "NamelessBox$Ways" ⟨"NamelessBox$Ways", "goesOn", "(II)Z"⟩ ⟨"NamelessBox$Ways", "goesOn", "(II)Z"⟩ ∈ cx_G := cx_in 17 (by decide +kernel) rfl
theorem hs_18 : Cond.selects "NamelessBox$Ways" ⟨"NamelessBox$Ways", "isThereAlready", "(II)Z"⟩ ⟨"NamelessBox$Ways", "isThereAlready", "(II)Z"⟩ ∈ cx_G := cx_in 18 (by decide +kernel) rfl
theorem hs_19 : Cond.selects "NamelessBox$Ways" ⟨"NamelessBox$Ways", "joinings", "(II)I"⟩ ⟨"NamelessBox$Ways", "joinings", "(II)I"⟩ ∈ cx_G := cx_in 19 (by decide +kernel) rfl
theorem hs_20 : Cond.selects "NamelessBox$Ways" ⟨"NamelessBox$Ways", "takings", "(II)J"⟩ ⟨"NamelessBox$Ways", "takings", "(II)J"⟩ ∈ cx_G := cx_in 20 (by decide +kernel) rfl
theorem hs_21 : Cond.selects "NamelessBox$Ways" ⟨"NamelessBox$Ways", "sumYears", "(II)J"⟩ ⟨"NamelessBox$Ways", "sumYears", "(II)J"⟩ ∈ cx_G := cx_in 21 (by decide +kernel) rfl
theorem hs_22 : Cond.selects "NamelessBox$Ways" ⟨"NamelessBox$Ways", "multiplyYears", "(II)Z"⟩ ⟨"NamelessBox$Ways", "multiplyYears", "(II)Z"⟩ ∈ cx_G := cx_in 22 (by decide +kernel) rfl
theorem hs_23 : Cond.selects "NamelessBox$Ways" ⟨"NamelessBox$Ways", "areBothTold", "(I)Z"⟩ ⟨"NamelessBox$Ways", "areBothTold", "(I)Z"⟩ ∈ cx_G := cx_in 23 (by decide +kernel) rfl
theorem hs_24 : Cond.selects "NamelessBox$Ways" ⟨"NamelessBox$Ways", "gather", "(II)V"⟩ ⟨"NamelessBox$Ways", "gather", "(II)V"⟩ ∈ cx_G := cx_in 24 (by decide +kernel) rfl
theorem hs_25 : Cond.selects "NamelessBox" ⟨"NamelessBox", "share", "([JI)I"⟩ ⟨"NamelessBox", "share", "([JI)I"⟩ ∈ cx_G := cx_in 25 (by decide +kernel) rfl
theorem hs_26 : Cond.selects "NamelessBox$Fraction" ⟨"NamelessBox$Fraction", "halveBoth", "()V"⟩ ⟨"NamelessBox$Fraction", "halveBoth", "()V"⟩ ∈ cx_G := cx_in 26 (by decide +kernel) rfl
theorem hs_27 : Cond.selects "NamelessBox$Fraction" ⟨"NamelessBox$Fraction", "findOddDivisor", "()V"⟩ ⟨"NamelessBox$Fraction", "findOddDivisor", "()V"⟩ ∈ cx_G := cx_in 27 (by decide +kernel) rfl
theorem hs_28 : Cond.selects "NamelessBox" ⟨"NamelessBox", "staysSure", "(II)Z"⟩ ⟨"NamelessBox", "staysSure", "(II)Z"⟩ ∈ cx_G := cx_in 28 (by decide +kernel) rfl
theorem hs_29 : Cond.selects "NamelessBox" ⟨"NamelessBox", "answerShare", "()I"⟩ ⟨"NamelessBox", "answerShare", "()I"⟩ ∈ cx_G := cx_in 29 (by decide +kernel) rfl
theorem hs_30 : Cond.selects "NamelessBox" ⟨"NamelessBox", "addStrangerBeside", "(II)V"⟩ ⟨"NamelessBox", "addStrangerBeside", "(II)V"⟩ ∈ cx_G := cx_in 30 (by decide +kernel) rfl
theorem hs_31 : Cond.selects "NamelessBox" ⟨"NamelessBox", "isYearOf", "(II)Z"⟩ ⟨"NamelessBox", "isYearOf", "(II)Z"⟩ ∈ cx_G := cx_in 31 (by decide +kernel) rfl
theorem hs_32 : Cond.selects "NamelessBox" ⟨"NamelessBox", "areTwoPeople", "(II)Z"⟩ ⟨"NamelessBox", "areTwoPeople", "(II)Z"⟩ ∈ cx_G := cx_in 32 (by decide +kernel) rfl
theorem hs_33 : Cond.selects "NamelessBox$Aunt" ⟨"NamelessBox$Aunt", "planWrongly", "(II)V"⟩ ⟨"NamelessBox$Aunt", "planWrongly", "(II)V"⟩ ∈ cx_G := cx_in 33 (by decide +kernel) rfl
theorem hs_34 : Cond.selects "NamelessBox$Aunt" ⟨"NamelessBox$Aunt", "addBehind", "(II)V"⟩ ⟨"NamelessBox$Aunt", "addBehind", "(II)V"⟩ ∈ cx_G := cx_in 34 (by decide +kernel) rfl
theorem hs_35 : Cond.selects "NamelessBox" ⟨"NamelessBox", "imageOf", "(I)LNamelessBox$Box;"⟩ ⟨"NamelessBox", "imageOf", "(I)LNamelessBox$Box;"⟩ ∈ cx_G := cx_in 35 (by decide +kernel) rfl
theorem hs_36 : Cond.selects "NamelessBox" ⟨"NamelessBox", "howMany", "(I)I"⟩ ⟨"NamelessBox", "howMany", "(I)I"⟩ ∈ cx_G := cx_in 36 (by decide +kernel) rfl
theorem hs_37 : Cond.selects "NamelessBoxModel" ⟨"NamelessBoxModel", "sets", "(IJ)V"⟩ ⟨"NamelessBoxModel", "sets", "(IJ)V"⟩ ∈ cx_G := cx_in 37 (by decide +kernel) rfl
theorem hs_38 : Cond.selects "NamelessBoxModel" ⟨"NamelessBoxModel", "trims", "(I)V"⟩ ⟨"NamelessBoxModel", "trims", "(I)V"⟩ ∈ cx_G := cx_in 38 (by decide +kernel) rfl
theorem hs_39 : Cond.selects "NamelessBoxModel" ⟨"NamelessBoxModel", "bad", "()I"⟩ ⟨"NamelessBoxModel", "bad", "()I"⟩ ∈ cx_G := cx_in 39 (by decide +kernel) rfl
theorem hs_40 : Cond.selects "NamelessBoxModel" ⟨"NamelessBoxModel", "refuses", "(II)I"⟩ ⟨"NamelessBoxModel", "refuses", "(II)I"⟩ ∈ cx_G := cx_in 40 (by decide +kernel) rfl
theorem hs_41 : Cond.selects "NamelessBoxModel" ⟨"NamelessBoxModel", "full", "()I"⟩ ⟨"NamelessBoxModel", "full", "()I"⟩ ∈ cx_G := cx_in 41 (by decide +kernel) rfl
theorem hs_42 : Cond.selects "NamelessBoxModel" ⟨"NamelessBoxModel", "isPerson", "(I)Z"⟩ ⟨"NamelessBoxModel", "isPerson", "(I)Z"⟩ ∈ cx_G := cx_in 42 (by decide +kernel) rfl
theorem hs_43 : Cond.selects "NamelessBoxModel" ⟨"NamelessBoxModel", "ofPerson", "(II)I"⟩ ⟨"NamelessBoxModel", "ofPerson", "(II)I"⟩ ∈ cx_G := cx_in 43 (by decide +kernel) rfl
theorem hs_44 : Cond.selects "NamelessBoxModel" ⟨"NamelessBoxModel", "isPicture", "(I)Z"⟩ ⟨"NamelessBoxModel", "isPicture", "(I)Z"⟩ ∈ cx_G := cx_in 44 (by decide +kernel) rfl
theorem hs_45 : Cond.selects "NamelessBoxModel" ⟨"NamelessBoxModel", "isHead", "(I)Z"⟩ ⟨"NamelessBoxModel", "isHead", "(I)Z"⟩ ∈ cx_G := cx_in 45 (by decide +kernel) rfl
theorem hs_46 : Cond.selects "NamelessBoxModel" ⟨"NamelessBoxModel", "ofHead", "(II)I"⟩ ⟨"NamelessBoxModel", "ofHead", "(II)I"⟩ ∈ cx_G := cx_in 46 (by decide +kernel) rfl
theorem hs_47 : Cond.selects "NamelessBoxModel" ⟨"NamelessBoxModel", "markOf", "(II)I"⟩ ⟨"NamelessBoxModel", "markOf", "(II)I"⟩ ∈ cx_G := cx_in 47 (by decide +kernel) rfl
theorem hs_48 : Cond.selects "NamelessBoxModel" ⟨"NamelessBoxModel", "likeOf", "(III)I"⟩ ⟨"NamelessBoxModel", "likeOf", "(III)I"⟩ ∈ cx_G := cx_in 48 (by decide +kernel) rfl
theorem hs_49 : Cond.selects "NamelessBoxModel" ⟨"NamelessBoxModel", "truthOf", "(I)I"⟩ ⟨"NamelessBoxModel", "truthOf", "(I)I"⟩ ∈ cx_G := cx_in 49 (by decide +kernel) rfl
theorem hs_50 : Cond.selects "NamelessBoxModel" ⟨"NamelessBoxModel", "reads", "()Z"⟩ ⟨"NamelessBoxModel", "reads", "()Z"⟩ ∈ cx_G := cx_in 50 (by decide +kernel) rfl
theorem hs_51 : Cond.selects "NamelessBoxModel" ⟨"NamelessBoxModel", "scans", "()V"⟩ ⟨"NamelessBoxModel", "scans", "()V"⟩ ∈ cx_G := cx_in 51 (by decide +kernel) rfl
theorem hs_52 : Cond.selects "NamelessBoxModel" ⟨"NamelessBoxModel", "isAt", "(II)Z"⟩ ⟨"NamelessBoxModel", "isAt", "(II)Z"⟩ ∈ cx_G := cx_in 52 (by decide +kernel) rfl
theorem hs_53 : Cond.selects "NamelessBoxModel" ⟨"NamelessBoxModel", "tellsItem", "(I)Z"⟩ ⟨"NamelessBoxModel", "tellsItem", "(I)Z"⟩ ∈ cx_G := cx_in 53 (by decide +kernel) rfl
theorem hs_54 : Cond.selects "NamelessBoxModel" ⟨"NamelessBoxModel", "begins", "()V"⟩ ⟨"NamelessBoxModel", "begins", "()V"⟩ ∈ cx_G := cx_in 54 (by decide +kernel) rfl
theorem hs_55 : Cond.selects "NamelessBoxModel" ⟨"NamelessBoxModel", "shares", "(I)V"⟩ ⟨"NamelessBoxModel", "shares", "(I)V"⟩ ∈ cx_G := cx_in 55 (by decide +kernel) rfl
theorem hs_56 : Cond.selects "NamelessBoxModel" ⟨"NamelessBoxModel", "ways", "()I"⟩ ⟨"NamelessBoxModel", "ways", "()I"⟩ ∈ cx_G := cx_in 56 (by decide +kernel) rfl
theorem hs_57 : Cond.selects "NamelessBoxModel" ⟨"NamelessBoxModel", "weighs", "(I)Z"⟩ ⟨"NamelessBoxModel", "weighs", "(I)Z"⟩ ∈ cx_G := cx_in 57 (by decide +kernel) rfl
theorem hs_58 : Cond.selects "NamelessBoxModel" ⟨"NamelessBoxModel", "picks", "(I)V"⟩ ⟨"NamelessBoxModel", "picks", "(I)V"⟩ ∈ cx_G := cx_in 58 (by decide +kernel) rfl
theorem hs_59 : Cond.selects "NamelessBoxModel" ⟨"NamelessBoxModel", "isTwice", "()Z"⟩ ⟨"NamelessBoxModel", "isTwice", "()Z"⟩ ∈ cx_G := cx_in 59 (by decide +kernel) rfl
theorem hs_60 : Cond.selects "NamelessBoxModel" ⟨"NamelessBoxModel", "years", "(I)I"⟩ ⟨"NamelessBoxModel", "years", "(I)I"⟩ ∈ cx_G := cx_in 60 (by decide +kernel) rfl
theorem hs_61 : Cond.selects "NamelessBoxModel" ⟨"NamelessBoxModel", "termOf", "(II)J"⟩ ⟨"NamelessBoxModel", "termOf", "(II)J"⟩ ∈ cx_G := cx_in 61 (by decide +kernel) rfl
theorem hs_62 : Cond.selects "NamelessBoxModel" ⟨"NamelessBoxModel", "timesLong", "(IJ)V"⟩ ⟨"NamelessBoxModel", "timesLong", "(IJ)V"⟩ ∈ cx_G := cx_in 62 (by decide +kernel) rfl
theorem hs_63 : Cond.selects "NamelessBoxModel" ⟨"NamelessBoxModel", "multiplies", "(II)V"⟩ ⟨"NamelessBoxModel", "multiplies", "(II)V"⟩ ∈ cx_G := cx_in 63 (by decide +kernel) rfl
theorem hs_64 : Cond.selects "NamelessBoxModel" ⟨"NamelessBoxModel", "takes", "(II)V"⟩ ⟨"NamelessBoxModel", "takes", "(II)V"⟩ ∈ cx_G := cx_in 64 (by decide +kernel) rfl
theorem hs_65 : Cond.selects "NamelessBoxModel" ⟨"NamelessBoxModel", "times", "(II)V"⟩ ⟨"NamelessBoxModel", "times", "(II)V"⟩ ∈ cx_G := cx_in 65 (by decide +kernel) rfl
theorem hs_66 : Cond.selects "NamelessBoxModel" ⟨"NamelessBoxModel", "adds", "(II)V"⟩ ⟨"NamelessBoxModel", "adds", "(II)V"⟩ ∈ cx_G := cx_in 66 (by decide +kernel) rfl
theorem hs_67 : Cond.selects "NamelessBoxModel" ⟨"NamelessBoxModel", "no", "()I"⟩ ⟨"NamelessBoxModel", "no", "()I"⟩ ∈ cx_G := cx_in 67 (by decide +kernel) rfl
theorem hs_68 : Cond.selects "NamelessBoxModel" ⟨"NamelessBoxModel", "tellsHit", "()I"⟩ ⟨"NamelessBoxModel", "tellsHit", "()I"⟩ ∈ cx_G := cx_in 68 (by decide +kernel) rfl
theorem hs_69 : Cond.selects "NamelessBoxModel" ⟨"NamelessBoxModel", "lowers", "()V"⟩ ⟨"NamelessBoxModel", "lowers", "()V"⟩ ∈ cx_G := cx_in 69 (by decide +kernel) rfl
theorem hs_70 : Cond.selects "NamelessBoxModel" ⟨"NamelessBoxModel", "isEven", "(I)Z"⟩ ⟨"NamelessBoxModel", "isEven", "(I)Z"⟩ ∈ cx_G := cx_in 70 (by decide +kernel) rfl
theorem hs_71 : Cond.selects "NamelessBoxModel" ⟨"NamelessBoxModel", "halves", "(I)V"⟩ ⟨"NamelessBoxModel", "halves", "(I)V"⟩ ∈ cx_G := cx_in 71 (by decide +kernel) rfl
theorem hs_72 : Cond.selects "NamelessBoxModel" ⟨"NamelessBoxModel", "against", "(II)I"⟩ ⟨"NamelessBoxModel", "against", "(II)I"⟩ ∈ cx_G := cx_in 72 (by decide +kernel) rfl
theorem hs_73 : Cond.selects "NamelessBoxModel" ⟨"NamelessBoxModel", "lessens", "(II)V"⟩ ⟨"NamelessBoxModel", "lessens", "(II)V"⟩ ∈ cx_G := cx_in 73 (by decide +kernel) rfl
theorem hs_74 : Cond.selects "NamelessBoxModel" ⟨"NamelessBoxModel", "dividesOdd", "(I)V"⟩ ⟨"NamelessBoxModel", "dividesOdd", "(I)V"⟩ ∈ cx_G := cx_in 74 (by decide +kernel) rfl
theorem hs_75 : Cond.selects "NamelessBoxModel" ⟨"NamelessBoxModel", "namedNow", "(I)I"⟩ ⟨"NamelessBoxModel", "namedNow", "(I)I"⟩ ∈ cx_G := cx_in 75 (by decide +kernel) rfl
theorem hs_76 : Cond.selects "NamelessBoxModel" ⟨"NamelessBoxModel", "sums", "(III)V"⟩ ⟨"NamelessBoxModel", "sums", "(III)V"⟩ ∈ cx_G := cx_in 76 (by decide +kernel) rfl
theorem hs_77 : Cond.selects "NamelessBoxModel" ⟨"NamelessBoxModel", "counts", "(III)I"⟩ ⟨"NamelessBoxModel", "counts", "(III)I"⟩ ∈ cx_G := cx_in 77 (by decide +kernel) rfl
theorem hs_78 : Cond.selects "NamelessBoxModel" ⟨"NamelessBoxModel", "isOn", "(II)Z"⟩ ⟨"NamelessBoxModel", "isOn", "(II)Z"⟩ ∈ cx_G := cx_in 78 (by decide +kernel) rfl
theorem hs_79 : Cond.selects "NamelessBoxModel" ⟨"NamelessBoxModel", "isSure", "(II)Z"⟩ ⟨"NamelessBoxModel", "isSure", "(II)Z"⟩ ∈ cx_G := cx_in 79 (by decide +kernel) rfl
theorem hs_80 : Cond.selects "NamelessBoxModel" ⟨"NamelessBoxModel", "asks", "(III)I"⟩ ⟨"NamelessBoxModel", "asks", "(III)I"⟩ ∈ cx_G := cx_in 80 (by decide +kernel) rfl
theorem hs_81 : Cond.selects "NamelessBoxModel" ⟨"NamelessBoxModel", "years2", "(IIII)Z"⟩ ⟨"NamelessBoxModel", "years2", "(IIII)Z"⟩ ∈ cx_G := cx_in 81 (by decide +kernel) rfl
theorem hs_82 : Cond.selects "NamelessBoxModel" ⟨"NamelessBoxModel", "rights", "(I)V"⟩ ⟨"NamelessBoxModel", "rights", "(I)V"⟩ ∈ cx_G := cx_in 82 (by decide +kernel) rfl
theorem hs_83 : Cond.selects "NamelessBoxModel" ⟨"NamelessBoxModel", "worths", "(I)Z"⟩ ⟨"NamelessBoxModel", "worths", "(I)Z"⟩ ∈ cx_G := cx_in 83 (by decide +kernel) rfl
theorem hs_84 : Cond.selects "NamelessBoxModel" ⟨"NamelessBoxModel", "addsGreatest", "(II)V"⟩ ⟨"NamelessBoxModel", "addsGreatest", "(II)V"⟩ ∈ cx_G := cx_in 84 (by decide +kernel) rfl
theorem hs_85 : Cond.selects "NamelessBoxModel" ⟨"NamelessBoxModel", "truthAbout", "(I)I"⟩ ⟨"NamelessBoxModel", "truthAbout", "(I)I"⟩ ∈ cx_G := cx_in 85 (by decide +kernel) rfl
theorem hs_86 : Cond.selects "NamelessBoxModel" ⟨"NamelessBoxModel", "tellsWorth", "(I)I"⟩ ⟨"NamelessBoxModel", "tellsWorth", "(I)I"⟩ ∈ cx_G := cx_in 86 (by decide +kernel) rfl
theorem hs_87 : Cond.selects "NamelessBoxModel" ⟨"NamelessBoxModel", "signNow", "()I"⟩ ⟨"NamelessBoxModel", "signNow", "()I"⟩ ∈ cx_G := cx_in 87 (by decide +kernel) rfl
theorem hs_88 : Cond.selects "NamelessBoxModel" ⟨"NamelessBoxModel", "countOf", "(I)I"⟩ ⟨"NamelessBoxModel", "countOf", "(I)I"⟩ ∈ cx_G := cx_in 88 (by decide +kernel) rfl
theorem hs_89 : Cond.selects "NamelessBoxModel" ⟨"NamelessBoxModel", "mixed", "(JII)J"⟩ ⟨"NamelessBoxModel", "mixed", "(JII)J"⟩ ∈ cx_G := cx_in 89 (by decide +kernel) rfl
theorem hw_0 : (Jvm.Cond.initialized "NamelessBoxLaw") ∈ cx_G := cx_t1 0 (by decide +kernel) rfl
theorem hw_1 : (Jvm.Cond.initialized "NamelessBox") ∈ cx_G := cx_t1 1 (by decide +kernel) rfl
theorem hw_2 : (Jvm.Cond.initialized "NamelessBox$Box") ∈ cx_G := cx_t1 2 (by decide +kernel) rfl
theorem hw_3 : (Jvm.Cond.initialized "NamelessBox$Rows") ∈ cx_G := cx_t1 3 (by decide +kernel) rfl
theorem hw_4 : (Jvm.Cond.initialized "java/lang/Math") ∈ cx_G := cx_t1 4 (by decide +kernel) rfl
theorem hw_5 : (Jvm.Cond.initialized "NamelessBox$Text") ∈ cx_G := cx_t1 5 (by decide +kernel) rfl
theorem hw_6 : (Jvm.Cond.initialized "NamelessBox$Fraction") ∈ cx_G := cx_t1 6 (by decide +kernel) rfl
theorem hw_7 : (Jvm.Cond.initialized "NamelessBox$Ways") ∈ cx_G := cx_t1 7 (by decide +kernel) rfl
theorem hw_8 : (Jvm.Cond.initialized "NamelessBox$Sums") ∈ cx_G := cx_t1 8 (by decide +kernel) rfl
theorem hw_9 : (Jvm.Cond.initialized "java/util/Arrays") ∈ cx_G := cx_t1 9 (by decide +kernel) rfl
theorem hw_10 : (Jvm.Cond.initialized "NamelessBox$Aunt") ∈ cx_G := cx_t1 10 (by decide +kernel) rfl
theorem hw_11 : (Jvm.Cond.initialized "NamelessBoxModel") ∈ cx_G := cx_t1 11 (by decide +kernel) rfl
theorem hw_12 : (Jvm.Cond.initialized "java/lang/String") ∈ cx_G := cx_t1 12 (by decide +kernel) rfl
theorem hw_13 : (Jvm.Cond.initialized "java/lang/StringLatin1") ∈ cx_G := cx_t1 13 (by decide +kernel) rfl
theorem hw_14 : (Jvm.Cond.initialized "jdk/internal/util/Preconditions") ∈ cx_G := cx_t1 14 (by decide +kernel) rfl
theorem hw_15 : (Jvm.Cond.initialized "java/lang/StringUTF16") ∈ cx_G := cx_t1 15 (by decide +kernel) rfl
theorem hw_16 : (Jvm.Cond.initialized "java/lang/System") ∈ cx_G := cx_t1 16 (by decide +kernel) rfl
theorem hw_17 : (Jvm.Cond.initialized "NamelessBox$Limbs") ∈ cx_G := cx_t1 17 (by decide +kernel) rfl
theorem hw_18 : (Jvm.Cond.initialized "java/lang/Long") ∈ cx_G := cx_t1 18 (by decide +kernel) rfl
theorem hw_19 : (Jvm.Cond.classLink "NamelessBoxLaw" (7 : Nat) "NamelessBox") ∈ cx_G := cx_t1 19 (by decide +kernel) rfl
theorem hw_20 : (Jvm.Cond.instantiable "NamelessBox" (12 : Nat)) ∈ cx_G := cx_t1 20 (by decide +kernel) rfl
theorem hw_21 : (Jvm.Cond.methodLink "NamelessBoxLaw" (9 : Nat) ({ cls := "NamelessBox", name := "<init>", desc := "()V" } : Jvm.MethodName)) ∈ cx_G := cx_t1 21 (by decide +kernel) rfl
theorem hw_22 : (Jvm.Cond.instanceMethod ({ cls := "NamelessBox", name := "<init>", desc := "()V" } : Jvm.MethodName)) ∈ cx_G := cx_t1 22 (by decide +kernel) rfl
theorem hw_23 : (Jvm.Cond.code ({ cls := "NamelessBox", name := "<init>", desc := "()V" } : Jvm.MethodName) prog_1_method_1_code (1 : Nat) (Option.none : Option Jvm.ClassFile.FieldType)) ∈ cx_G := cx_t1 23 (by decide +kernel) rfl
theorem hw_24 : (Jvm.Cond.methodLink "NamelessBox" (1 : Nat) ({ cls := "java/lang/Object", name := "<init>", desc := "()V" } : Jvm.MethodName)) ∈ cx_G := cx_t1 24 (by decide +kernel) rfl
theorem hw_25 : (Jvm.Cond.instanceMethod ({ cls := "java/lang/Object", name := "<init>", desc := "()V" } : Jvm.MethodName)) ∈ cx_G := cx_t1 25 (by decide +kernel) rfl
theorem hw_26 : (Jvm.Cond.code ({ cls := "java/lang/Object", name := "<init>", desc := "()V" } : Jvm.MethodName) object_method_1_code (1 : Nat) (Option.none : Option Jvm.ClassFile.FieldType)) ∈ cx_G := cx_t1 26 (by decide +kernel) rfl
theorem hw_27 : (Jvm.Cond.classLink "NamelessBox" (7 : Nat) "NamelessBox$Box") ∈ cx_G := cx_t1 27 (by decide +kernel) rfl
theorem hw_28 : (Jvm.Cond.instantiable "NamelessBox$Box" (6 : Nat)) ∈ cx_G := cx_t1 28 (by decide +kernel) rfl
theorem hw_30 : (Jvm.Cond.instanceMethod ({ cls := "NamelessBox$Box", name := "<init>", desc := "()V" } : Jvm.MethodName)) ∈ cx_G := cx_t1 30 (by decide +kernel) rfl
theorem hw_31 : (Jvm.Cond.code ({ cls := "NamelessBox$Box", name := "<init>", desc := "()V" } : Jvm.MethodName) prog_3_method_1_code (1 : Nat) (Option.none : Option Jvm.ClassFile.FieldType)) ∈ cx_G := cx_t1 31 (by decide +kernel) rfl
theorem hw_32 : (Jvm.Cond.methodLink "NamelessBox$Box" (3 : Nat) ({ cls := "java/lang/Object", name := "<init>", desc := "()V" } : Jvm.MethodName)) ∈ cx_G := cx_t1 32 (by decide +kernel) rfl
theorem hw_33 : (Jvm.Cond.classLink "NamelessBox$Box" (9 : Nat) "NamelessBox$Rows") ∈ cx_G := cx_t1 33 (by decide +kernel) rfl
theorem hw_34 : (Jvm.Cond.instantiable "NamelessBox$Rows" (4 : Nat)) ∈ cx_G := cx_t1 34 (by decide +kernel) rfl
theorem hw_35 : (Jvm.Cond.methodLink "NamelessBox$Box" (11 : Nat) ({ cls := "NamelessBox$Rows", name := "<init>", desc := "(II)V" } : Jvm.MethodName)) ∈ cx_G := cx_t1 35 (by decide +kernel) rfl
theorem hw_36 : (Jvm.Cond.instanceMethod ({ cls := "NamelessBox$Rows", name := "<init>", desc := "(II)V" } : Jvm.MethodName)) ∈ cx_G := cx_t1 36 (by decide +kernel) rfl
theorem hw_37 : (Jvm.Cond.code ({ cls := "NamelessBox$Rows", name := "<init>", desc := "(II)V" } : Jvm.MethodName) prog_6_method_1_code (3 : Nat) (Option.none : Option Jvm.ClassFile.FieldType)) ∈ cx_G := cx_t1 37 (by decide +kernel) rfl
theorem hw_38 : (Jvm.Cond.methodLink "NamelessBox$Rows" (3 : Nat) ({ cls := "java/lang/Object", name := "<init>", desc := "()V" } : Jvm.MethodName)) ∈ cx_G := cx_t1 38 (by decide +kernel) rfl
theorem hw_39 : (Jvm.Cond.methodLink "NamelessBox$Rows" (21 : Nat) ({ cls := "java/lang/Math", name := "max", desc := "(II)I" } : Jvm.MethodName)) ∈ cx_G := cx_t1 39 (by decide +kernel) rfl
theorem hw_40 : (Jvm.Cond.static ({ cls := "java/lang/Math", name := "max", desc := "(II)I" } : Jvm.MethodName)) ∈ cx_G := cx_t1 40 (by decide +kernel) rfl
theorem hw_41 : (Jvm.Cond.code ({ cls := "java/lang/Math", name := "max", desc := "(II)I" } : Jvm.MethodName) prog_13_method_65_code (2 : Nat) (Option.some Jvm.ClassFile.FieldType.int)) ∈ cx_G := cx_t1 41 (by decide +kernel) rfl
theorem hw_42 : (Jvm.Cond.fieldLink "NamelessBox$Rows" (15 : Nat) "NamelessBox$Rows" "width" "I") ∈ cx_G := cx_t1 42 (by decide +kernel) rfl
theorem hw_43 : (Jvm.Cond.fieldLink "NamelessBox$Rows" (18 : Nat) "NamelessBox$Rows" "limit" "I") ∈ cx_G := cx_t1 43 (by decide +kernel) rfl
theorem hw_44 : (Jvm.Cond.fieldLink "NamelessBox$Rows" (27 : Nat) "NamelessBox$Rows" "cells" "[I") ∈ cx_G := cx_t1 44 (by decide +kernel) rfl
theorem hw_45 : (Jvm.Cond.fieldLink "NamelessBox$Rows" (9 : Nat) "NamelessBox$Rows" "size" "I") ∈ cx_G := cx_t1 45 (by decide +kernel) rfl
theorem hw_46 : (Jvm.Cond.fieldLink "NamelessBox$Box" (36 : Nat) "NamelessBox$Rows" "size" "I") ∈ cx_G := cx_t1 46 (by decide +kernel) rfl
theorem hw_47 : (Jvm.Cond.fieldLink "NamelessBox$Aunt" (46 : Nat) "NamelessBox$Rows" "size" "I") ∈ cx_G := cx_t1 47 (by decide +kernel) rfl
theorem hw_48 : (Jvm.Cond.fieldLink "NamelessBox$Ways" (88 : Nat) "NamelessBox$Rows" "size" "I") ∈ cx_G := cx_t1 48 (by decide +kernel) rfl
theorem hw_49 : (Jvm.Cond.fieldLink "NamelessBox" (198 : Nat) "NamelessBox$Rows" "size" "I") ∈ cx_G := cx_t1 49 (by decide +kernel) rfl
theorem hw_59 : (Jvm.Cond.arrayClass Jvm.ClassFile.FieldType.int) ∈ cx_G := cx_t1 59 (by decide +kernel) rfl
theorem hw_60 : (Jvm.Cond.fieldLink "NamelessBox$Box" (14 : Nat) "NamelessBox$Box" "people" "LNamelessBox$Rows;") ∈ cx_G := cx_t1 60 (by decide +kernel) rfl
theorem hw_61 : (Jvm.Cond.fieldLink "NamelessBox$Aunt" (64 : Nat) "NamelessBox$Box" "people" "LNamelessBox$Rows;") ∈ cx_G := cx_t1 61 (by decide +kernel) rfl
theorem hw_62 : (Jvm.Cond.fieldLink "NamelessBox$Ways" (106 : Nat) "NamelessBox$Box" "people" "LNamelessBox$Rows;") ∈ cx_G := cx_t1 62 (by decide +kernel) rfl
theorem hw_63 : (Jvm.Cond.fieldLink "NamelessBox" (111 : Nat) "NamelessBox$Box" "people" "LNamelessBox$Rows;") ∈ cx_G := cx_t1 63 (by decide +kernel) rfl
theorem hw_64 : (Jvm.Cond.fieldLink "NamelessBox$Box" (20 : Nat) "NamelessBox$Box" "pictures" "LNamelessBox$Rows;") ∈ cx_G := cx_t1 64 (by decide +kernel) rfl
theorem hw_65 : (Jvm.Cond.fieldLink "NamelessBox$Ways" (82 : Nat) "NamelessBox$Box" "pictures" "LNamelessBox$Rows;") ∈ cx_G := cx_t1 65 (by decide +kernel) rfl
theorem hw_66 : (Jvm.Cond.fieldLink "NamelessBox" (239 : Nat) "NamelessBox$Box" "pictures" "LNamelessBox$Rows;") ∈ cx_G := cx_t1 66 (by decide +kernel) rfl
theorem hw_67 : (Jvm.Cond.fieldLink "NamelessBox$Box" (23 : Nat) "NamelessBox$Box" "heads" "LNamelessBox$Rows;") ∈ cx_G := cx_t1 67 (by decide +kernel) rfl
theorem hw_68 : (Jvm.Cond.fieldLink "NamelessBox$Aunt" (40 : Nat) "NamelessBox$Box" "heads" "LNamelessBox$Rows;") ∈ cx_G := cx_t1 68 (by decide +kernel) rfl
theorem hw_69 : (Jvm.Cond.fieldLink "NamelessBox$Ways" (109 : Nat) "NamelessBox$Box" "heads" "LNamelessBox$Rows;") ∈ cx_G := cx_t1 69 (by decide +kernel) rfl
theorem hw_70 : (Jvm.Cond.fieldLink "NamelessBox" (131 : Nat) "NamelessBox$Box" "heads" "LNamelessBox$Rows;") ∈ cx_G := cx_t1 70 (by decide +kernel) rfl
theorem hw_71 : (Jvm.Cond.fieldLink "NamelessBox$Box" (26 : Nat) "NamelessBox$Box" "names" "LNamelessBox$Rows;") ∈ cx_G := cx_t1 71 (by decide +kernel) rfl
theorem hw_72 : (Jvm.Cond.fieldLink "NamelessBox$Ways" (155 : Nat) "NamelessBox$Box" "names" "LNamelessBox$Rows;") ∈ cx_G := cx_t1 72 (by decide +kernel) rfl
theorem hw_73 : (Jvm.Cond.fieldLink "NamelessBox" (146 : Nat) "NamelessBox$Box" "names" "LNamelessBox$Rows;") ∈ cx_G := cx_t1 73 (by decide +kernel) rfl
theorem hw_74 : (Jvm.Cond.fieldLink "NamelessBox$Box" (29 : Nat) "NamelessBox$Box" "joins" "LNamelessBox$Rows;") ∈ cx_G := cx_t1 74 (by decide +kernel) rfl
theorem hw_75 : (Jvm.Cond.fieldLink "NamelessBox$Ways" (217 : Nat) "NamelessBox$Box" "joins" "LNamelessBox$Rows;") ∈ cx_G := cx_t1 75 (by decide +kernel) rfl
theorem hw_76 : (Jvm.Cond.fieldLink "NamelessBox" (321 : Nat) "NamelessBox$Box" "joins" "LNamelessBox$Rows;") ∈ cx_G := cx_t1 76 (by decide +kernel) rfl
theorem hw_77 : (Jvm.Cond.fieldLink "NamelessBox$Box" (32 : Nat) "NamelessBox$Box" "strangeness" "I") ∈ cx_G := cx_t1 77 (by decide +kernel) rfl
theorem hw_91 : (Jvm.Cond.classLink "NamelessBox" (29 : Nat) "NamelessBox$Text") ∈ cx_G := cx_t1 91 (by decide +kernel) rfl
theorem hw_92 : (Jvm.Cond.instantiable "NamelessBox$Text" (6 : Nat)) ∈ cx_G := cx_t1 92 (by decide +kernel) rfl
theorem hw_94 : (Jvm.Cond.instanceMethod ({ cls := "NamelessBox$Text", name := "<init>", desc := "()V" } : Jvm.MethodName)) ∈ cx_G := cx_t1 94 (by decide +kernel) rfl
theorem hw_95 : (Jvm.Cond.code ({ cls := "NamelessBox$Text", name := "<init>", desc := "()V" } : Jvm.MethodName) prog_8_method_1_code (1 : Nat) (Option.none : Option Jvm.ClassFile.FieldType)) ∈ cx_G := cx_t1 95 (by decide +kernel) rfl
theorem hw_96 : (Jvm.Cond.methodLink "NamelessBox$Text" (3 : Nat) ({ cls := "java/lang/Object", name := "<init>", desc := "()V" } : Jvm.MethodName)) ∈ cx_G := cx_t1 96 (by decide +kernel) rfl
theorem hw_97 : (Jvm.Cond.fieldLink "NamelessBox$Text" (11 : Nat) "NamelessBox$Text" "bytes" "[C") ∈ cx_G := cx_t1 97 (by decide +kernel) rfl
theorem hw_98 : (Jvm.Cond.fieldLink "NamelessBox$Text" (15 : Nat) "NamelessBox$Text" "length" "I") ∈ cx_G := cx_t1 98 (by decide +kernel) rfl
theorem hw_99 : (Jvm.Cond.fieldLink "NamelessBox" (324 : Nat) "NamelessBox$Text" "length" "I") ∈ cx_G := cx_t1 99 (by decide +kernel) rfl
theorem hw_100 : (Jvm.Cond.fieldLink "NamelessBox$Text" (19 : Nat) "NamelessBox$Text" "start" "I") ∈ cx_G := cx_t1 100 (by decide +kernel) rfl
theorem hw_101 : (Jvm.Cond.fieldLink "NamelessBox$Text" (22 : Nat) "NamelessBox$Text" "end" "I") ∈ cx_G := cx_t1 101 (by decide +kernel) rfl
theorem hw_102 : (Jvm.Cond.fieldLink "NamelessBox$Text" (25 : Nat) "NamelessBox$Text" "item" "I") ∈ cx_G := cx_t1 102 (by decide +kernel) rfl
theorem hw_103 : (Jvm.Cond.fieldLink "NamelessBox$Text" (28 : Nat) "NamelessBox$Text" "numbers" "[I") ∈ cx_G := cx_t1 103 (by decide +kernel) rfl
theorem hw_117 : (Jvm.Cond.arrayClass Jvm.ClassFile.FieldType.boolean) ∈ cx_G := cx_t1 117 (by decide +kernel) rfl
theorem hw_118 : (Jvm.Cond.arrayClass Jvm.ClassFile.FieldType.char) ∈ cx_G := cx_t1 118 (by decide +kernel) rfl
theorem hw_119 : (Jvm.Cond.classLink "NamelessBox" (36 : Nat) "NamelessBox$Fraction") ∈ cx_G := cx_t1 119 (by decide +kernel) rfl
theorem hw_120 : (Jvm.Cond.instantiable "NamelessBox$Fraction" (4 : Nat)) ∈ cx_G := cx_t1 120 (by decide +kernel) rfl
theorem hw_121 : (Jvm.Cond.methodLink "NamelessBox" (38 : Nat) ({ cls := "NamelessBox$Fraction", name := "<init>", desc := "()V" } : Jvm.MethodName)) ∈ cx_G := cx_t1 121 (by decide +kernel) rfl
theorem hw_122 : (Jvm.Cond.instanceMethod ({ cls := "NamelessBox$Fraction", name := "<init>", desc := "()V" } : Jvm.MethodName)) ∈ cx_G := cx_t1 122 (by decide +kernel) rfl
theorem hw_123 : (Jvm.Cond.code ({ cls := "NamelessBox$Fraction", name := "<init>", desc := "()V" } : Jvm.MethodName) prog_4_method_1_code (1 : Nat) (Option.none : Option Jvm.ClassFile.FieldType)) ∈ cx_G := cx_t1 123 (by decide +kernel) rfl
theorem hw_124 : (Jvm.Cond.methodLink "NamelessBox$Fraction" (1 : Nat) ({ cls := "java/lang/Object", name := "<init>", desc := "()V" } : Jvm.MethodName)) ∈ cx_G := cx_t1 124 (by decide +kernel) rfl
theorem hw_125 : (Jvm.Cond.fieldLink "NamelessBox$Fraction" (9 : Nat) "NamelessBox$Fraction" "above" "[J") ∈ cx_G := cx_t1 125 (by decide +kernel) rfl
theorem hw_126 : (Jvm.Cond.fieldLink "NamelessBox" (286 : Nat) "NamelessBox$Fraction" "above" "[J") ∈ cx_G := cx_t1 126 (by decide +kernel) rfl
theorem hw_127 : (Jvm.Cond.fieldLink "NamelessBox$Fraction" (15 : Nat) "NamelessBox$Fraction" "below" "[J") ∈ cx_G := cx_t1 127 (by decide +kernel) rfl
theorem hw_128 : (Jvm.Cond.fieldLink "NamelessBox" (294 : Nat) "NamelessBox$Fraction" "below" "[J") ∈ cx_G := cx_t1 128 (by decide +kernel) rfl
theorem hw_129 : (Jvm.Cond.fieldLink "NamelessBox$Fraction" (18 : Nat) "NamelessBox$Fraction" "one" "[J") ∈ cx_G := cx_t1 129 (by decide +kernel) rfl
theorem hw_130 : (Jvm.Cond.fieldLink "NamelessBox$Fraction" (21 : Nat) "NamelessBox$Fraction" "other" "[J") ∈ cx_G := cx_t1 130 (by decide +kernel) rfl
theorem hw_140 : (Jvm.Cond.arrayClass Jvm.ClassFile.FieldType.long) ∈ cx_G := cx_t1 140 (by decide +kernel) rfl
theorem hw_141 : (Jvm.Cond.classLink "NamelessBox" (47 : Nat) "NamelessBox$Ways") ∈ cx_G := cx_t1 141 (by decide +kernel) rfl
theorem hw_142 : (Jvm.Cond.instantiable "NamelessBox$Ways" (19 : Nat)) ∈ cx_G := cx_t1 142 (by decide +kernel) rfl
theorem hw_143 : (Jvm.Cond.classLink "NamelessBox" (49 : Nat) "NamelessBox$Sums") ∈ cx_G := cx_t1 143 (by decide +kernel) rfl
theorem hw_144 : (Jvm.Cond.instantiable "NamelessBox$Sums" (11 : Nat)) ∈ cx_G := cx_t1 144 (by decide +kernel) rfl
theorem hw_145 : (Jvm.Cond.methodLink "NamelessBox" (51 : Nat) ({ cls := "NamelessBox$Sums", name := "<init>", desc := "(Z)V" } : Jvm.MethodName)) ∈ cx_G := cx_t1 145 (by decide +kernel) rfl
theorem hw_146 : (Jvm.Cond.instanceMethod ({ cls := "NamelessBox$Sums", name := "<init>", desc := "(Z)V" } : Jvm.MethodName)) ∈ cx_G := cx_t1 146 (by decide +kernel) rfl
theorem hw_147 : (Jvm.Cond.code ({ cls := "NamelessBox$Sums", name := "<init>", desc := "(Z)V" } : Jvm.MethodName) prog_7_method_1_code (2 : Nat) (Option.none : Option Jvm.ClassFile.FieldType)) ∈ cx_G := cx_t1 147 (by decide +kernel) rfl
theorem hw_148 : (Jvm.Cond.methodLink "NamelessBox$Sums" (3 : Nat) ({ cls := "java/lang/Object", name := "<init>", desc := "()V" } : Jvm.MethodName)) ∈ cx_G := cx_t1 148 (by decide +kernel) rfl
theorem hw_149 : (Jvm.Cond.fieldLink "NamelessBox$Sums" (11 : Nat) "NamelessBox$Sums" "total" "[J") ∈ cx_G := cx_t1 149 (by decide +kernel) rfl
theorem hw_150 : (Jvm.Cond.fieldLink "NamelessBox$Aunt" (71 : Nat) "NamelessBox$Sums" "total" "[J") ∈ cx_G := cx_t1 150 (by decide +kernel) rfl
theorem hw_151 : (Jvm.Cond.fieldLink "NamelessBox" (191 : Nat) "NamelessBox$Sums" "total" "[J") ∈ cx_G := cx_t1 151 (by decide +kernel) rfl
theorem hw_152 : (Jvm.Cond.fieldLink "NamelessBox$Sums" (17 : Nat) "NamelessBox$Sums" "shares" "[J") ∈ cx_G := cx_t1 152 (by decide +kernel) rfl
theorem hw_153 : (Jvm.Cond.fieldLink "NamelessBox$Ways" (198 : Nat) "NamelessBox$Sums" "shares" "[J") ∈ cx_G := cx_t1 153 (by decide +kernel) rfl
theorem hw_154 : (Jvm.Cond.fieldLink "NamelessBox" (177 : Nat) "NamelessBox$Sums" "shares" "[J") ∈ cx_G := cx_t1 154 (by decide +kernel) rfl
theorem hw_155 : (Jvm.Cond.fieldLink "NamelessBox$Sums" (46 : Nat) "NamelessBox$Sums" "pairs" "[J") ∈ cx_G := cx_t1 155 (by decide +kernel) rfl
theorem hw_156 : (Jvm.Cond.fieldLink "NamelessBox$Sums" (20 : Nat) "NamelessBox$Sums" "crowds" "[J") ∈ cx_G := cx_t1 156 (by decide +kernel) rfl
theorem hw_157 : (Jvm.Cond.fieldLink "NamelessBox$Sums" (23 : Nat) "NamelessBox$Sums" "bestWay" "[I") ∈ cx_G := cx_t1 157 (by decide +kernel) rfl
theorem hw_158 : (Jvm.Cond.fieldLink "NamelessBox" (188 : Nat) "NamelessBox$Sums" "bestWay" "[I") ∈ cx_G := cx_t1 158 (by decide +kernel) rfl
theorem hw_159 : (Jvm.Cond.fieldLink "NamelessBox$Sums" (27 : Nat) "NamelessBox$Sums" "bestWeight" "[J") ∈ cx_G := cx_t1 159 (by decide +kernel) rfl
theorem hw_160 : (Jvm.Cond.fieldLink "NamelessBox$Sums" (30 : Nat) "NamelessBox$Sums" "answer" "[J") ∈ cx_G := cx_t1 160 (by decide +kernel) rfl
theorem hw_161 : (Jvm.Cond.fieldLink "NamelessBox$Aunt" (96 : Nat) "NamelessBox$Sums" "answer" "[J") ∈ cx_G := cx_t1 161 (by decide +kernel) rfl
theorem hw_162 : (Jvm.Cond.fieldLink "NamelessBox" (315 : Nat) "NamelessBox$Sums" "answer" "[J") ∈ cx_G := cx_t1 162 (by decide +kernel) rfl
theorem hw_163 : (Jvm.Cond.fieldLink "NamelessBox$Sums" (33 : Nat) "NamelessBox$Sums" "mine" "[J") ∈ cx_G := cx_t1 163 (by decide +kernel) rfl
theorem hw_164 : (Jvm.Cond.fieldLink "NamelessBox$Sums" (36 : Nat) "NamelessBox$Sums" "theirs" "[J") ∈ cx_G := cx_t1 164 (by decide +kernel) rfl
theorem hw_165 : (Jvm.Cond.fieldLink "NamelessBox$Sums" (39 : Nat) "NamelessBox$Sums" "people" "I") ∈ cx_G := cx_t1 165 (by decide +kernel) rfl
theorem hw_166 : (Jvm.Cond.fieldLink "NamelessBox$Sums" (43 : Nat) "NamelessBox$Sums" "heads" "I") ∈ cx_G := cx_t1 166 (by decide +kernel) rfl
theorem hw_190 : (Jvm.Cond.methodLink "NamelessBox" (54 : Nat) ({ cls := "NamelessBox$Ways", name := "<init>", desc := "(LNamelessBox$Box;LNamelessBox$Sums;)V" } : Jvm.MethodName)) ∈ cx_G := cx_t1 190 (by decide +kernel) rfl
theorem hw_191 : (Jvm.Cond.instanceMethod ({ cls := "NamelessBox$Ways", name := "<init>", desc := "(LNamelessBox$Box;LNamelessBox$Sums;)V" } : Jvm.MethodName)) ∈ cx_G := cx_t1 191 (by decide +kernel) rfl
theorem hw_192 : (Jvm.Cond.code ({ cls := "NamelessBox$Ways", name := "<init>", desc := "(LNamelessBox$Box;LNamelessBox$Sums;)V" } : Jvm.MethodName) prog_9_method_1_code (3 : Nat) (Option.none : Option Jvm.ClassFile.FieldType)) ∈ cx_G := cx_t1 192 (by decide +kernel) rfl
theorem hw_193 : (Jvm.Cond.methodLink "NamelessBox$Ways" (3 : Nat) ({ cls := "java/lang/Object", name := "<init>", desc := "()V" } : Jvm.MethodName)) ∈ cx_G := cx_t1 193 (by decide +kernel) rfl
theorem hw_194 : (Jvm.Cond.methodLink "NamelessBox$Ways" (76 : Nat) ({ cls := "java/util/Arrays", name := "fill", desc := "([JJ)V" } : Jvm.MethodName)) ∈ cx_G := cx_t1 194 (by decide +kernel) rfl
theorem hw_195 : (Jvm.Cond.static ({ cls := "java/util/Arrays", name := "fill", desc := "([JJ)V" } : Jvm.MethodName)) ∈ cx_G := cx_t1 195 (by decide +kernel) rfl
theorem hw_196 : (Jvm.Cond.code ({ cls := "java/util/Arrays", name := "fill", desc := "([JJ)V" } : Jvm.MethodName) prog_18_method_101_code (5 : Nat) (Option.none : Option Jvm.ClassFile.FieldType)) ∈ cx_G := cx_t1 196 (by decide +kernel) rfl
theorem hw_197 : (Jvm.Cond.fieldLink "NamelessBox$Ways" (72 : Nat) "NamelessBox$Ways" "sums" "LNamelessBox$Sums;") ∈ cx_G := cx_t1 197 (by decide +kernel) rfl
theorem hw_198 : (Jvm.Cond.fieldLink "NamelessBox" (66 : Nat) "NamelessBox$Ways" "sums" "LNamelessBox$Sums;") ∈ cx_G := cx_t1 198 (by decide +kernel) rfl
theorem hw_199 : (Jvm.Cond.fieldLink "NamelessBox$Ways" (68 : Nat) "NamelessBox$Ways" "box" "LNamelessBox$Box;") ∈ cx_G := cx_t1 199 (by decide +kernel) rfl
theorem hw_200 : (Jvm.Cond.fieldLink "NamelessBox$Ways" (9 : Nat) "NamelessBox$Ways" "detail" "I") ∈ cx_G := cx_t1 200 (by decide +kernel) rfl
theorem hw_201 : (Jvm.Cond.fieldLink "NamelessBox$Ways" (15 : Nat) "NamelessBox$Ways" "skipped" "I") ∈ cx_G := cx_t1 201 (by decide +kernel) rfl
theorem hw_202 : (Jvm.Cond.fieldLink "NamelessBox$Ways" (18 : Nat) "NamelessBox$Ways" "early" "I") ∈ cx_G := cx_t1 202 (by decide +kernel) rfl
theorem hw_203 : (Jvm.Cond.fieldLink "NamelessBox$Ways" (21 : Nat) "NamelessBox$Ways" "late" "I") ∈ cx_G := cx_t1 203 (by decide +kernel) rfl
theorem hw_204 : (Jvm.Cond.fieldLink "NamelessBox$Ways" (24 : Nat) "NamelessBox$Ways" "firstOnly" "Z") ∈ cx_G := cx_t1 204 (by decide +kernel) rfl
theorem hw_205 : (Jvm.Cond.fieldLink "NamelessBox$Ways" (28 : Nat) "NamelessBox$Ways" "firstYear" "[I") ∈ cx_G := cx_t1 205 (by decide +kernel) rfl
theorem hw_206 : (Jvm.Cond.fieldLink "NamelessBox$Ways" (32 : Nat) "NamelessBox$Ways" "years" "[I") ∈ cx_G := cx_t1 206 (by decide +kernel) rfl
theorem hw_207 : (Jvm.Cond.fieldLink "NamelessBox$Ways" (35 : Nat) "NamelessBox$Ways" "place" "[I") ∈ cx_G := cx_t1 207 (by decide +kernel) rfl
theorem hw_208 : (Jvm.Cond.fieldLink "NamelessBox$Ways" (38 : Nat) "NamelessBox$Ways" "before" "[I") ∈ cx_G := cx_t1 208 (by decide +kernel) rfl
theorem hw_209 : (Jvm.Cond.fieldLink "NamelessBox$Ways" (41 : Nat) "NamelessBox$Ways" "closing" "[I") ∈ cx_G := cx_t1 209 (by decide +kernel) rfl
theorem hw_210 : (Jvm.Cond.fieldLink "NamelessBox$Ways" (44 : Nat) "NamelessBox$Ways" "likes" "[I") ∈ cx_G := cx_t1 210 (by decide +kernel) rfl
theorem hw_211 : (Jvm.Cond.fieldLink "NamelessBox$Ways" (47 : Nat) "NamelessBox$Ways" "likeSums" "[I") ∈ cx_G := cx_t1 211 (by decide +kernel) rfl
theorem hw_212 : (Jvm.Cond.fieldLink "NamelessBox$Ways" (50 : Nat) "NamelessBox$Ways" "namings" "[I") ∈ cx_G := cx_t1 212 (by decide +kernel) rfl
theorem hw_213 : (Jvm.Cond.fieldLink "NamelessBox$Ways" (53 : Nat) "NamelessBox$Ways" "products" "[J") ∈ cx_G := cx_t1 213 (by decide +kernel) rfl
theorem hw_214 : (Jvm.Cond.fieldLink "NamelessBox$Ways" (59 : Nat) "NamelessBox$Ways" "weights" "[J") ∈ cx_G := cx_t1 214 (by decide +kernel) rfl
theorem hw_215 : (Jvm.Cond.fieldLink "NamelessBox$Ways" (62 : Nat) "NamelessBox$Ways" "subtotals" "[J") ∈ cx_G := cx_t1 215 (by decide +kernel) rfl
theorem hw_216 : (Jvm.Cond.fieldLink "NamelessBox$Ways" (65 : Nat) "NamelessBox$Ways" "way" "[I") ∈ cx_G := cx_t1 216 (by decide +kernel) rfl
theorem hw_256 : (Jvm.Cond.classLink "NamelessBox" (64 : Nat) "NamelessBox$Aunt") ∈ cx_G := cx_t2 16 (by decide +kernel) rfl
theorem hw_257 : (Jvm.Cond.instantiable "NamelessBox$Aunt" (8 : Nat)) ∈ cx_G := cx_t2 17 (by decide +kernel) rfl
theorem hw_258 : (Jvm.Cond.methodLink "NamelessBox" (70 : Nat) ({ cls := "NamelessBox$Aunt", name := "<init>", desc := "(LNamelessBox$Box;LNamelessBox$Sums;)V" } : Jvm.MethodName)) ∈ cx_G := cx_t2 18 (by decide +kernel) rfl
theorem hw_259 : (Jvm.Cond.instanceMethod ({ cls := "NamelessBox$Aunt", name := "<init>", desc := "(LNamelessBox$Box;LNamelessBox$Sums;)V" } : Jvm.MethodName)) ∈ cx_G := cx_t2 19 (by decide +kernel) rfl
theorem hw_260 : (Jvm.Cond.code ({ cls := "NamelessBox$Aunt", name := "<init>", desc := "(LNamelessBox$Box;LNamelessBox$Sums;)V" } : Jvm.MethodName) prog_2_method_1_code (3 : Nat) (Option.none : Option Jvm.ClassFile.FieldType)) ∈ cx_G := cx_t2 20 (by decide +kernel) rfl
theorem hw_261 : (Jvm.Cond.methodLink "NamelessBox$Aunt" (3 : Nat) ({ cls := "java/lang/Object", name := "<init>", desc := "()V" } : Jvm.MethodName)) ∈ cx_G := cx_t2 21 (by decide +kernel) rfl
theorem hw_262 : (Jvm.Cond.fieldLink "NamelessBox$Aunt" (11 : Nat) "NamelessBox$Aunt" "worth" "[J") ∈ cx_G := cx_t2 22 (by decide +kernel) rfl
theorem hw_263 : (Jvm.Cond.fieldLink "NamelessBox" (267 : Nat) "NamelessBox$Aunt" "worth" "[J") ∈ cx_G := cx_t2 23 (by decide +kernel) rfl
theorem hw_264 : (Jvm.Cond.fieldLink "NamelessBox$Aunt" (17 : Nat) "NamelessBox$Aunt" "dearest" "[J") ∈ cx_G := cx_t2 24 (by decide +kernel) rfl
theorem hw_265 : (Jvm.Cond.fieldLink "NamelessBox" (280 : Nat) "NamelessBox$Aunt" "dearest" "[J") ∈ cx_G := cx_t2 25 (by decide +kernel) rfl
theorem hw_266 : (Jvm.Cond.fieldLink "NamelessBox$Aunt" (20 : Nat) "NamelessBox$Aunt" "unit" "[J") ∈ cx_G := cx_t2 26 (by decide +kernel) rfl
theorem hw_267 : (Jvm.Cond.fieldLink "NamelessBox" (270 : Nat) "NamelessBox$Aunt" "unit" "[J") ∈ cx_G := cx_t2 27 (by decide +kernel) rfl
theorem hw_268 : (Jvm.Cond.fieldLink "NamelessBox$Aunt" (32 : Nat) "NamelessBox$Aunt" "box" "LNamelessBox$Box;") ∈ cx_G := cx_t2 28 (by decide +kernel) rfl
theorem hw_269 : (Jvm.Cond.fieldLink "NamelessBox$Aunt" (36 : Nat) "NamelessBox$Aunt" "sums" "LNamelessBox$Sums;") ∈ cx_G := cx_t2 29 (by decide +kernel) rfl
theorem hw_270 : (Jvm.Cond.fieldLink "NamelessBox$Aunt" (23 : Nat) "NamelessBox$Aunt" "wrongly" "[J") ∈ cx_G := cx_t2 30 (by decide +kernel) rfl
theorem hw_271 : (Jvm.Cond.fieldLink "NamelessBox$Aunt" (26 : Nat) "NamelessBox$Aunt" "guess" "[J") ∈ cx_G := cx_t2 31 (by decide +kernel) rfl
theorem hw_272 : (Jvm.Cond.fieldLink "NamelessBox$Aunt" (29 : Nat) "NamelessBox$Aunt" "most" "[J") ∈ cx_G := cx_t2 32 (by decide +kernel) rfl
theorem hw_290 : (Jvm.Cond.fieldLink "NamelessBox" (10 : Nat) "NamelessBox" "box" "LNamelessBox$Box;") ∈ cx_G := cx_t2 50 (by decide +kernel) rfl
theorem hw_291 : (Jvm.Cond.fieldLink "NamelessBox" (16 : Nat) "NamelessBox" "scratch" "LNamelessBox$Box;") ∈ cx_G := cx_t2 51 (by decide +kernel) rfl
theorem hw_292 : (Jvm.Cond.fieldLink "NamelessBox" (19 : Nat) "NamelessBox" "image0" "LNamelessBox$Box;") ∈ cx_G := cx_t2 52 (by decide +kernel) rfl
theorem hw_293 : (Jvm.Cond.fieldLink "NamelessBox" (22 : Nat) "NamelessBox" "image1" "LNamelessBox$Box;") ∈ cx_G := cx_t2 53 (by decide +kernel) rfl
theorem hw_294 : (Jvm.Cond.fieldLink "NamelessBox" (25 : Nat) "NamelessBox" "kept" "[Z") ∈ cx_G := cx_t2 54 (by decide +kernel) rfl
theorem hw_295 : (Jvm.Cond.fieldLink "NamelessBox" (32 : Nat) "NamelessBox" "text" "LNamelessBox$Text;") ∈ cx_G := cx_t2 55 (by decide +kernel) rfl
theorem hw_296 : (Jvm.Cond.fieldLink "NamelessBox" (39 : Nat) "NamelessBox" "fraction" "LNamelessBox$Fraction;") ∈ cx_G := cx_t2 56 (by decide +kernel) rfl
theorem hw_297 : (Jvm.Cond.fieldLink "NamelessBox" (43 : Nat) "NamelessBox" "refusals" "[I") ∈ cx_G := cx_t2 57 (by decide +kernel) rfl
theorem hw_298 : (Jvm.Cond.fieldLink "NamelessBox" (57 : Nat) "NamelessBox" "now" "LNamelessBox$Ways;") ∈ cx_G := cx_t2 58 (by decide +kernel) rfl
theorem hw_299 : (Jvm.Cond.fieldLink "NamelessBox" (61 : Nat) "NamelessBox" "aside" "LNamelessBox$Ways;") ∈ cx_G := cx_t2 59 (by decide +kernel) rfl
theorem hw_300 : (Jvm.Cond.fieldLink "NamelessBox" (71 : Nat) "NamelessBox" "aunt" "LNamelessBox$Aunt;") ∈ cx_G := cx_t2 60 (by decide +kernel) rfl
theorem hw_301 : (Jvm.Cond.fieldLink "NamelessBox" (75 : Nat) "NamelessBox" "summed" "I") ∈ cx_G := cx_t2 61 (by decide +kernel) rfl
theorem hw_327 : (Jvm.Cond.methodLink "NamelessBoxLaw" (13 : Nat) ({ cls := "NamelessBox", name := "person", desc := "(IIII)I" } : Jvm.MethodName)) ∈ cx_G := cx_t2 87 (by decide +kernel) rfl
theorem hw_328 : (Jvm.Cond.instanceMethod ({ cls := "NamelessBox", name := "person", desc := "(IIII)I" } : Jvm.MethodName)) ∈ cx_G := cx_t2 88 (by decide +kernel) rfl
theorem hw_329 : (Jvm.Cond.selects "NamelessBox" ({ cls := "NamelessBox", name := "person", desc := "(IIII)I" } : Jvm.MethodName) ({ cls := "NamelessBox", name := "person", desc := "(IIII)I" } : Jvm.MethodName)) ∈ cx_G := cx_t2 89 (by decide +kernel) rfl
theorem hw_330 : (Jvm.Cond.code ({ cls := "NamelessBox", name := "person", desc := "(IIII)I" } : Jvm.MethodName) prog_1_method_2_code (5 : Nat) (Option.some Jvm.ClassFile.FieldType.int)) ∈ cx_G := cx_t2 90 (by decide +kernel) rfl
theorem hw_331 : (Jvm.Cond.methodLink "NamelessBox" (79 : Nat) ({ cls := "NamelessBox$Box", name := "addPerson", desc := "(IIII)I" } : Jvm.MethodName)) ∈ cx_G := cx_t2 91 (by decide +kernel) rfl
theorem hw_332 : (Jvm.Cond.instanceMethod ({ cls := "NamelessBox$Box", name := "addPerson", desc := "(IIII)I" } : Jvm.MethodName)) ∈ cx_G := cx_t2 92 (by decide +kernel) rfl
theorem hw_333 : (Jvm.Cond.selects "NamelessBox$Box" ({ cls := "NamelessBox$Box", name := "addPerson", desc := "(IIII)I" } : Jvm.MethodName) ({ cls := "NamelessBox$Box", name := "addPerson", desc := "(IIII)I" } : Jvm.MethodName)) ∈ cx_G := cx_t2 93 (by decide +kernel) rfl
theorem hw_334 : (Jvm.Cond.code ({ cls := "NamelessBox$Box", name := "addPerson", desc := "(IIII)I" } : Jvm.MethodName) prog_3_method_4_code (6 : Nat) (Option.some Jvm.ClassFile.FieldType.int)) ∈ cx_G := cx_t2 94 (by decide +kernel) rfl
theorem hw_336 : (Jvm.Cond.static ({ cls := "NamelessBox", name := "within", desc := "(III)Z" } : Jvm.MethodName)) ∈ cx_G := cx_t2 96 (by decide +kernel) rfl
theorem hw_337 : (Jvm.Cond.code ({ cls := "NamelessBox", name := "within", desc := "(III)Z" } : Jvm.MethodName) prog_1_method_41_code (3 : Nat) (Option.some Jvm.ClassFile.FieldType.boolean)) ∈ cx_G := cx_t2 97 (by decide +kernel) rfl
theorem hw_338 : (Jvm.Cond.methodLink "NamelessBox$Box" (47 : Nat) ({ cls := "NamelessBox$Rows", name := "isFull", desc := "()Z" } : Jvm.MethodName)) ∈ cx_G := cx_t2 98 (by decide +kernel) rfl
theorem hw_339 : (Jvm.Cond.instanceMethod ({ cls := "NamelessBox$Rows", name := "isFull", desc := "()Z" } : Jvm.MethodName)) ∈ cx_G := cx_t2 99 (by decide +kernel) rfl
theorem hw_340 : (Jvm.Cond.selects "NamelessBox$Rows" ({ cls := "NamelessBox$Rows", name := "isFull", desc := "()Z" } : Jvm.MethodName) ({ cls := "NamelessBox$Rows", name := "isFull", desc := "()Z" } : Jvm.MethodName)) ∈ cx_G := cx_t2 100 (by decide +kernel) rfl
theorem hw_341 : (Jvm.Cond.code ({ cls := "NamelessBox$Rows", name := "isFull", desc := "()Z" } : Jvm.MethodName) prog_6_method_3_code (1 : Nat) (Option.some Jvm.ClassFile.FieldType.boolean)) ∈ cx_G := cx_t2 101 (by decide +kernel) rfl
theorem hw_342 : (Jvm.Cond.methodLink "NamelessBox$Box" (51 : Nat) ({ cls := "NamelessBox$Rows", name := "grow", desc := "()I" } : Jvm.MethodName)) ∈ cx_G := cx_t2 102 (by decide +kernel) rfl
theorem hw_343 : (Jvm.Cond.instanceMethod ({ cls := "NamelessBox$Rows", name := "grow", desc := "()I" } : Jvm.MethodName)) ∈ cx_G := cx_t2 103 (by decide +kernel) rfl
theorem hw_344 : (Jvm.Cond.selects "NamelessBox$Rows" ({ cls := "NamelessBox$Rows", name := "grow", desc := "()I" } : Jvm.MethodName) ({ cls := "NamelessBox$Rows", name := "grow", desc := "()I" } : Jvm.MethodName)) ∈ cx_G := cx_t2 104 (by decide +kernel) rfl
theorem hw_345 : (Jvm.Cond.code ({ cls := "NamelessBox$Rows", name := "grow", desc := "()I" } : Jvm.MethodName) prog_6_method_6_code (1 : Nat) (Option.some Jvm.ClassFile.FieldType.int)) ∈ cx_G := cx_t2 105 (by decide +kernel) rfl
theorem hw_346 : (Jvm.Cond.methodLink "NamelessBox$Rows" (39 : Nat) ({ cls := "NamelessBox$Rows", name := "isFull", desc := "()Z" } : Jvm.MethodName)) ∈ cx_G := cx_t2 106 (by decide +kernel) rfl
theorem hw_347 : (Jvm.Cond.methodLink "NamelessBox$Box" (55 : Nat) ({ cls := "NamelessBox$Rows", name := "put", desc := "(III)V" } : Jvm.MethodName)) ∈ cx_G := cx_t2 107 (by decide +kernel) rfl
theorem hw_348 : (Jvm.Cond.instanceMethod ({ cls := "NamelessBox$Rows", name := "put", desc := "(III)V" } : Jvm.MethodName)) ∈ cx_G := cx_t2 108 (by decide +kernel) rfl
theorem hw_349 : (Jvm.Cond.selects "NamelessBox$Rows" ({ cls := "NamelessBox$Rows", name := "put", desc := "(III)V" } : Jvm.MethodName) ({ cls := "NamelessBox$Rows", name := "put", desc := "(III)V" } : Jvm.MethodName)) ∈ cx_G := cx_t2 109 (by decide +kernel) rfl
theorem hw_350 : (Jvm.Cond.code ({ cls := "NamelessBox$Rows", name := "put", desc := "(III)V" } : Jvm.MethodName) prog_6_method_5_code (4 : Nat) (Option.none : Option Jvm.ClassFile.FieldType)) ∈ cx_G := cx_t2 110 (by decide +kernel) rfl
theorem hw_351 : (Jvm.Cond.methodLink "NamelessBox$Rows" (31 : Nat) ({ cls := "NamelessBox$Rows", name := "has", desc := "(I)Z" } : Jvm.MethodName)) ∈ cx_G := cx_t2 111 (by decide +kernel) rfl
theorem hw_352 : (Jvm.Cond.instanceMethod ({ cls := "NamelessBox$Rows", name := "has", desc := "(I)Z" } : Jvm.MethodName)) ∈ cx_G := cx_t2 112 (by decide +kernel) rfl
theorem hw_353 : (Jvm.Cond.selects "NamelessBox$Rows" ({ cls := "NamelessBox$Rows", name := "has", desc := "(I)Z" } : Jvm.MethodName) ({ cls := "NamelessBox$Rows", name := "has", desc := "(I)Z" } : Jvm.MethodName)) ∈ cx_G := cx_t2 113 (by decide +kernel) rfl
theorem hw_354 : (Jvm.Cond.code ({ cls := "NamelessBox$Rows", name := "has", desc := "(I)Z" } : Jvm.MethodName) prog_6_method_2_code (2 : Nat) (Option.some Jvm.ClassFile.FieldType.boolean)) ∈ cx_G := cx_t2 114 (by decide +kernel) rfl
theorem hw_356 : (Jvm.Cond.methodLink "NamelessBox" (83 : Nat) ({ cls := "NamelessBox", name := "told", desc := "(I)I" } : Jvm.MethodName)) ∈ cx_G := cx_t2 116 (by decide +kernel) rfl
theorem hw_358 : (Jvm.Cond.instanceMethod ({ cls := "NamelessBox", name := "told", desc := "(I)I" } : Jvm.MethodName)) ∈ cx_G := cx_t2 118 (by decide +kernel) rfl
theorem hw_359 : (Jvm.Cond.code ({ cls := "NamelessBox", name := "told", desc := "(I)I" } : Jvm.MethodName) prog_1_method_47_code (2 : Nat) (Option.some Jvm.ClassFile.FieldType.int)) ∈ cx_G := cx_t2 119 (by decide +kernel) rfl
theorem hw_360 : (Jvm.Cond.methodLink "NamelessBox" (125 : Nat) ({ cls := "NamelessBox", name := "refused", desc := "(I)I" } : Jvm.MethodName)) ∈ cx_G := cx_t2 120 (by decide +kernel) rfl
theorem hw_362 : (Jvm.Cond.instanceMethod ({ cls := "NamelessBox", name := "refused", desc := "(I)I" } : Jvm.MethodName)) ∈ cx_G := cx_t2 122 (by decide +kernel) rfl
theorem hw_363 : (Jvm.Cond.code ({ cls := "NamelessBox", name := "refused", desc := "(I)I" } : Jvm.MethodName) prog_1_method_48_code (3 : Nat) (Option.some Jvm.ClassFile.FieldType.int)) ∈ cx_G := cx_t2 123 (by decide +kernel) rfl
theorem hw_364 : (Jvm.Cond.methodLink "NamelessBoxLaw" (18 : Nat) ({ cls := "NamelessBox", name := "parent", desc := "(II)I" } : Jvm.MethodName)) ∈ cx_G := cx_t2 124 (by decide +kernel) rfl
theorem hw_365 : (Jvm.Cond.instanceMethod ({ cls := "NamelessBox", name := "parent", desc := "(II)I" } : Jvm.MethodName)) ∈ cx_G := cx_t2 125 (by decide +kernel) rfl
theorem hw_366 : (Jvm.Cond.selects "NamelessBox" ({ cls := "NamelessBox", name := "parent", desc := "(II)I" } : Jvm.MethodName) ({ cls := "NamelessBox", name := "parent", desc := "(II)I" } : Jvm.MethodName)) ∈ cx_G := cx_t2 126 (by decide +kernel) rfl
theorem hw_367 : (Jvm.Cond.code ({ cls := "NamelessBox", name := "parent", desc := "(II)I" } : Jvm.MethodName) prog_1_method_3_code (3 : Nat) (Option.some Jvm.ClassFile.FieldType.int)) ∈ cx_G := cx_t2 127 (by decide +kernel) rfl
theorem hw_368 : (Jvm.Cond.methodLink "NamelessBox" (87 : Nat) ({ cls := "NamelessBox$Box", name := "setParent", desc := "(II)I" } : Jvm.MethodName)) ∈ cx_G := cx_t2 128 (by decide +kernel) rfl
theorem hw_369 : (Jvm.Cond.instanceMethod ({ cls := "NamelessBox$Box", name := "setParent", desc := "(II)I" } : Jvm.MethodName)) ∈ cx_G := cx_t2 129 (by decide +kernel) rfl
theorem hw_370 : (Jvm.Cond.selects "NamelessBox$Box" ({ cls := "NamelessBox$Box", name := "setParent", desc := "(II)I" } : Jvm.MethodName) ({ cls := "NamelessBox$Box", name := "setParent", desc := "(II)I" } : Jvm.MethodName)) ∈ cx_G := cx_t2 130 (by decide +kernel) rfl
theorem hw_371 : (Jvm.Cond.code ({ cls := "NamelessBox$Box", name := "setParent", desc := "(II)I" } : Jvm.MethodName) prog_3_method_5_code (4 : Nat) (Option.some Jvm.ClassFile.FieldType.int)) ∈ cx_G := cx_t2 131 (by decide +kernel) rfl
theorem hw_372 : (Jvm.Cond.methodLink "NamelessBox$Box" (59 : Nat) ({ cls := "NamelessBox$Rows", name := "has", desc := "(I)Z" } : Jvm.MethodName)) ∈ cx_G := cx_t2 132 (by decide +kernel) rfl
theorem hw_373 : (Jvm.Cond.methodLink "NamelessBox$Box" (63 : Nat) ({ cls := "NamelessBox$Box", name := "mayBeParent", desc := "(II)Z" } : Jvm.MethodName)) ∈ cx_G := cx_t2 133 (by decide +kernel) rfl
theorem hw_375 : (Jvm.Cond.instanceMethod ({ cls := "NamelessBox$Box", name := "mayBeParent", desc := "(II)Z" } : Jvm.MethodName)) ∈ cx_G := cx_t2 135 (by decide +kernel) rfl
theorem hw_376 : (Jvm.Cond.code ({ cls := "NamelessBox$Box", name := "mayBeParent", desc := "(II)Z" } : Jvm.MethodName) prog_3_method_6_code (4 : Nat) (Option.some Jvm.ClassFile.FieldType.boolean)) ∈ cx_G := cx_t2 136 (by decide +kernel) rfl
theorem hw_377 : (Jvm.Cond.methodLink "NamelessBox$Box" (67 : Nat) ({ cls := "NamelessBox$Rows", name := "at", desc := "(II)I" } : Jvm.MethodName)) ∈ cx_G := cx_t2 137 (by decide +kernel) rfl
theorem hw_378 : (Jvm.Cond.instanceMethod ({ cls := "NamelessBox$Rows", name := "at", desc := "(II)I" } : Jvm.MethodName)) ∈ cx_G := cx_t2 138 (by decide +kernel) rfl
theorem hw_379 : (Jvm.Cond.selects "NamelessBox$Rows" ({ cls := "NamelessBox$Rows", name := "at", desc := "(II)I" } : Jvm.MethodName) ({ cls := "NamelessBox$Rows", name := "at", desc := "(II)I" } : Jvm.MethodName)) ∈ cx_G := cx_t2 139 (by decide +kernel) rfl
theorem hw_380 : (Jvm.Cond.code ({ cls := "NamelessBox$Rows", name := "at", desc := "(II)I" } : Jvm.MethodName) prog_6_method_4_code (3 : Nat) (Option.some Jvm.ClassFile.FieldType.int)) ∈ cx_G := cx_t2 140 (by decide +kernel) rfl
theorem hw_381 : (Jvm.Cond.methodLink "NamelessBoxLaw" (23 : Nat) ({ cls := "NamelessBox", name := "near", desc := "(II)I" } : Jvm.MethodName)) ∈ cx_G := cx_t2 141 (by decide +kernel) rfl
theorem hw_382 : (Jvm.Cond.instanceMethod ({ cls := "NamelessBox", name := "near", desc := "(II)I" } : Jvm.MethodName)) ∈ cx_G := cx_t2 142 (by decide +kernel) rfl
theorem hw_383 : (Jvm.Cond.selects "NamelessBox" ({ cls := "NamelessBox", name := "near", desc := "(II)I" } : Jvm.MethodName) ({ cls := "NamelessBox", name := "near", desc := "(II)I" } : Jvm.MethodName)) ∈ cx_G := cx_t2 143 (by decide +kernel) rfl
theorem hw_384 : (Jvm.Cond.code ({ cls := "NamelessBox", name := "near", desc := "(II)I" } : Jvm.MethodName) prog_1_method_4_code (3 : Nat) (Option.some Jvm.ClassFile.FieldType.int)) ∈ cx_G := cx_t2 144 (by decide +kernel) rfl
theorem hw_385 : (Jvm.Cond.methodLink "NamelessBox" (91 : Nat) ({ cls := "NamelessBox$Box", name := "setNear", desc := "(II)I" } : Jvm.MethodName)) ∈ cx_G := cx_t2 145 (by decide +kernel) rfl
theorem hw_386 : (Jvm.Cond.instanceMethod ({ cls := "NamelessBox$Box", name := "setNear", desc := "(II)I" } : Jvm.MethodName)) ∈ cx_G := cx_t2 146 (by decide +kernel) rfl
theorem hw_387 : (Jvm.Cond.selects "NamelessBox$Box" ({ cls := "NamelessBox$Box", name := "setNear", desc := "(II)I" } : Jvm.MethodName) ({ cls := "NamelessBox$Box", name := "setNear", desc := "(II)I" } : Jvm.MethodName)) ∈ cx_G := cx_t2 147 (by decide +kernel) rfl
theorem hw_388 : (Jvm.Cond.code ({ cls := "NamelessBox$Box", name := "setNear", desc := "(II)I" } : Jvm.MethodName) prog_3_method_7_code (4 : Nat) (Option.some Jvm.ClassFile.FieldType.int)) ∈ cx_G := cx_t2 148 (by decide +kernel) rfl
theorem hw_389 : (Jvm.Cond.methodLink "NamelessBoxLaw" (27 : Nat) ({ cls := "NamelessBox", name := "picture", desc := "(II)I" } : Jvm.MethodName)) ∈ cx_G := cx_t2 149 (by decide +kernel) rfl
theorem hw_390 : (Jvm.Cond.instanceMethod ({ cls := "NamelessBox", name := "picture", desc := "(II)I" } : Jvm.MethodName)) ∈ cx_G := cx_t2 150 (by decide +kernel) rfl
theorem hw_391 : (Jvm.Cond.selects "NamelessBox" ({ cls := "NamelessBox", name := "picture", desc := "(II)I" } : Jvm.MethodName) ({ cls := "NamelessBox", name := "picture", desc := "(II)I" } : Jvm.MethodName)) ∈ cx_G := cx_t2 151 (by decide +kernel) rfl
theorem hw_392 : (Jvm.Cond.code ({ cls := "NamelessBox", name := "picture", desc := "(II)I" } : Jvm.MethodName) prog_1_method_5_code (3 : Nat) (Option.some Jvm.ClassFile.FieldType.int)) ∈ cx_G := cx_t2 152 (by decide +kernel) rfl
theorem hw_393 : (Jvm.Cond.methodLink "NamelessBox" (94 : Nat) ({ cls := "NamelessBox$Box", name := "addPicture", desc := "(II)I" } : Jvm.MethodName)) ∈ cx_G := cx_t2 153 (by decide +kernel) rfl
theorem hw_394 : (Jvm.Cond.instanceMethod ({ cls := "NamelessBox$Box", name := "addPicture", desc := "(II)I" } : Jvm.MethodName)) ∈ cx_G := cx_t2 154 (by decide +kernel) rfl
theorem hw_395 : (Jvm.Cond.selects "NamelessBox$Box" ({ cls := "NamelessBox$Box", name := "addPicture", desc := "(II)I" } : Jvm.MethodName) ({ cls := "NamelessBox$Box", name := "addPicture", desc := "(II)I" } : Jvm.MethodName)) ∈ cx_G := cx_t2 155 (by decide +kernel) rfl
theorem hw_396 : (Jvm.Cond.code ({ cls := "NamelessBox$Box", name := "addPicture", desc := "(II)I" } : Jvm.MethodName) prog_3_method_8_code (4 : Nat) (Option.some Jvm.ClassFile.FieldType.int)) ∈ cx_G := cx_t2 156 (by decide +kernel) rfl
theorem hw_397 : (Jvm.Cond.methodLink "NamelessBoxLaw" (31 : Nat) ({ cls := "NamelessBox", name := "head", desc := "(IIIII)I" } : Jvm.MethodName)) ∈ cx_G := cx_t2 157 (by decide +kernel) rfl
theorem hw_398 : (Jvm.Cond.instanceMethod ({ cls := "NamelessBox", name := "head", desc := "(IIIII)I" } : Jvm.MethodName)) ∈ cx_G := cx_t2 158 (by decide +kernel) rfl
theorem hw_399 : (Jvm.Cond.selects "NamelessBox" ({ cls := "NamelessBox", name := "head", desc := "(IIIII)I" } : Jvm.MethodName) ({ cls := "NamelessBox", name := "head", desc := "(IIIII)I" } : Jvm.MethodName)) ∈ cx_G := cx_t2 159 (by decide +kernel) rfl
theorem hw_400 : (Jvm.Cond.code ({ cls := "NamelessBox", name := "head", desc := "(IIIII)I" } : Jvm.MethodName) prog_1_method_6_code (6 : Nat) (Option.some Jvm.ClassFile.FieldType.int)) ∈ cx_G := cx_t2 160 (by decide +kernel) rfl
theorem hw_401 : (Jvm.Cond.methodLink "NamelessBox" (97 : Nat) ({ cls := "NamelessBox$Box", name := "addHead", desc := "(IIIII)I" } : Jvm.MethodName)) ∈ cx_G := cx_t2 161 (by decide +kernel) rfl
theorem hw_402 : (Jvm.Cond.instanceMethod ({ cls := "NamelessBox$Box", name := "addHead", desc := "(IIIII)I" } : Jvm.MethodName)) ∈ cx_G := cx_t2 162 (by decide +kernel) rfl
theorem hw_403 : (Jvm.Cond.selects "NamelessBox$Box" ({ cls := "NamelessBox$Box", name := "addHead", desc := "(IIIII)I" } : Jvm.MethodName) ({ cls := "NamelessBox$Box", name := "addHead", desc := "(IIIII)I" } : Jvm.MethodName)) ∈ cx_G := cx_t2 163 (by decide +kernel) rfl
theorem hw_404 : (Jvm.Cond.code ({ cls := "NamelessBox$Box", name := "addHead", desc := "(IIIII)I" } : Jvm.MethodName) prog_3_method_9_code (7 : Nat) (Option.some Jvm.ClassFile.FieldType.int)) ∈ cx_G := cx_t2 164 (by decide +kernel) rfl
theorem hw_405 : (Jvm.Cond.methodLink "NamelessBoxLaw" (36 : Nat) ({ cls := "NamelessBox", name := "name", desc := "(IIII)I" } : Jvm.MethodName)) ∈ cx_G := cx_t2 165 (by decide +kernel) rfl
theorem hw_406 : (Jvm.Cond.instanceMethod ({ cls := "NamelessBox", name := "name", desc := "(IIII)I" } : Jvm.MethodName)) ∈ cx_G := cx_t2 166 (by decide +kernel) rfl
theorem hw_407 : (Jvm.Cond.selects "NamelessBox" ({ cls := "NamelessBox", name := "name", desc := "(IIII)I" } : Jvm.MethodName) ({ cls := "NamelessBox", name := "name", desc := "(IIII)I" } : Jvm.MethodName)) ∈ cx_G := cx_t2 167 (by decide +kernel) rfl
theorem hw_408 : (Jvm.Cond.code ({ cls := "NamelessBox", name := "name", desc := "(IIII)I" } : Jvm.MethodName) prog_1_method_7_code (5 : Nat) (Option.some Jvm.ClassFile.FieldType.int)) ∈ cx_G := cx_t2 168 (by decide +kernel) rfl
theorem hw_409 : (Jvm.Cond.methodLink "NamelessBox" (101 : Nat) ({ cls := "NamelessBox$Box", name := "addName", desc := "(IIII)I" } : Jvm.MethodName)) ∈ cx_G := cx_t2 169 (by decide +kernel) rfl
theorem hw_410 : (Jvm.Cond.instanceMethod ({ cls := "NamelessBox$Box", name := "addName", desc := "(IIII)I" } : Jvm.MethodName)) ∈ cx_G := cx_t2 170 (by decide +kernel) rfl
theorem hw_411 : (Jvm.Cond.selects "NamelessBox$Box" ({ cls := "NamelessBox$Box", name := "addName", desc := "(IIII)I" } : Jvm.MethodName) ({ cls := "NamelessBox$Box", name := "addName", desc := "(IIII)I" } : Jvm.MethodName)) ∈ cx_G := cx_t2 171 (by decide +kernel) rfl
theorem hw_412 : (Jvm.Cond.code ({ cls := "NamelessBox$Box", name := "addName", desc := "(IIII)I" } : Jvm.MethodName) prog_3_method_10_code (6 : Nat) (Option.some Jvm.ClassFile.FieldType.int)) ∈ cx_G := cx_t2 172 (by decide +kernel) rfl
theorem hw_413 : (Jvm.Cond.methodLink "NamelessBoxLaw" (40 : Nat) ({ cls := "NamelessBox", name := "join", desc := "(III)I" } : Jvm.MethodName)) ∈ cx_G := cx_t2 173 (by decide +kernel) rfl
theorem hw_414 : (Jvm.Cond.instanceMethod ({ cls := "NamelessBox", name := "join", desc := "(III)I" } : Jvm.MethodName)) ∈ cx_G := cx_t2 174 (by decide +kernel) rfl
theorem hw_415 : (Jvm.Cond.selects "NamelessBox" ({ cls := "NamelessBox", name := "join", desc := "(III)I" } : Jvm.MethodName) ({ cls := "NamelessBox", name := "join", desc := "(III)I" } : Jvm.MethodName)) ∈ cx_G := cx_t2 175 (by decide +kernel) rfl
theorem hw_416 : (Jvm.Cond.code ({ cls := "NamelessBox", name := "join", desc := "(III)I" } : Jvm.MethodName) prog_1_method_8_code (4 : Nat) (Option.some Jvm.ClassFile.FieldType.int)) ∈ cx_G := cx_t2 176 (by decide +kernel) rfl
theorem hw_417 : (Jvm.Cond.methodLink "NamelessBox" (104 : Nat) ({ cls := "NamelessBox$Box", name := "addJoin", desc := "(III)I" } : Jvm.MethodName)) ∈ cx_G := cx_t2 177 (by decide +kernel) rfl
theorem hw_418 : (Jvm.Cond.instanceMethod ({ cls := "NamelessBox$Box", name := "addJoin", desc := "(III)I" } : Jvm.MethodName)) ∈ cx_G := cx_t2 178 (by decide +kernel) rfl
theorem hw_419 : (Jvm.Cond.selects "NamelessBox$Box" ({ cls := "NamelessBox$Box", name := "addJoin", desc := "(III)I" } : Jvm.MethodName) ({ cls := "NamelessBox$Box", name := "addJoin", desc := "(III)I" } : Jvm.MethodName)) ∈ cx_G := cx_t2 179 (by decide +kernel) rfl
theorem hw_420 : (Jvm.Cond.code ({ cls := "NamelessBox$Box", name := "addJoin", desc := "(III)I" } : Jvm.MethodName) prog_3_method_11_code (5 : Nat) (Option.some Jvm.ClassFile.FieldType.int)) ∈ cx_G := cx_t2 180 (by decide +kernel) rfl
theorem hw_421 : (Jvm.Cond.methodLink "NamelessBoxLaw" (45 : Nat) ({ cls := "NamelessBox", name := "strange", desc := "(I)I" } : Jvm.MethodName)) ∈ cx_G := cx_t2 181 (by decide +kernel) rfl
theorem hw_422 : (Jvm.Cond.instanceMethod ({ cls := "NamelessBox", name := "strange", desc := "(I)I" } : Jvm.MethodName)) ∈ cx_G := cx_t2 182 (by decide +kernel) rfl
theorem hw_423 : (Jvm.Cond.selects "NamelessBox" ({ cls := "NamelessBox", name := "strange", desc := "(I)I" } : Jvm.MethodName) ({ cls := "NamelessBox", name := "strange", desc := "(I)I" } : Jvm.MethodName)) ∈ cx_G := cx_t2 183 (by decide +kernel) rfl
theorem hw_424 : (Jvm.Cond.code ({ cls := "NamelessBox", name := "strange", desc := "(I)I" } : Jvm.MethodName) prog_1_method_9_code (2 : Nat) (Option.some Jvm.ClassFile.FieldType.int)) ∈ cx_G := cx_t2 184 (by decide +kernel) rfl
theorem hw_425 : (Jvm.Cond.methodLink "NamelessBox" (108 : Nat) ({ cls := "NamelessBox$Box", name := "setStrange", desc := "(I)I" } : Jvm.MethodName)) ∈ cx_G := cx_t2 185 (by decide +kernel) rfl
theorem hw_426 : (Jvm.Cond.instanceMethod ({ cls := "NamelessBox$Box", name := "setStrange", desc := "(I)I" } : Jvm.MethodName)) ∈ cx_G := cx_t2 186 (by decide +kernel) rfl
theorem hw_427 : (Jvm.Cond.selects "NamelessBox$Box" ({ cls := "NamelessBox$Box", name := "setStrange", desc := "(I)I" } : Jvm.MethodName) ({ cls := "NamelessBox$Box", name := "setStrange", desc := "(I)I" } : Jvm.MethodName)) ∈ cx_G := cx_t2 187 (by decide +kernel) rfl
theorem hw_428 : (Jvm.Cond.code ({ cls := "NamelessBox$Box", name := "setStrange", desc := "(I)I" } : Jvm.MethodName) prog_3_method_12_code (3 : Nat) (Option.some Jvm.ClassFile.FieldType.int)) ∈ cx_G := cx_t2 188 (by decide +kernel) rfl
theorem hw_429 : (Jvm.Cond.methodLink "NamelessBoxLaw" (50 : Nat) ({ cls := "NamelessBox", name := "mark", desc := "(II)I" } : Jvm.MethodName)) ∈ cx_G := cx_t2 189 (by decide +kernel) rfl
theorem hw_430 : (Jvm.Cond.instanceMethod ({ cls := "NamelessBox", name := "mark", desc := "(II)I" } : Jvm.MethodName)) ∈ cx_G := cx_t2 190 (by decide +kernel) rfl
theorem hw_431 : (Jvm.Cond.selects "NamelessBox" ({ cls := "NamelessBox", name := "mark", desc := "(II)I" } : Jvm.MethodName) ({ cls := "NamelessBox", name := "mark", desc := "(II)I" } : Jvm.MethodName)) ∈ cx_G := cx_t2 191 (by decide +kernel) rfl
theorem hw_432 : (Jvm.Cond.code ({ cls := "NamelessBox", name := "mark", desc := "(II)I" } : Jvm.MethodName) prog_1_method_10_code (3 : Nat) (Option.some Jvm.ClassFile.FieldType.int)) ∈ cx_G := cx_t2 192 (by decide +kernel) rfl
theorem hw_433 : (Jvm.Cond.methodLink "NamelessBox" (115 : Nat) ({ cls := "NamelessBox$Rows", name := "has", desc := "(I)Z" } : Jvm.MethodName)) ∈ cx_G := cx_t2 193 (by decide +kernel) rfl
theorem hw_434 : (Jvm.Cond.methodLink "NamelessBox" (121 : Nat) ({ cls := "NamelessBox", name := "within", desc := "(III)Z" } : Jvm.MethodName)) ∈ cx_G := cx_t2 194 (by decide +kernel) rfl
theorem hw_435 : (Jvm.Cond.methodLink "NamelessBox" (128 : Nat) ({ cls := "NamelessBox$Box", name := "markOf", desc := "(II)I" } : Jvm.MethodName)) ∈ cx_G := cx_t2 195 (by decide +kernel) rfl
theorem hw_436 : (Jvm.Cond.instanceMethod ({ cls := "NamelessBox$Box", name := "markOf", desc := "(II)I" } : Jvm.MethodName)) ∈ cx_G := cx_t2 196 (by decide +kernel) rfl
theorem hw_437 : (Jvm.Cond.selects "NamelessBox$Box" ({ cls := "NamelessBox$Box", name := "markOf", desc := "(II)I" } : Jvm.MethodName) ({ cls := "NamelessBox$Box", name := "markOf", desc := "(II)I" } : Jvm.MethodName)) ∈ cx_G := cx_t2 197 (by decide +kernel) rfl
theorem hw_438 : (Jvm.Cond.code ({ cls := "NamelessBox$Box", name := "markOf", desc := "(II)I" } : Jvm.MethodName) prog_3_method_13_code (5 : Nat) (Option.some Jvm.ClassFile.FieldType.int)) ∈ cx_G := cx_t2 198 (by decide +kernel) rfl
theorem hw_439 : (Jvm.Cond.methodLink "NamelessBoxLaw" (54 : Nat) ({ cls := "NamelessBox", name := "like", desc := "(III)I" } : Jvm.MethodName)) ∈ cx_G := cx_t2 199 (by decide +kernel) rfl
theorem hw_440 : (Jvm.Cond.instanceMethod ({ cls := "NamelessBox", name := "like", desc := "(III)I" } : Jvm.MethodName)) ∈ cx_G := cx_t2 200 (by decide +kernel) rfl
theorem hw_441 : (Jvm.Cond.selects "NamelessBox" ({ cls := "NamelessBox", name := "like", desc := "(III)I" } : Jvm.MethodName) ({ cls := "NamelessBox", name := "like", desc := "(III)I" } : Jvm.MethodName)) ∈ cx_G := cx_t2 201 (by decide +kernel) rfl
theorem hw_442 : (Jvm.Cond.code ({ cls := "NamelessBox", name := "like", desc := "(III)I" } : Jvm.MethodName) prog_1_method_11_code (5 : Nat) (Option.some Jvm.ClassFile.FieldType.int)) ∈ cx_G := cx_t2 202 (by decide +kernel) rfl
theorem hw_443 : (Jvm.Cond.methodLink "NamelessBox" (134 : Nat) ({ cls := "NamelessBox", name := "isWho", desc := "(I)Z" } : Jvm.MethodName)) ∈ cx_G := cx_t2 203 (by decide +kernel) rfl
theorem hw_445 : (Jvm.Cond.instanceMethod ({ cls := "NamelessBox", name := "isWho", desc := "(I)Z" } : Jvm.MethodName)) ∈ cx_G := cx_t2 205 (by decide +kernel) rfl
theorem hw_446 : (Jvm.Cond.code ({ cls := "NamelessBox", name := "isWho", desc := "(I)Z" } : Jvm.MethodName) prog_1_method_42_code (2 : Nat) (Option.some Jvm.ClassFile.FieldType.boolean)) ∈ cx_G := cx_t2 206 (by decide +kernel) rfl
theorem hw_447 : (Jvm.Cond.methodLink "NamelessBox" (137 : Nat) ({ cls := "NamelessBox", name := "whoIs", desc := "(I)I" } : Jvm.MethodName)) ∈ cx_G := cx_t2 207 (by decide +kernel) rfl
theorem hw_448 : (Jvm.Cond.static ({ cls := "NamelessBox", name := "whoIs", desc := "(I)I" } : Jvm.MethodName)) ∈ cx_G := cx_t2 208 (by decide +kernel) rfl
theorem hw_449 : (Jvm.Cond.code ({ cls := "NamelessBox", name := "whoIs", desc := "(I)I" } : Jvm.MethodName) prog_1_method_43_code (1 : Nat) (Option.some Jvm.ClassFile.FieldType.int)) ∈ cx_G := cx_t2 209 (by decide +kernel) rfl
theorem hw_450 : (Jvm.Cond.methodLink "NamelessBox" (140 : Nat) ({ cls := "NamelessBox$Box", name := "marksLike", desc := "(II)I" } : Jvm.MethodName)) ∈ cx_G := cx_t2 210 (by decide +kernel) rfl
theorem hw_451 : (Jvm.Cond.instanceMethod ({ cls := "NamelessBox$Box", name := "marksLike", desc := "(II)I" } : Jvm.MethodName)) ∈ cx_G := cx_t2 211 (by decide +kernel) rfl
theorem hw_452 : (Jvm.Cond.selects "NamelessBox$Box" ({ cls := "NamelessBox$Box", name := "marksLike", desc := "(II)I" } : Jvm.MethodName) ({ cls := "NamelessBox$Box", name := "marksLike", desc := "(II)I" } : Jvm.MethodName)) ∈ cx_G := cx_t2 212 (by decide +kernel) rfl
theorem hw_453 : (Jvm.Cond.code ({ cls := "NamelessBox$Box", name := "marksLike", desc := "(II)I" } : Jvm.MethodName) prog_3_method_14_code (7 : Nat) (Option.some Jvm.ClassFile.FieldType.int)) ∈ cx_G := cx_t2 213 (by decide +kernel) rfl
theorem hw_454 : (Jvm.Cond.methodLink "NamelessBox$Box" (71 : Nat) ({ cls := "NamelessBox$Box", name := "markOf", desc := "(II)I" } : Jvm.MethodName)) ∈ cx_G := cx_t2 214 (by decide +kernel) rfl
theorem hw_455 : (Jvm.Cond.methodLink "NamelessBox" (143 : Nat) ({ cls := "NamelessBox$Box", name := "ageLike", desc := "(III)I" } : Jvm.MethodName)) ∈ cx_G := cx_t2 215 (by decide +kernel) rfl
theorem hw_456 : (Jvm.Cond.instanceMethod ({ cls := "NamelessBox$Box", name := "ageLike", desc := "(III)I" } : Jvm.MethodName)) ∈ cx_G := cx_t2 216 (by decide +kernel) rfl
theorem hw_457 : (Jvm.Cond.selects "NamelessBox$Box" ({ cls := "NamelessBox$Box", name := "ageLike", desc := "(III)I" } : Jvm.MethodName) ({ cls := "NamelessBox$Box", name := "ageLike", desc := "(III)I" } : Jvm.MethodName)) ∈ cx_G := cx_t2 217 (by decide +kernel) rfl
theorem hw_458 : (Jvm.Cond.code ({ cls := "NamelessBox$Box", name := "ageLike", desc := "(III)I" } : Jvm.MethodName) prog_3_method_15_code (7 : Nat) (Option.some Jvm.ClassFile.FieldType.int)) ∈ cx_G := cx_t2 218 (by decide +kernel) rfl
theorem hw_459 : (Jvm.Cond.methodLink "NamelessBoxLaw" (58 : Nat) ({ cls := "NamelessBox", name := "truth", desc := "(I)I" } : Jvm.MethodName)) ∈ cx_G := cx_t2 219 (by decide +kernel) rfl
theorem hw_460 : (Jvm.Cond.instanceMethod ({ cls := "NamelessBox", name := "truth", desc := "(I)I" } : Jvm.MethodName)) ∈ cx_G := cx_t2 220 (by decide +kernel) rfl
theorem hw_461 : (Jvm.Cond.selects "NamelessBox" ({ cls := "NamelessBox", name := "truth", desc := "(I)I" } : Jvm.MethodName) ({ cls := "NamelessBox", name := "truth", desc := "(I)I" } : Jvm.MethodName)) ∈ cx_G := cx_t2 221 (by decide +kernel) rfl
theorem hw_462 : (Jvm.Cond.code ({ cls := "NamelessBox", name := "truth", desc := "(I)I" } : Jvm.MethodName) prog_1_method_12_code (2 : Nat) (Option.some Jvm.ClassFile.FieldType.int)) ∈ cx_G := cx_t2 222 (by decide +kernel) rfl
theorem hw_463 : (Jvm.Cond.methodLink "NamelessBox" (149 : Nat) ({ cls := "NamelessBox$Box", name := "truthOf", desc := "(I)I" } : Jvm.MethodName)) ∈ cx_G := cx_t2 223 (by decide +kernel) rfl
theorem hw_464 : (Jvm.Cond.instanceMethod ({ cls := "NamelessBox$Box", name := "truthOf", desc := "(I)I" } : Jvm.MethodName)) ∈ cx_G := cx_t2 224 (by decide +kernel) rfl
theorem hw_465 : (Jvm.Cond.selects "NamelessBox$Box" ({ cls := "NamelessBox$Box", name := "truthOf", desc := "(I)I" } : Jvm.MethodName) ({ cls := "NamelessBox$Box", name := "truthOf", desc := "(I)I" } : Jvm.MethodName)) ∈ cx_G := cx_t2 225 (by decide +kernel) rfl
theorem hw_466 : (Jvm.Cond.code ({ cls := "NamelessBox$Box", name := "truthOf", desc := "(I)I" } : Jvm.MethodName) prog_3_method_16_code (3 : Nat) (Option.some Jvm.ClassFile.FieldType.int)) ∈ cx_G := cx_t2 226 (by decide +kernel) rfl
theorem hw_467 : (Jvm.Cond.methodLink "NamelessBoxLaw" (64 : Nat) ({ cls := "NamelessBox", name := "type", desc := "(JI)I" } : Jvm.MethodName)) ∈ cx_G := cx_t2 227 (by decide +kernel) rfl
theorem hw_468 : (Jvm.Cond.instanceMethod ({ cls := "NamelessBox", name := "type", desc := "(JI)I" } : Jvm.MethodName)) ∈ cx_G := cx_t2 228 (by decide +kernel) rfl
theorem hw_469 : (Jvm.Cond.selects "NamelessBox" ({ cls := "NamelessBox", name := "type", desc := "(JI)I" } : Jvm.MethodName) ({ cls := "NamelessBox", name := "type", desc := "(JI)I" } : Jvm.MethodName)) ∈ cx_G := cx_t2 229 (by decide +kernel) rfl
theorem hw_470 : (Jvm.Cond.code ({ cls := "NamelessBox", name := "type", desc := "(JI)I" } : Jvm.MethodName) prog_1_method_13_code (4 : Nat) (Option.some Jvm.ClassFile.FieldType.int)) ∈ cx_G := cx_t2 230 (by decide +kernel) rfl
theorem hw_471 : (Jvm.Cond.methodLink "NamelessBox" (152 : Nat) ({ cls := "NamelessBox$Text", name := "hasRoom", desc := "(I)Z" } : Jvm.MethodName)) ∈ cx_G := cx_t2 231 (by decide +kernel) rfl
theorem hw_472 : (Jvm.Cond.instanceMethod ({ cls := "NamelessBox$Text", name := "hasRoom", desc := "(I)Z" } : Jvm.MethodName)) ∈ cx_G := cx_t2 232 (by decide +kernel) rfl
theorem hw_473 : (Jvm.Cond.selects "NamelessBox$Text" ({ cls := "NamelessBox$Text", name := "hasRoom", desc := "(I)Z" } : Jvm.MethodName) ({ cls := "NamelessBox$Text", name := "hasRoom", desc := "(I)Z" } : Jvm.MethodName)) ∈ cx_G := cx_t2 233 (by decide +kernel) rfl
theorem hw_474 : (Jvm.Cond.code ({ cls := "NamelessBox$Text", name := "hasRoom", desc := "(I)Z" } : Jvm.MethodName) prog_8_method_2_code (2 : Nat) (Option.some Jvm.ClassFile.FieldType.boolean)) ∈ cx_G := cx_t2 234 (by decide +kernel) rfl
theorem hw_475 : (Jvm.Cond.methodLink "NamelessBox" (155 : Nat) ({ cls := "NamelessBox$Text", name := "append", desc := "(JI)I" } : Jvm.MethodName)) ∈ cx_G := cx_t2 235 (by decide +kernel) rfl
theorem hw_476 : (Jvm.Cond.instanceMethod ({ cls := "NamelessBox$Text", name := "append", desc := "(JI)I" } : Jvm.MethodName)) ∈ cx_G := cx_t2 236 (by decide +kernel) rfl
theorem hw_477 : (Jvm.Cond.selects "NamelessBox$Text" ({ cls := "NamelessBox$Text", name := "append", desc := "(JI)I" } : Jvm.MethodName) ({ cls := "NamelessBox$Text", name := "append", desc := "(JI)I" } : Jvm.MethodName)) ∈ cx_G := cx_t2 237 (by decide +kernel) rfl
theorem hw_478 : (Jvm.Cond.code ({ cls := "NamelessBox$Text", name := "append", desc := "(JI)I" } : Jvm.MethodName) prog_8_method_3_code (5 : Nat) (Option.some Jvm.ClassFile.FieldType.int)) ∈ cx_G := cx_t2 238 (by decide +kernel) rfl
theorem hw_479 : (Jvm.Cond.constantLong "NamelessBox$Text" (32 : Nat) (255 : Int64)) ∈ cx_G := cx_t2 239 (by decide +kernel) rfl
theorem hw_480 : (Jvm.Cond.methodLink "NamelessBoxLaw" (69 : Nat) ({ cls := "NamelessBox", name := "clear", desc := "()I" } : Jvm.MethodName)) ∈ cx_G := cx_t3 0 (by decide +kernel) rfl
theorem hw_481 : (Jvm.Cond.instanceMethod ({ cls := "NamelessBox", name := "clear", desc := "()I" } : Jvm.MethodName)) ∈ cx_G := cx_t3 1 (by decide +kernel) rfl
theorem hw_482 : (Jvm.Cond.selects "NamelessBox" ({ cls := "NamelessBox", name := "clear", desc := "()I" } : Jvm.MethodName) ({ cls := "NamelessBox", name := "clear", desc := "()I" } : Jvm.MethodName)) ∈ cx_G := cx_t3 2 (by decide +kernel) rfl
theorem hw_483 : (Jvm.Cond.code ({ cls := "NamelessBox", name := "clear", desc := "()I" } : Jvm.MethodName) prog_1_method_14_code (1 : Nat) (Option.some Jvm.ClassFile.FieldType.int)) ∈ cx_G := cx_t3 3 (by decide +kernel) rfl
theorem hw_484 : (Jvm.Cond.methodLink "NamelessBox" (159 : Nat) ({ cls := "NamelessBox$Text", name := "empty", desc := "()I" } : Jvm.MethodName)) ∈ cx_G := cx_t3 4 (by decide +kernel) rfl
theorem hw_485 : (Jvm.Cond.instanceMethod ({ cls := "NamelessBox$Text", name := "empty", desc := "()I" } : Jvm.MethodName)) ∈ cx_G := cx_t3 5 (by decide +kernel) rfl
theorem hw_486 : (Jvm.Cond.selects "NamelessBox$Text" ({ cls := "NamelessBox$Text", name := "empty", desc := "()I" } : Jvm.MethodName) ({ cls := "NamelessBox$Text", name := "empty", desc := "()I" } : Jvm.MethodName)) ∈ cx_G := cx_t3 6 (by decide +kernel) rfl
theorem hw_487 : (Jvm.Cond.code ({ cls := "NamelessBox$Text", name := "empty", desc := "()I" } : Jvm.MethodName) prog_8_method_4_code (2 : Nat) (Option.some Jvm.ClassFile.FieldType.int)) ∈ cx_G := cx_t3 7 (by decide +kernel) rfl
theorem hw_488 : (Jvm.Cond.methodLink "NamelessBoxLaw" (74 : Nat) ({ cls := "NamelessBox", name := "read", desc := "()I" } : Jvm.MethodName)) ∈ cx_G := cx_t3 8 (by decide +kernel) rfl
theorem hw_489 : (Jvm.Cond.instanceMethod ({ cls := "NamelessBox", name := "read", desc := "()I" } : Jvm.MethodName)) ∈ cx_G := cx_t3 9 (by decide +kernel) rfl
theorem hw_490 : (Jvm.Cond.selects "NamelessBox" ({ cls := "NamelessBox", name := "read", desc := "()I" } : Jvm.MethodName) ({ cls := "NamelessBox", name := "read", desc := "()I" } : Jvm.MethodName)) ∈ cx_G := cx_t3 10 (by decide +kernel) rfl
theorem hw_491 : (Jvm.Cond.code ({ cls := "NamelessBox", name := "read", desc := "()I" } : Jvm.MethodName) prog_1_method_15_code (3 : Nat) (Option.some Jvm.ClassFile.FieldType.int)) ∈ cx_G := cx_t3 11 (by decide +kernel) rfl
theorem hw_492 : (Jvm.Cond.methodLink "NamelessBox" (163 : Nat) ({ cls := "NamelessBox$Text", name := "findFault", desc := "()I" } : Jvm.MethodName)) ∈ cx_G := cx_t3 12 (by decide +kernel) rfl
theorem hw_493 : (Jvm.Cond.instanceMethod ({ cls := "NamelessBox$Text", name := "findFault", desc := "()I" } : Jvm.MethodName)) ∈ cx_G := cx_t3 13 (by decide +kernel) rfl
theorem hw_494 : (Jvm.Cond.selects "NamelessBox$Text" ({ cls := "NamelessBox$Text", name := "findFault", desc := "()I" } : Jvm.MethodName) ({ cls := "NamelessBox$Text", name := "findFault", desc := "()I" } : Jvm.MethodName)) ∈ cx_G := cx_t3 14 (by decide +kernel) rfl
theorem hw_495 : (Jvm.Cond.code ({ cls := "NamelessBox$Text", name := "findFault", desc := "()I" } : Jvm.MethodName) prog_8_method_5_code (3 : Nat) (Option.some Jvm.ClassFile.FieldType.int)) ∈ cx_G := cx_t3 15 (by decide +kernel) rfl
theorem hw_496 : (Jvm.Cond.methodLink "NamelessBox$Text" (34 : Nat) ({ cls := "NamelessBox$Text", name := "advance", desc := "()I" } : Jvm.MethodName)) ∈ cx_G := cx_t3 16 (by decide +kernel) rfl
theorem hw_498 : (Jvm.Cond.instanceMethod ({ cls := "NamelessBox$Text", name := "advance", desc := "()I" } : Jvm.MethodName)) ∈ cx_G := cx_t3 18 (by decide +kernel) rfl
theorem hw_499 : (Jvm.Cond.code ({ cls := "NamelessBox$Text", name := "advance", desc := "()I" } : Jvm.MethodName) prog_8_method_10_code (1 : Nat) (Option.some Jvm.ClassFile.FieldType.int)) ∈ cx_G := cx_t3 19 (by decide +kernel) rfl
theorem hw_500 : (Jvm.Cond.methodLink "NamelessBox$Text" (105 : Nat) ({ cls := "NamelessBox$Text", name := "isLetter", desc := "(C)Z" } : Jvm.MethodName)) ∈ cx_G := cx_t3 20 (by decide +kernel) rfl
theorem hw_501 : (Jvm.Cond.static ({ cls := "NamelessBox$Text", name := "isLetter", desc := "(C)Z" } : Jvm.MethodName)) ∈ cx_G := cx_t3 21 (by decide +kernel) rfl
theorem hw_502 : (Jvm.Cond.code ({ cls := "NamelessBox$Text", name := "isLetter", desc := "(C)Z" } : Jvm.MethodName) prog_8_method_11_code (1 : Nat) (Option.some Jvm.ClassFile.FieldType.boolean)) ∈ cx_G := cx_t3 22 (by decide +kernel) rfl
theorem hw_503 : (Jvm.Cond.methodLink "NamelessBox$Text" (109 : Nat) ({ cls := "NamelessBox$Text", name := "isFigure", desc := "(C)Z" } : Jvm.MethodName)) ∈ cx_G := cx_t3 23 (by decide +kernel) rfl
theorem hw_504 : (Jvm.Cond.static ({ cls := "NamelessBox$Text", name := "isFigure", desc := "(C)Z" } : Jvm.MethodName)) ∈ cx_G := cx_t3 24 (by decide +kernel) rfl
theorem hw_505 : (Jvm.Cond.code ({ cls := "NamelessBox$Text", name := "isFigure", desc := "(C)Z" } : Jvm.MethodName) prog_8_method_12_code (1 : Nat) (Option.some Jvm.ClassFile.FieldType.boolean)) ∈ cx_G := cx_t3 25 (by decide +kernel) rfl
theorem hw_506 : (Jvm.Cond.methodLink "NamelessBox$Text" (38 : Nat) ({ cls := "NamelessBox$Text", name := "takeItem", desc := "(I)Z" } : Jvm.MethodName)) ∈ cx_G := cx_t3 26 (by decide +kernel) rfl
theorem hw_508 : (Jvm.Cond.instanceMethod ({ cls := "NamelessBox$Text", name := "takeItem", desc := "(I)Z" } : Jvm.MethodName)) ∈ cx_G := cx_t3 28 (by decide +kernel) rfl
theorem hw_509 : (Jvm.Cond.code ({ cls := "NamelessBox$Text", name := "takeItem", desc := "(I)Z" } : Jvm.MethodName) prog_8_method_7_code (3 : Nat) (Option.some Jvm.ClassFile.FieldType.boolean)) ∈ cx_G := cx_t3 29 (by decide +kernel) rfl
theorem hw_510 : (Jvm.Cond.methodLink "NamelessBox$Text" (51 : Nat) ({ cls := "NamelessBox$Text", name := "itemOf", desc := "()I" } : Jvm.MethodName)) ∈ cx_G := cx_t3 30 (by decide +kernel) rfl
theorem hw_512 : (Jvm.Cond.instanceMethod ({ cls := "NamelessBox$Text", name := "itemOf", desc := "()I" } : Jvm.MethodName)) ∈ cx_G := cx_t3 32 (by decide +kernel) rfl
theorem hw_513 : (Jvm.Cond.code ({ cls := "NamelessBox$Text", name := "itemOf", desc := "()I" } : Jvm.MethodName) prog_8_method_13_code (2 : Nat) (Option.some Jvm.ClassFile.FieldType.int)) ∈ cx_G := cx_t3 33 (by decide +kernel) rfl
theorem hw_514 : (Jvm.Cond.methodLink "NamelessBox$Text" (112 : Nat) ({ cls := "NamelessBox$Text", name := "wordOf", desc := "(I)Ljava/lang/String;" } : Jvm.MethodName)) ∈ cx_G := cx_t3 34 (by decide +kernel) rfl
theorem hw_515 : (Jvm.Cond.static ({ cls := "NamelessBox$Text", name := "wordOf", desc := "(I)Ljava/lang/String;" } : Jvm.MethodName)) ∈ cx_G := cx_t3 35 (by decide +kernel) rfl
theorem hw_516 : (Jvm.Cond.code ({ cls := "NamelessBox$Text", name := "wordOf", desc := "(I)Ljava/lang/String;" } : Jvm.MethodName) prog_8_method_9_code (1 : Nat) (Option.some (Jvm.ClassFile.FieldType.object "java/lang/String"))) ∈ cx_G := cx_t3 36 (by decide +kernel) rfl
theorem hw_525 : (Jvm.Cond.methodLink "NamelessBox$Text" (116 : Nat) ({ cls := "NamelessBox$Text", name := "isWord", desc := "(Ljava/lang/String;)Z" } : Jvm.MethodName)) ∈ cx_G := cx_t3 45 (by decide +kernel) rfl
theorem hw_527 : (Jvm.Cond.instanceMethod ({ cls := "NamelessBox$Text", name := "isWord", desc := "(Ljava/lang/String;)Z" } : Jvm.MethodName)) ∈ cx_G := cx_t3 47 (by decide +kernel) rfl
theorem hw_528 : (Jvm.Cond.code ({ cls := "NamelessBox$Text", name := "isWord", desc := "(Ljava/lang/String;)Z" } : Jvm.MethodName) prog_8_method_14_code (3 : Nat) (Option.some Jvm.ClassFile.FieldType.boolean)) ∈ cx_G := cx_t3 48 (by decide +kernel) rfl
theorem hw_529 : (Jvm.Cond.methodLink "NamelessBox$Text" (120 : Nat) ({ cls := "java/lang/String", name := "length", desc := "()I" } : Jvm.MethodName)) ∈ cx_G := cx_t3 49 (by decide +kernel) rfl
theorem hw_530 : (Jvm.Cond.instanceMethod ({ cls := "java/lang/String", name := "length", desc := "()I" } : Jvm.MethodName)) ∈ cx_G := cx_t3 50 (by decide +kernel) rfl
theorem hw_531 : (Jvm.Cond.selects "java/lang/String" ({ cls := "java/lang/String", name := "length", desc := "()I" } : Jvm.MethodName) ({ cls := "java/lang/String", name := "length", desc := "()I" } : Jvm.MethodName)) ∈ cx_G := cx_t3 51 (by decide +kernel) rfl
theorem hw_532 : (Jvm.Cond.code ({ cls := "java/lang/String", name := "length", desc := "()I" } : Jvm.MethodName) prog_14_method_54_code (1 : Nat) (Option.some Jvm.ClassFile.FieldType.int)) ∈ cx_G := cx_t3 52 (by decide +kernel) rfl
theorem hw_533 : (Jvm.Cond.methodLink "java/lang/String" (335 : Nat) ({ cls := "java/lang/String", name := "coder", desc := "()B" } : Jvm.MethodName)) ∈ cx_G := cx_t3 53 (by decide +kernel) rfl
theorem hw_534 : (Jvm.Cond.instanceMethod ({ cls := "java/lang/String", name := "coder", desc := "()B" } : Jvm.MethodName)) ∈ cx_G := cx_t3 54 (by decide +kernel) rfl
theorem hw_535 : (Jvm.Cond.selects "java/lang/String" ({ cls := "java/lang/String", name := "coder", desc := "()B" } : Jvm.MethodName) ({ cls := "java/lang/String", name := "coder", desc := "()B" } : Jvm.MethodName)) ∈ cx_G := cx_t3 55 (by decide +kernel) rfl
theorem hw_536 : (Jvm.Cond.code ({ cls := "java/lang/String", name := "coder", desc := "()B" } : Jvm.MethodName) prog_14_method_152_code (1 : Nat) (Option.some Jvm.ClassFile.FieldType.byte)) ∈ cx_G := cx_t3 56 (by decide +kernel) rfl
theorem hw_537 : (Jvm.Cond.fieldLink "java/lang/String" (38 : Nat) "java/lang/String" "COMPACT_STRINGS" "Z") ∈ cx_G := cx_t3 57 (by decide +kernel) rfl
theorem hw_539 : (Jvm.Cond.methodLink "NamelessBox$Text" (124 : Nat) ({ cls := "java/lang/String", name := "charAt", desc := "(I)C" } : Jvm.MethodName)) ∈ cx_G := cx_t3 59 (by decide +kernel) rfl
theorem hw_540 : (Jvm.Cond.instanceMethod ({ cls := "java/lang/String", name := "charAt", desc := "(I)C" } : Jvm.MethodName)) ∈ cx_G := cx_t3 60 (by decide +kernel) rfl
theorem hw_541 : (Jvm.Cond.selects "java/lang/String" ({ cls := "java/lang/String", name := "charAt", desc := "(I)C" } : Jvm.MethodName) ({ cls := "java/lang/String", name := "charAt", desc := "(I)C" } : Jvm.MethodName)) ∈ cx_G := cx_t3 61 (by decide +kernel) rfl
theorem hw_542 : (Jvm.Cond.code ({ cls := "java/lang/String", name := "charAt", desc := "(I)C" } : Jvm.MethodName) prog_14_method_56_code (2 : Nat) (Option.some Jvm.ClassFile.FieldType.char)) ∈ cx_G := cx_t3 62 (by decide +kernel) rfl
theorem hw_543 : (Jvm.Cond.methodLink "java/lang/String" (492 : Nat) ({ cls := "java/lang/String", name := "isLatin1", desc := "()Z" } : Jvm.MethodName)) ∈ cx_G := cx_t3 63 (by decide +kernel) rfl
theorem hw_544 : (Jvm.Cond.instanceMethod ({ cls := "java/lang/String", name := "isLatin1", desc := "()Z" } : Jvm.MethodName)) ∈ cx_G := cx_t3 64 (by decide +kernel) rfl
theorem hw_545 : (Jvm.Cond.selects "java/lang/String" ({ cls := "java/lang/String", name := "isLatin1", desc := "()Z" } : Jvm.MethodName) ({ cls := "java/lang/String", name := "isLatin1", desc := "()Z" } : Jvm.MethodName)) ∈ cx_G := cx_t3 65 (by decide +kernel) rfl
theorem hw_546 : (Jvm.Cond.code ({ cls := "java/lang/String", name := "isLatin1", desc := "()Z" } : Jvm.MethodName) prog_14_method_154_code (1 : Nat) (Option.some Jvm.ClassFile.FieldType.boolean)) ∈ cx_G := cx_t3 66 (by decide +kernel) rfl
theorem hw_547 : (Jvm.Cond.methodLink "java/lang/String" (495 : Nat) ({ cls := "java/lang/StringLatin1", name := "charAt", desc := "([BI)C" } : Jvm.MethodName)) ∈ cx_G := cx_t3 67 (by decide +kernel) rfl
theorem hw_548 : (Jvm.Cond.static ({ cls := "java/lang/StringLatin1", name := "charAt", desc := "([BI)C" } : Jvm.MethodName)) ∈ cx_G := cx_t3 68 (by decide +kernel) rfl
theorem hw_549 : (Jvm.Cond.code ({ cls := "java/lang/StringLatin1", name := "charAt", desc := "([BI)C" } : Jvm.MethodName) prog_15_method_2_code (2 : Nat) (Option.some Jvm.ClassFile.FieldType.char)) ∈ cx_G := cx_t3 69 (by decide +kernel) rfl
theorem hw_550 : (Jvm.Cond.methodLink "java/lang/StringLatin1" (9 : Nat) ({ cls := "java/lang/String", name := "checkIndex", desc := "(II)V" } : Jvm.MethodName)) ∈ cx_G := cx_t3 70 (by decide +kernel) rfl
theorem hw_551 : (Jvm.Cond.static ({ cls := "java/lang/String", name := "checkIndex", desc := "(II)V" } : Jvm.MethodName)) ∈ cx_G := cx_t3 71 (by decide +kernel) rfl
theorem hw_552 : (Jvm.Cond.code ({ cls := "java/lang/String", name := "checkIndex", desc := "(II)V" } : Jvm.MethodName) prog_14_method_155_code (2 : Nat) (Option.none : Option Jvm.ClassFile.FieldType)) ∈ cx_G := cx_t3 72 (by decide +kernel) rfl
theorem hw_553 : (Jvm.Cond.fieldLink "java/lang/String" (1053 : Nat) "jdk/internal/util/Preconditions" "SIOOBE_FORMATTER" "Ljava/util/function/BiFunction;") ∈ cx_G := cx_t3 73 (by decide +kernel) rfl
theorem hw_555 : (Jvm.Cond.methodLink "java/lang/String" (1059 : Nat) ({ cls := "jdk/internal/util/Preconditions", name := "checkIndex", desc := "(IILjava/util/function/BiFunction;)I" } : Jvm.MethodName)) ∈ cx_G := cx_t3 75 (by decide +kernel) rfl
theorem hw_556 : (Jvm.Cond.static ({ cls := "jdk/internal/util/Preconditions", name := "checkIndex", desc := "(IILjava/util/function/BiFunction;)I" } : Jvm.MethodName)) ∈ cx_G := cx_t3 76 (by decide +kernel) rfl
theorem hw_557 : (Jvm.Cond.code ({ cls := "jdk/internal/util/Preconditions", name := "checkIndex", desc := "(IILjava/util/function/BiFunction;)I" } : Jvm.MethodName) prog_19_method_11_code (3 : Nat) (Option.some Jvm.ClassFile.FieldType.int)) ∈ cx_G := cx_t3 77 (by decide +kernel) rfl
theorem hw_558 : (Jvm.Cond.methodLink "java/lang/String" (498 : Nat) ({ cls := "java/lang/StringUTF16", name := "charAt", desc := "([BI)C" } : Jvm.MethodName)) ∈ cx_G := cx_t3 78 (by decide +kernel) rfl
theorem hw_559 : (Jvm.Cond.static ({ cls := "java/lang/StringUTF16", name := "charAt", desc := "([BI)C" } : Jvm.MethodName)) ∈ cx_G := cx_t3 79 (by decide +kernel) rfl
theorem hw_560 : (Jvm.Cond.code ({ cls := "java/lang/StringUTF16", name := "charAt", desc := "([BI)C" } : Jvm.MethodName) prog_16_method_83_code (2 : Nat) (Option.some Jvm.ClassFile.FieldType.char)) ∈ cx_G := cx_t3 80 (by decide +kernel) rfl
theorem hw_561 : (Jvm.Cond.methodLink "java/lang/StringUTF16" (67 : Nat) ({ cls := "java/lang/StringUTF16", name := "checkIndex", desc := "(I[B)V" } : Jvm.MethodName)) ∈ cx_G := cx_t3 81 (by decide +kernel) rfl
theorem hw_562 : (Jvm.Cond.static ({ cls := "java/lang/StringUTF16", name := "checkIndex", desc := "(I[B)V" } : Jvm.MethodName)) ∈ cx_G := cx_t3 82 (by decide +kernel) rfl
theorem hw_563 : (Jvm.Cond.code ({ cls := "java/lang/StringUTF16", name := "checkIndex", desc := "(I[B)V" } : Jvm.MethodName) prog_16_method_91_code (2 : Nat) (Option.none : Option Jvm.ClassFile.FieldType)) ∈ cx_G := cx_t3 83 (by decide +kernel) rfl
theorem hw_564 : (Jvm.Cond.methodLink "java/lang/StringUTF16" (48 : Nat) ({ cls := "java/lang/StringUTF16", name := "length", desc := "([B)I" } : Jvm.MethodName)) ∈ cx_G := cx_t3 84 (by decide +kernel) rfl
theorem hw_565 : (Jvm.Cond.static ({ cls := "java/lang/StringUTF16", name := "length", desc := "([B)I" } : Jvm.MethodName)) ∈ cx_G := cx_t3 85 (by decide +kernel) rfl
theorem hw_566 : (Jvm.Cond.code ({ cls := "java/lang/StringUTF16", name := "length", desc := "([B)I" } : Jvm.MethodName) prog_16_method_6_code (1 : Nat) (Option.some Jvm.ClassFile.FieldType.int)) ∈ cx_G := cx_t3 86 (by decide +kernel) rfl
theorem hw_567 : (Jvm.Cond.methodLink "java/lang/StringUTF16" (414 : Nat) ({ cls := "java/lang/String", name := "checkIndex", desc := "(II)V" } : Jvm.MethodName)) ∈ cx_G := cx_t3 87 (by decide +kernel) rfl
theorem hw_568 : (Jvm.Cond.methodLink "java/lang/StringUTF16" (71 : Nat) ({ cls := "java/lang/StringUTF16", name := "getChar", desc := "([BI)C" } : Jvm.MethodName)) ∈ cx_G := cx_t3 88 (by decide +kernel) rfl
theorem hw_569 : (Jvm.Cond.static ({ cls := "java/lang/StringUTF16", name := "getChar", desc := "([BI)C" } : Jvm.MethodName)) ∈ cx_G := cx_t3 89 (by decide +kernel) rfl
theorem hw_570 : (Jvm.Cond.code ({ cls := "java/lang/StringUTF16", name := "getChar", desc := "([BI)C" } : Jvm.MethodName) prog_16_method_5_code (2 : Nat) (Option.some Jvm.ClassFile.FieldType.char)) ∈ cx_G := cx_t3 90 (by decide +kernel) rfl
theorem hw_571 : (Jvm.Cond.fieldLink "java/lang/StringUTF16" (44 : Nat) "java/lang/StringUTF16" "$assertionsDisabled" "Z") ∈ cx_G := cx_t3 91 (by decide +kernel) rfl
theorem hw_573 : (Jvm.Cond.fieldLink "java/lang/StringUTF16" (59 : Nat) "java/lang/StringUTF16" "HI_BYTE_SHIFT" "I") ∈ cx_G := cx_t3 93 (by decide +kernel) rfl
theorem hw_575 : (Jvm.Cond.fieldLink "java/lang/StringUTF16" (63 : Nat) "java/lang/StringUTF16" "LO_BYTE_SHIFT" "I") ∈ cx_G := cx_t3 95 (by decide +kernel) rfl
theorem hw_577 : (Jvm.Cond.fieldLink "NamelessBox$Text" (54 : Nat) "NamelessBox$Text" "NUMBERS_OF" "[I") ∈ cx_G := cx_t3 97 (by decide +kernel) rfl
theorem hw_579 : (Jvm.Cond.methodLink "NamelessBox$Text" (57 : Nat) ({ cls := "NamelessBox$Text", name := "numberOf", desc := "()I" } : Jvm.MethodName)) ∈ cx_G := cx_t3 99 (by decide +kernel) rfl
theorem hw_581 : (Jvm.Cond.instanceMethod ({ cls := "NamelessBox$Text", name := "numberOf", desc := "()I" } : Jvm.MethodName)) ∈ cx_G := cx_t3 101 (by decide +kernel) rfl
theorem hw_582 : (Jvm.Cond.code ({ cls := "NamelessBox$Text", name := "numberOf", desc := "()I" } : Jvm.MethodName) prog_8_method_15_code (3 : Nat) (Option.some Jvm.ClassFile.FieldType.int)) ∈ cx_G := cx_t3 102 (by decide +kernel) rfl
theorem hw_583 : (Jvm.Cond.methodLink "NamelessBox" (166 : Nat) ({ cls := "NamelessBox$Text", name := "tell", desc := "(LNamelessBox$Box;)I" } : Jvm.MethodName)) ∈ cx_G := cx_t3 103 (by decide +kernel) rfl
theorem hw_584 : (Jvm.Cond.instanceMethod ({ cls := "NamelessBox$Text", name := "tell", desc := "(LNamelessBox$Box;)I" } : Jvm.MethodName)) ∈ cx_G := cx_t3 104 (by decide +kernel) rfl
theorem hw_585 : (Jvm.Cond.selects "NamelessBox$Text" ({ cls := "NamelessBox$Text", name := "tell", desc := "(LNamelessBox$Box;)I" } : Jvm.MethodName) ({ cls := "NamelessBox$Text", name := "tell", desc := "(LNamelessBox$Box;)I" } : Jvm.MethodName)) ∈ cx_G := cx_t3 105 (by decide +kernel) rfl
theorem hw_586 : (Jvm.Cond.code ({ cls := "NamelessBox$Text", name := "tell", desc := "(LNamelessBox$Box;)I" } : Jvm.MethodName) prog_8_method_6_code (5 : Nat) (Option.some Jvm.ClassFile.FieldType.int)) ∈ cx_G := cx_t3 106 (by decide +kernel) rfl
theorem hw_587 : (Jvm.Cond.methodLink "NamelessBox$Text" (42 : Nat) ({ cls := "NamelessBox$Box", name := "empty", desc := "()V" } : Jvm.MethodName)) ∈ cx_G := cx_t3 107 (by decide +kernel) rfl
theorem hw_588 : (Jvm.Cond.instanceMethod ({ cls := "NamelessBox$Box", name := "empty", desc := "()V" } : Jvm.MethodName)) ∈ cx_G := cx_t3 108 (by decide +kernel) rfl
theorem hw_589 : (Jvm.Cond.selects "NamelessBox$Box" ({ cls := "NamelessBox$Box", name := "empty", desc := "()V" } : Jvm.MethodName) ({ cls := "NamelessBox$Box", name := "empty", desc := "()V" } : Jvm.MethodName)) ∈ cx_G := cx_t3 109 (by decide +kernel) rfl
theorem hw_590 : (Jvm.Cond.code ({ cls := "NamelessBox$Box", name := "empty", desc := "()V" } : Jvm.MethodName) prog_3_method_2_code (1 : Nat) (Option.none : Option Jvm.ClassFile.FieldType)) ∈ cx_G := cx_t3 110 (by decide +kernel) rfl
theorem hw_591 : (Jvm.Cond.methodLink "NamelessBox$Text" (47 : Nat) ({ cls := "NamelessBox$Text", name := "tellItem", desc := "(LNamelessBox$Box;)I" } : Jvm.MethodName)) ∈ cx_G := cx_t3 111 (by decide +kernel) rfl
theorem hw_593 : (Jvm.Cond.instanceMethod ({ cls := "NamelessBox$Text", name := "tellItem", desc := "(LNamelessBox$Box;)I" } : Jvm.MethodName)) ∈ cx_G := cx_t3 113 (by decide +kernel) rfl
theorem hw_594 : (Jvm.Cond.code ({ cls := "NamelessBox$Text", name := "tellItem", desc := "(LNamelessBox$Box;)I" } : Jvm.MethodName) prog_8_method_8_code (3 : Nat) (Option.some Jvm.ClassFile.FieldType.int)) ∈ cx_G := cx_t3 114 (by decide +kernel) rfl
theorem hw_595 : (Jvm.Cond.methodLink "NamelessBox$Text" (60 : Nat) ({ cls := "NamelessBox$Box", name := "addPerson", desc := "(IIII)I" } : Jvm.MethodName)) ∈ cx_G := cx_t3 115 (by decide +kernel) rfl
theorem hw_596 : (Jvm.Cond.methodLink "NamelessBox$Text" (64 : Nat) ({ cls := "NamelessBox$Box", name := "setParent", desc := "(II)I" } : Jvm.MethodName)) ∈ cx_G := cx_t3 116 (by decide +kernel) rfl
theorem hw_597 : (Jvm.Cond.methodLink "NamelessBox$Text" (68 : Nat) ({ cls := "NamelessBox$Box", name := "setNear", desc := "(II)I" } : Jvm.MethodName)) ∈ cx_G := cx_t3 117 (by decide +kernel) rfl
theorem hw_598 : (Jvm.Cond.methodLink "NamelessBox$Text" (71 : Nat) ({ cls := "NamelessBox$Box", name := "addPicture", desc := "(II)I" } : Jvm.MethodName)) ∈ cx_G := cx_t3 118 (by decide +kernel) rfl
theorem hw_599 : (Jvm.Cond.methodLink "NamelessBox$Text" (74 : Nat) ({ cls := "NamelessBox$Box", name := "addHead", desc := "(IIIII)I" } : Jvm.MethodName)) ∈ cx_G := cx_t3 119 (by decide +kernel) rfl
theorem hw_600 : (Jvm.Cond.methodLink "NamelessBox$Text" (78 : Nat) ({ cls := "NamelessBox$Box", name := "addName", desc := "(IIII)I" } : Jvm.MethodName)) ∈ cx_G := cx_t3 120 (by decide +kernel) rfl
theorem hw_601 : (Jvm.Cond.methodLink "NamelessBox$Text" (81 : Nat) ({ cls := "NamelessBox$Box", name := "addJoin", desc := "(III)I" } : Jvm.MethodName)) ∈ cx_G := cx_t3 121 (by decide +kernel) rfl
theorem hw_602 : (Jvm.Cond.methodLink "NamelessBox$Text" (85 : Nat) ({ cls := "NamelessBox$Box", name := "setStrange", desc := "(I)I" } : Jvm.MethodName)) ∈ cx_G := cx_t3 122 (by decide +kernel) rfl
theorem hw_603 : (Jvm.Cond.methodLink "NamelessBox" (170 : Nat) ({ cls := "NamelessBox$Box", name := "take", desc := "(LNamelessBox$Box;)V" } : Jvm.MethodName)) ∈ cx_G := cx_t3 123 (by decide +kernel) rfl
theorem hw_604 : (Jvm.Cond.instanceMethod ({ cls := "NamelessBox$Box", name := "take", desc := "(LNamelessBox$Box;)V" } : Jvm.MethodName)) ∈ cx_G := cx_t3 124 (by decide +kernel) rfl
theorem hw_605 : (Jvm.Cond.selects "NamelessBox$Box" ({ cls := "NamelessBox$Box", name := "take", desc := "(LNamelessBox$Box;)V" } : Jvm.MethodName) ({ cls := "NamelessBox$Box", name := "take", desc := "(LNamelessBox$Box;)V" } : Jvm.MethodName)) ∈ cx_G := cx_t3 125 (by decide +kernel) rfl
theorem hw_606 : (Jvm.Cond.code ({ cls := "NamelessBox$Box", name := "take", desc := "(LNamelessBox$Box;)V" } : Jvm.MethodName) prog_3_method_3_code (2 : Nat) (Option.none : Option Jvm.ClassFile.FieldType)) ∈ cx_G := cx_t3 126 (by decide +kernel) rfl
theorem hw_607 : (Jvm.Cond.methodLink "NamelessBox$Box" (39 : Nat) ({ cls := "NamelessBox$Rows", name := "take", desc := "(LNamelessBox$Rows;)V" } : Jvm.MethodName)) ∈ cx_G := cx_t3 127 (by decide +kernel) rfl
theorem hw_608 : (Jvm.Cond.instanceMethod ({ cls := "NamelessBox$Rows", name := "take", desc := "(LNamelessBox$Rows;)V" } : Jvm.MethodName)) ∈ cx_G := cx_t3 128 (by decide +kernel) rfl
theorem hw_609 : (Jvm.Cond.selects "NamelessBox$Rows" ({ cls := "NamelessBox$Rows", name := "take", desc := "(LNamelessBox$Rows;)V" } : Jvm.MethodName) ({ cls := "NamelessBox$Rows", name := "take", desc := "(LNamelessBox$Rows;)V" } : Jvm.MethodName)) ∈ cx_G := cx_t3 129 (by decide +kernel) rfl
theorem hw_610 : (Jvm.Cond.code ({ cls := "NamelessBox$Rows", name := "take", desc := "(LNamelessBox$Rows;)V" } : Jvm.MethodName) prog_6_method_7_code (2 : Nat) (Option.none : Option Jvm.ClassFile.FieldType)) ∈ cx_G := cx_t3 130 (by decide +kernel) rfl
theorem hw_611 : (Jvm.Cond.methodLink "NamelessBox$Rows" (43 : Nat) ({ cls := "java/lang/Math", name := "min", desc := "(II)I" } : Jvm.MethodName)) ∈ cx_G := cx_t3 131 (by decide +kernel) rfl
theorem hw_612 : (Jvm.Cond.static ({ cls := "java/lang/Math", name := "min", desc := "(II)I" } : Jvm.MethodName)) ∈ cx_G := cx_t3 132 (by decide +kernel) rfl
theorem hw_613 : (Jvm.Cond.code ({ cls := "java/lang/Math", name := "min", desc := "(II)I" } : Jvm.MethodName) prog_13_method_69_code (2 : Nat) (Option.some Jvm.ClassFile.FieldType.int)) ∈ cx_G := cx_t3 133 (by decide +kernel) rfl
theorem hw_614 : (Jvm.Cond.methodLink "NamelessBox$Rows" (46 : Nat) ({ cls := "java/lang/System", name := "arraycopy", desc := "(Ljava/lang/Object;ILjava/lang/Object;II)V" } : Jvm.MethodName)) ∈ cx_G := cx_t3 134 (by decide +kernel) rfl
theorem hw_615 : (Jvm.Cond.static ({ cls := "java/lang/System", name := "arraycopy", desc := "(Ljava/lang/Object;ILjava/lang/Object;II)V" } : Jvm.MethodName)) ∈ cx_G := cx_t3 135 (by decide +kernel) rfl
theorem hw_616 : (Jvm.Cond.native ({ cls := "java/lang/System", name := "arraycopy", desc := "(Ljava/lang/Object;ILjava/lang/Object;II)V" } : Jvm.MethodName)) ∈ cx_G := cx_t3 136 (by decide +kernel) rfl
theorem hw_617 : (Jvm.Cond.arrayClass Jvm.ClassFile.FieldType.byte) ∈ cx_G := cx_t3 137 (by decide +kernel) rfl
theorem hw_618 : (Jvm.Cond.methodLink "NamelessBoxLaw" (78 : Nat) ({ cls := "NamelessBox", name := "who", desc := "(II)I" } : Jvm.MethodName)) ∈ cx_G := cx_t3 138 (by decide +kernel) rfl
theorem hw_619 : (Jvm.Cond.instanceMethod ({ cls := "NamelessBox", name := "who", desc := "(II)I" } : Jvm.MethodName)) ∈ cx_G := cx_t3 139 (by decide +kernel) rfl
theorem hw_620 : (Jvm.Cond.selects "NamelessBox" ({ cls := "NamelessBox", name := "who", desc := "(II)I" } : Jvm.MethodName) ({ cls := "NamelessBox", name := "who", desc := "(II)I" } : Jvm.MethodName)) ∈ cx_G := cx_t3 140 (by decide +kernel) rfl
theorem hw_621 : (Jvm.Cond.code ({ cls := "NamelessBox", name := "who", desc := "(II)I" } : Jvm.MethodName) prog_1_method_16_code (3 : Nat) (Option.some Jvm.ClassFile.FieldType.int)) ∈ cx_G := cx_t3 141 (by decide +kernel) rfl
theorem hw_622 : (Jvm.Cond.methodLink "NamelessBox" (174 : Nat) ({ cls := "NamelessBox", name := "anyWay", desc := "(I)Z" } : Jvm.MethodName)) ∈ cx_G := cx_t3 142 (by decide +kernel) rfl
theorem hw_624 : (Jvm.Cond.instanceMethod ({ cls := "NamelessBox", name := "anyWay", desc := "(I)Z" } : Jvm.MethodName)) ∈ cx_G := cx_t3 144 (by decide +kernel) rfl
theorem hw_625 : (Jvm.Cond.code ({ cls := "NamelessBox", name := "anyWay", desc := "(I)Z" } : Jvm.MethodName) prog_1_method_49_code (2 : Nat) (Option.some Jvm.ClassFile.FieldType.boolean)) ∈ cx_G := cx_t3 145 (by decide +kernel) rfl
theorem hw_626 : (Jvm.Cond.methodLink "NamelessBox" (205 : Nat) ({ cls := "NamelessBox$Ways", name := "lookAtAll", desc := "(I)V" } : Jvm.MethodName)) ∈ cx_G := cx_t3 146 (by decide +kernel) rfl
theorem hw_627 : (Jvm.Cond.instanceMethod ({ cls := "NamelessBox$Ways", name := "lookAtAll", desc := "(I)V" } : Jvm.MethodName)) ∈ cx_G := cx_t3 147 (by decide +kernel) rfl
theorem hw_628 : (Jvm.Cond.selects "NamelessBox$Ways" ({ cls := "NamelessBox$Ways", name := "lookAtAll", desc := "(I)V" } : Jvm.MethodName) ({ cls := "NamelessBox$Ways", name := "lookAtAll", desc := "(I)V" } : Jvm.MethodName)) ∈ cx_G := cx_t3 148 (by decide +kernel) rfl
theorem hw_629 : (Jvm.Cond.code ({ cls := "NamelessBox$Ways", name := "lookAtAll", desc := "(I)V" } : Jvm.MethodName) prog_9_method_2_code (3 : Nat) (Option.none : Option Jvm.ClassFile.FieldType)) ∈ cx_G := cx_t3 149 (by decide +kernel) rfl
theorem hw_630 : (Jvm.Cond.methodLink "NamelessBox$Ways" (93 : Nat) ({ cls := "NamelessBox$Rows", name := "at", desc := "(II)I" } : Jvm.MethodName)) ∈ cx_G := cx_t3 150 (by decide +kernel) rfl
theorem hw_631 : (Jvm.Cond.methodLink "NamelessBox$Ways" (97 : Nat) ({ cls := "java/lang/Math", name := "min", desc := "(II)I" } : Jvm.MethodName)) ∈ cx_G := cx_t3 151 (by decide +kernel) rfl
theorem hw_632 : (Jvm.Cond.methodLink "NamelessBox" (212 : Nat) ({ cls := "NamelessBox$Ways", name := "sumUp", desc := "()V" } : Jvm.MethodName)) ∈ cx_G := cx_t3 152 (by decide +kernel) rfl
theorem hw_633 : (Jvm.Cond.instanceMethod ({ cls := "NamelessBox$Ways", name := "sumUp", desc := "()V" } : Jvm.MethodName)) ∈ cx_G := cx_t3 153 (by decide +kernel) rfl
theorem hw_634 : (Jvm.Cond.selects "NamelessBox$Ways" ({ cls := "NamelessBox$Ways", name := "sumUp", desc := "()V" } : Jvm.MethodName) ({ cls := "NamelessBox$Ways", name := "sumUp", desc := "()V" } : Jvm.MethodName)) ∈ cx_G := cx_t3 154 (by decide +kernel) rfl
theorem hw_635 : (Jvm.Cond.code ({ cls := "NamelessBox$Ways", name := "sumUp", desc := "()V" } : Jvm.MethodName) prog_9_method_6_code (4 : Nat) (Option.none : Option Jvm.ClassFile.FieldType)) ∈ cx_G := cx_t3 155 (by decide +kernel) rfl
theorem hw_636 : (Jvm.Cond.methodLink "NamelessBox$Ways" (112 : Nat) ({ cls := "NamelessBox$Sums", name := "empty", desc := "(III)V" } : Jvm.MethodName)) ∈ cx_G := cx_t3 156 (by decide +kernel) rfl
theorem hw_637 : (Jvm.Cond.instanceMethod ({ cls := "NamelessBox$Sums", name := "empty", desc := "(III)V" } : Jvm.MethodName)) ∈ cx_G := cx_t3 157 (by decide +kernel) rfl
theorem hw_638 : (Jvm.Cond.selects "NamelessBox$Sums" ({ cls := "NamelessBox$Sums", name := "empty", desc := "(III)V" } : Jvm.MethodName) ({ cls := "NamelessBox$Sums", name := "empty", desc := "(III)V" } : Jvm.MethodName)) ∈ cx_G := cx_t3 158 (by decide +kernel) rfl
theorem hw_639 : (Jvm.Cond.code ({ cls := "NamelessBox$Sums", name := "empty", desc := "(III)V" } : Jvm.MethodName) prog_7_method_2_code (4 : Nat) (Option.none : Option Jvm.ClassFile.FieldType)) ∈ cx_G := cx_t3 159 (by decide +kernel) rfl
theorem hw_640 : (Jvm.Cond.methodLink "NamelessBox$Sums" (49 : Nat) ({ cls := "NamelessBox$Limbs", name := "zero", desc := "([JI)V" } : Jvm.MethodName)) ∈ cx_G := cx_t3 160 (by decide +kernel) rfl
theorem hw_641 : (Jvm.Cond.static ({ cls := "NamelessBox$Limbs", name := "zero", desc := "([JI)V" } : Jvm.MethodName)) ∈ cx_G := cx_t3 161 (by decide +kernel) rfl
theorem hw_642 : (Jvm.Cond.code ({ cls := "NamelessBox$Limbs", name := "zero", desc := "([JI)V" } : Jvm.MethodName) prog_5_method_2_code (3 : Nat) (Option.none : Option Jvm.ClassFile.FieldType)) ∈ cx_G := cx_t3 162 (by decide +kernel) rfl
theorem hw_643 : (Jvm.Cond.methodLink "NamelessBox$Sums" (53 : Nat) ({ cls := "java/util/Arrays", name := "fill", desc := "([JJ)V" } : Jvm.MethodName)) ∈ cx_G := cx_t3 163 (by decide +kernel) rfl
theorem hw_644 : (Jvm.Cond.methodLink "NamelessBox$Ways" (118 : Nat) ({ cls := "NamelessBox$Ways", name := "placeHeads", desc := "()V" } : Jvm.MethodName)) ∈ cx_G := cx_t3 164 (by decide +kernel) rfl
theorem hw_646 : (Jvm.Cond.instanceMethod ({ cls := "NamelessBox$Ways", name := "placeHeads", desc := "()V" } : Jvm.MethodName)) ∈ cx_G := cx_t3 166 (by decide +kernel) rfl
theorem hw_647 : (Jvm.Cond.code ({ cls := "NamelessBox$Ways", name := "placeHeads", desc := "()V" } : Jvm.MethodName) prog_9_method_7_code (3 : Nat) (Option.none : Option Jvm.ClassFile.FieldType)) ∈ cx_G := cx_t3 167 (by decide +kernel) rfl
theorem hw_648 : (Jvm.Cond.methodLink "NamelessBox$Ways" (145 : Nat) ({ cls := "java/util/Arrays", name := "fill", desc := "([II)V" } : Jvm.MethodName)) ∈ cx_G := cx_t3 168 (by decide +kernel) rfl
theorem hw_649 : (Jvm.Cond.static ({ cls := "java/util/Arrays", name := "fill", desc := "([II)V" } : Jvm.MethodName)) ∈ cx_G := cx_t3 169 (by decide +kernel) rfl
theorem hw_650 : (Jvm.Cond.code ({ cls := "java/util/Arrays", name := "fill", desc := "([II)V" } : Jvm.MethodName) prog_18_method_103_code (4 : Nat) (Option.none : Option Jvm.ClassFile.FieldType)) ∈ cx_G := cx_t3 170 (by decide +kernel) rfl
theorem hw_652 : (Jvm.Cond.static ({ cls := "NamelessBox", name := "whoAt", desc := "(II)I" } : Jvm.MethodName)) ∈ cx_G := cx_t3 172 (by decide +kernel) rfl
theorem hw_653 : (Jvm.Cond.code ({ cls := "NamelessBox", name := "whoAt", desc := "(II)I" } : Jvm.MethodName) prog_1_method_44_code (2 : Nat) (Option.some Jvm.ClassFile.FieldType.int)) ∈ cx_G := cx_t3 173 (by decide +kernel) rfl
theorem hw_654 : (Jvm.Cond.methodLink "NamelessBox$Ways" (124 : Nat) ({ cls := "NamelessBox$Ways", name := "planLikes", desc := "(II)V" } : Jvm.MethodName)) ∈ cx_G := cx_t3 174 (by decide +kernel) rfl
theorem hw_656 : (Jvm.Cond.instanceMethod ({ cls := "NamelessBox$Ways", name := "planLikes", desc := "(II)V" } : Jvm.MethodName)) ∈ cx_G := cx_t3 176 (by decide +kernel) rfl
theorem hw_657 : (Jvm.Cond.code ({ cls := "NamelessBox$Ways", name := "planLikes", desc := "(II)V" } : Jvm.MethodName) prog_9_method_8_code (9 : Nat) (Option.none : Option Jvm.ClassFile.FieldType)) ∈ cx_G := cx_t3 177 (by decide +kernel) rfl
theorem hw_658 : (Jvm.Cond.methodLink "NamelessBox$Ways" (148 : Nat) ({ cls := "NamelessBox$Box", name := "marksLike", desc := "(II)I" } : Jvm.MethodName)) ∈ cx_G := cx_t3 178 (by decide +kernel) rfl
theorem hw_659 : (Jvm.Cond.methodLink "NamelessBox$Ways" (151 : Nat) ({ cls := "NamelessBox$Box", name := "ageLike", desc := "(III)I" } : Jvm.MethodName)) ∈ cx_G := cx_t3 179 (by decide +kernel) rfl
theorem hw_660 : (Jvm.Cond.methodLink "NamelessBox$Ways" (128 : Nat) ({ cls := "NamelessBox$Ways", name := "planNamings", desc := "(II)V" } : Jvm.MethodName)) ∈ cx_G := cx_t3 180 (by decide +kernel) rfl
theorem hw_662 : (Jvm.Cond.instanceMethod ({ cls := "NamelessBox$Ways", name := "planNamings", desc := "(II)V" } : Jvm.MethodName)) ∈ cx_G := cx_t3 182 (by decide +kernel) rfl
theorem hw_663 : (Jvm.Cond.code ({ cls := "NamelessBox$Ways", name := "planNamings", desc := "(II)V" } : Jvm.MethodName) prog_9_method_9_code (5 : Nat) (Option.none : Option Jvm.ClassFile.FieldType)) ∈ cx_G := cx_t3 183 (by decide +kernel) rfl
theorem hw_664 : (Jvm.Cond.methodLink "NamelessBox$Ways" (158 : Nat) ({ cls := "NamelessBox$Box", name := "isSo", desc := "(II)Z" } : Jvm.MethodName)) ∈ cx_G := cx_t3 184 (by decide +kernel) rfl
theorem hw_665 : (Jvm.Cond.instanceMethod ({ cls := "NamelessBox$Box", name := "isSo", desc := "(II)Z" } : Jvm.MethodName)) ∈ cx_G := cx_t3 185 (by decide +kernel) rfl
theorem hw_666 : (Jvm.Cond.selects "NamelessBox$Box" ({ cls := "NamelessBox$Box", name := "isSo", desc := "(II)Z" } : Jvm.MethodName) ({ cls := "NamelessBox$Box", name := "isSo", desc := "(II)Z" } : Jvm.MethodName)) ∈ cx_G := cx_t3 186 (by decide +kernel) rfl
theorem hw_667 : (Jvm.Cond.code ({ cls := "NamelessBox$Box", name := "isSo", desc := "(II)Z" } : Jvm.MethodName) prog_3_method_17_code (3 : Nat) (Option.some Jvm.ClassFile.FieldType.boolean)) ∈ cx_G := cx_t3 187 (by decide +kernel) rfl
theorem hw_668 : (Jvm.Cond.methodLink "NamelessBox$Ways" (162 : Nat) ({ cls := "NamelessBox$Box", name := "truthOf", desc := "(I)I" } : Jvm.MethodName)) ∈ cx_G := cx_t3 188 (by decide +kernel) rfl
theorem hw_669 : (Jvm.Cond.methodLink "NamelessBox$Ways" (131 : Nat) ({ cls := "NamelessBox$Limbs", name := "set", desc := "([JII)V" } : Jvm.MethodName)) ∈ cx_G := cx_t3 189 (by decide +kernel) rfl
theorem hw_670 : (Jvm.Cond.static ({ cls := "NamelessBox$Limbs", name := "set", desc := "([JII)V" } : Jvm.MethodName)) ∈ cx_G := cx_t3 190 (by decide +kernel) rfl
theorem hw_671 : (Jvm.Cond.code ({ cls := "NamelessBox$Limbs", name := "set", desc := "([JII)V" } : Jvm.MethodName) prog_5_method_3_code (3 : Nat) (Option.none : Option Jvm.ClassFile.FieldType)) ∈ cx_G := cx_t3 191 (by decide +kernel) rfl
theorem hw_672 : (Jvm.Cond.methodLink "NamelessBox$Limbs" (9 : Nat) ({ cls := "NamelessBox$Limbs", name := "zero", desc := "([JI)V" } : Jvm.MethodName)) ∈ cx_G := cx_t3 192 (by decide +kernel) rfl
theorem hw_673 : (Jvm.Cond.methodLink "NamelessBox$Ways" (135 : Nat) ({ cls := "NamelessBox$Ways", name := "takeEmptyPictures", desc := "()V" } : Jvm.MethodName)) ∈ cx_G := cx_t3 193 (by decide +kernel) rfl
theorem hw_675 : (Jvm.Cond.instanceMethod ({ cls := "NamelessBox$Ways", name := "takeEmptyPictures", desc := "()V" } : Jvm.MethodName)) ∈ cx_G := cx_t3 195 (by decide +kernel) rfl
theorem hw_676 : (Jvm.Cond.code ({ cls := "NamelessBox$Ways", name := "takeEmptyPictures", desc := "()V" } : Jvm.MethodName) prog_9_method_10_code (2 : Nat) (Option.none : Option Jvm.ClassFile.FieldType)) ∈ cx_G := cx_t3 196 (by decide +kernel) rfl
theorem hw_677 : (Jvm.Cond.methodLink "NamelessBox$Ways" (166 : Nat) ({ cls := "NamelessBox$Limbs", name := "multiply", desc := "([JI[JIJ)V" } : Jvm.MethodName)) ∈ cx_G := cx_t3 197 (by decide +kernel) rfl
theorem hw_678 : (Jvm.Cond.static ({ cls := "NamelessBox$Limbs", name := "multiply", desc := "([JI[JIJ)V" } : Jvm.MethodName)) ∈ cx_G := cx_t3 198 (by decide +kernel) rfl
theorem hw_679 : (Jvm.Cond.code ({ cls := "NamelessBox$Limbs", name := "multiply", desc := "([JI[JIJ)V" } : Jvm.MethodName) prog_5_method_9_code (17 : Nat) (Option.none : Option Jvm.ClassFile.FieldType)) ∈ cx_G := cx_t3 199 (by decide +kernel) rfl
theorem hw_680 : (Jvm.Cond.constantLong "NamelessBox$Limbs" (19 : Nat) (1073741823 : Int64)) ∈ cx_G := cx_t3 200 (by decide +kernel) rfl
theorem hw_681 : (Jvm.Cond.methodLink "NamelessBox$Ways" (170 : Nat) ({ cls := "NamelessBox$Ways", name := "yearsInOrder", desc := "()J" } : Jvm.MethodName)) ∈ cx_G := cx_t3 201 (by decide +kernel) rfl
theorem hw_683 : (Jvm.Cond.instanceMethod ({ cls := "NamelessBox$Ways", name := "yearsInOrder", desc := "()J" } : Jvm.MethodName)) ∈ cx_G := cx_t3 203 (by decide +kernel) rfl
theorem hw_684 : (Jvm.Cond.code ({ cls := "NamelessBox$Ways", name := "yearsInOrder", desc := "()J" } : Jvm.MethodName) prog_9_method_20_code (8 : Nat) (Option.some Jvm.ClassFile.FieldType.long)) ∈ cx_G := cx_t3 204 (by decide +kernel) rfl
theorem hw_685 : (Jvm.Cond.methodLink "NamelessBox$Ways" (138 : Nat) ({ cls := "NamelessBox$Ways", name := "descend", desc := "(II)V" } : Jvm.MethodName)) ∈ cx_G := cx_t3 205 (by decide +kernel) rfl
theorem hw_687 : (Jvm.Cond.instanceMethod ({ cls := "NamelessBox$Ways", name := "descend", desc := "(II)V" } : Jvm.MethodName)) ∈ cx_G := cx_t3 207 (by decide +kernel) rfl
theorem hw_688 : (Jvm.Cond.code ({ cls := "NamelessBox$Ways", name := "descend", desc := "(II)V" } : Jvm.MethodName) prog_9_method_11_code (5 : Nat) (Option.none : Option Jvm.ClassFile.FieldType)) ∈ cx_G := cx_t3 208 (by decide +kernel) rfl
theorem hw_689 : (Jvm.Cond.methodLink "NamelessBox$Ways" (174 : Nat) ({ cls := "NamelessBox$Limbs", name := "copy", desc := "([JI[JI)V" } : Jvm.MethodName)) ∈ cx_G := cx_t3 209 (by decide +kernel) rfl
theorem hw_690 : (Jvm.Cond.static ({ cls := "NamelessBox$Limbs", name := "copy", desc := "([JI[JI)V" } : Jvm.MethodName)) ∈ cx_G := cx_t3 210 (by decide +kernel) rfl
theorem hw_691 : (Jvm.Cond.code ({ cls := "NamelessBox$Limbs", name := "copy", desc := "([JI[JI)V" } : Jvm.MethodName) prog_5_method_4_code (4 : Nat) (Option.none : Option Jvm.ClassFile.FieldType)) ∈ cx_G := cx_t3 211 (by decide +kernel) rfl
theorem hw_692 : (Jvm.Cond.methodLink "NamelessBox$Limbs" (13 : Nat) ({ cls := "java/lang/System", name := "arraycopy", desc := "(Ljava/lang/Object;ILjava/lang/Object;II)V" } : Jvm.MethodName)) ∈ cx_G := cx_t3 212 (by decide +kernel) rfl
theorem hw_693 : (Jvm.Cond.methodLink "NamelessBox$Ways" (178 : Nat) ({ cls := "NamelessBox$Sums", name := "addWay", desc := "([II[JI)V" } : Jvm.MethodName)) ∈ cx_G := cx_t3 213 (by decide +kernel) rfl
theorem hw_694 : (Jvm.Cond.instanceMethod ({ cls := "NamelessBox$Sums", name := "addWay", desc := "([II[JI)V" } : Jvm.MethodName)) ∈ cx_G := cx_t3 214 (by decide +kernel) rfl
theorem hw_695 : (Jvm.Cond.selects "NamelessBox$Sums" ({ cls := "NamelessBox$Sums", name := "addWay", desc := "([II[JI)V" } : Jvm.MethodName) ({ cls := "NamelessBox$Sums", name := "addWay", desc := "([II[JI)V" } : Jvm.MethodName)) ∈ cx_G := cx_t3 215 (by decide +kernel) rfl
theorem hw_696 : (Jvm.Cond.code ({ cls := "NamelessBox$Sums", name := "addWay", desc := "([II[JI)V" } : Jvm.MethodName) prog_7_method_3_code (5 : Nat) (Option.none : Option Jvm.ClassFile.FieldType)) ∈ cx_G := cx_t3 216 (by decide +kernel) rfl
theorem hw_697 : (Jvm.Cond.methodLink "NamelessBox$Sums" (59 : Nat) ({ cls := "NamelessBox$Limbs", name := "add", desc := "([JI[JI)V" } : Jvm.MethodName)) ∈ cx_G := cx_t3 217 (by decide +kernel) rfl
theorem hw_698 : (Jvm.Cond.static ({ cls := "NamelessBox$Limbs", name := "add", desc := "([JI[JI)V" } : Jvm.MethodName)) ∈ cx_G := cx_t3 218 (by decide +kernel) rfl
theorem hw_699 : (Jvm.Cond.code ({ cls := "NamelessBox$Limbs", name := "add", desc := "([JI[JI)V" } : Jvm.MethodName) prog_5_method_6_code (6 : Nat) (Option.none : Option Jvm.ClassFile.FieldType)) ∈ cx_G := cx_t3 219 (by decide +kernel) rfl
theorem hw_700 : (Jvm.Cond.methodLink "NamelessBox$Sums" (63 : Nat) ({ cls := "NamelessBox$Limbs", name := "compare", desc := "([JI[JI)I" } : Jvm.MethodName)) ∈ cx_G := cx_t3 220 (by decide +kernel) rfl
theorem hw_701 : (Jvm.Cond.static ({ cls := "NamelessBox$Limbs", name := "compare", desc := "([JI[JI)I" } : Jvm.MethodName)) ∈ cx_G := cx_t3 221 (by decide +kernel) rfl
theorem hw_702 : (Jvm.Cond.code ({ cls := "NamelessBox$Limbs", name := "compare", desc := "([JI[JI)I" } : Jvm.MethodName) prog_5_method_10_code (6 : Nat) (Option.some Jvm.ClassFile.FieldType.int)) ∈ cx_G := cx_t3 222 (by decide +kernel) rfl
theorem hw_703 : (Jvm.Cond.methodLink "NamelessBox$Limbs" (24 : Nat) ({ cls := "java/lang/Long", name := "compare", desc := "(JJ)I" } : Jvm.MethodName)) ∈ cx_G := cx_t3 223 (by decide +kernel) rfl
theorem hw_704 : (Jvm.Cond.static ({ cls := "java/lang/Long", name := "compare", desc := "(JJ)I" } : Jvm.MethodName)) ∈ cx_G := cx_t3 224 (by decide +kernel) rfl
theorem hw_705 : (Jvm.Cond.code ({ cls := "java/lang/Long", name := "compare", desc := "(JJ)I" } : Jvm.MethodName) prog_12_method_42_code (4 : Nat) (Option.some Jvm.ClassFile.FieldType.int)) ∈ cx_G := cx_t3 225 (by decide +kernel) rfl
theorem hw_706 : (Jvm.Cond.methodLink "NamelessBox$Sums" (67 : Nat) ({ cls := "NamelessBox$Limbs", name := "copy", desc := "([JI[JI)V" } : Jvm.MethodName)) ∈ cx_G := cx_t3 226 (by decide +kernel) rfl
theorem hw_707 : (Jvm.Cond.methodLink "NamelessBox$Sums" (70 : Nat) ({ cls := "java/lang/System", name := "arraycopy", desc := "(Ljava/lang/Object;ILjava/lang/Object;II)V" } : Jvm.MethodName)) ∈ cx_G := cx_t3 227 (by decide +kernel) rfl
theorem hw_708 : (Jvm.Cond.methodLink "NamelessBox$Ways" (182 : Nat) ({ cls := "NamelessBox$Limbs", name := "zero", desc := "([JI)V" } : Jvm.MethodName)) ∈ cx_G := cx_t3 228 (by decide +kernel) rfl
theorem hw_709 : (Jvm.Cond.methodLink "NamelessBox$Ways" (185 : Nat) ({ cls := "NamelessBox$Ways", name := "goesOn", desc := "(II)Z" } : Jvm.MethodName)) ∈ cx_G := cx_t3 229 (by decide +kernel) rfl
theorem hw_711 : (Jvm.Cond.instanceMethod ({ cls := "NamelessBox$Ways", name := "goesOn", desc := "(II)Z" } : Jvm.MethodName)) ∈ cx_G := cx_t3 231 (by decide +kernel) rfl
theorem hw_712 : (Jvm.Cond.code ({ cls := "NamelessBox$Ways", name := "goesOn", desc := "(II)Z" } : Jvm.MethodName) prog_9_method_13_code (7 : Nat) (Option.some Jvm.ClassFile.FieldType.boolean)) ∈ cx_G := cx_t3 232 (by decide +kernel) rfl
theorem hw_713 : (Jvm.Cond.methodLink "NamelessBox$Ways" (205 : Nat) ({ cls := "NamelessBox$Ways", name := "isThereAlready", desc := "(II)Z" } : Jvm.MethodName)) ∈ cx_G := cx_t3 233 (by decide +kernel) rfl
theorem hw_715 : (Jvm.Cond.instanceMethod ({ cls := "NamelessBox$Ways", name := "isThereAlready", desc := "(II)Z" } : Jvm.MethodName)) ∈ cx_G := cx_t3 235 (by decide +kernel) rfl
theorem hw_716 : (Jvm.Cond.code ({ cls := "NamelessBox$Ways", name := "isThereAlready", desc := "(II)Z" } : Jvm.MethodName) prog_9_method_14_code (5 : Nat) (Option.some Jvm.ClassFile.FieldType.boolean)) ∈ cx_G := cx_t3 236 (by decide +kernel) rfl
theorem hw_717 : (Jvm.Cond.methodLink "NamelessBox$Ways" (208 : Nat) ({ cls := "NamelessBox$Ways", name := "joinings", desc := "(II)I" } : Jvm.MethodName)) ∈ cx_G := cx_t3 237 (by decide +kernel) rfl
theorem hw_719 : (Jvm.Cond.instanceMethod ({ cls := "NamelessBox$Ways", name := "joinings", desc := "(II)I" } : Jvm.MethodName)) ∈ cx_G := cx_t3 239 (by decide +kernel) rfl
theorem hw_720 : (Jvm.Cond.code ({ cls := "NamelessBox$Ways", name := "joinings", desc := "(II)I" } : Jvm.MethodName) prog_9_method_15_code (9 : Nat) (Option.some Jvm.ClassFile.FieldType.int)) ∈ cx_G := cx_t4 0 (by decide +kernel) rfl
theorem hw_721 : (Jvm.Cond.methodLink "NamelessBox$Ways" (220 : Nat) ({ cls := "java/lang/Math", name := "max", desc := "(II)I" } : Jvm.MethodName)) ∈ cx_G := cx_t4 1 (by decide +kernel) rfl
theorem hw_722 : (Jvm.Cond.methodLink "NamelessBox$Ways" (211 : Nat) ({ cls := "NamelessBox$Ways", name := "takings", desc := "(II)J" } : Jvm.MethodName)) ∈ cx_G := cx_t4 2 (by decide +kernel) rfl
theorem hw_724 : (Jvm.Cond.instanceMethod ({ cls := "NamelessBox$Ways", name := "takings", desc := "(II)J" } : Jvm.MethodName)) ∈ cx_G := cx_t4 4 (by decide +kernel) rfl
theorem hw_725 : (Jvm.Cond.code ({ cls := "NamelessBox$Ways", name := "takings", desc := "(II)J" } : Jvm.MethodName) prog_9_method_16_code (5 : Nat) (Option.some Jvm.ClassFile.FieldType.long)) ∈ cx_G := cx_t4 5 (by decide +kernel) rfl
theorem hw_726 : (Jvm.Cond.methodLink "NamelessBox$Ways" (223 : Nat) ({ cls := "NamelessBox$Ways", name := "sumYears", desc := "(II)J" } : Jvm.MethodName)) ∈ cx_G := cx_t4 6 (by decide +kernel) rfl
theorem hw_728 : (Jvm.Cond.instanceMethod ({ cls := "NamelessBox$Ways", name := "sumYears", desc := "(II)J" } : Jvm.MethodName)) ∈ cx_G := cx_t4 8 (by decide +kernel) rfl
theorem hw_729 : (Jvm.Cond.code ({ cls := "NamelessBox$Ways", name := "sumYears", desc := "(II)J" } : Jvm.MethodName) prog_9_method_19_code (9 : Nat) (Option.some Jvm.ClassFile.FieldType.long)) ∈ cx_G := cx_t4 9 (by decide +kernel) rfl
theorem hw_730 : (Jvm.Cond.methodLink "NamelessBox$Ways" (226 : Nat) ({ cls := "NamelessBox$Ways", name := "multiplyYears", desc := "(II)Z" } : Jvm.MethodName)) ∈ cx_G := cx_t4 10 (by decide +kernel) rfl
theorem hw_732 : (Jvm.Cond.instanceMethod ({ cls := "NamelessBox$Ways", name := "multiplyYears", desc := "(II)Z" } : Jvm.MethodName)) ∈ cx_G := cx_t4 12 (by decide +kernel) rfl
theorem hw_733 : (Jvm.Cond.code ({ cls := "NamelessBox$Ways", name := "multiplyYears", desc := "(II)Z" } : Jvm.MethodName) prog_9_method_18_code (10 : Nat) (Option.some Jvm.ClassFile.FieldType.boolean)) ∈ cx_G := cx_t4 13 (by decide +kernel) rfl
theorem hw_734 : (Jvm.Cond.methodLink "NamelessBox$Ways" (229 : Nat) ({ cls := "NamelessBox$Ways", name := "areBothTold", desc := "(I)Z" } : Jvm.MethodName)) ∈ cx_G := cx_t4 14 (by decide +kernel) rfl
theorem hw_736 : (Jvm.Cond.instanceMethod ({ cls := "NamelessBox$Ways", name := "areBothTold", desc := "(I)Z" } : Jvm.MethodName)) ∈ cx_G := cx_t4 16 (by decide +kernel) rfl
theorem hw_737 : (Jvm.Cond.code ({ cls := "NamelessBox$Ways", name := "areBothTold", desc := "(I)Z" } : Jvm.MethodName) prog_9_method_17_code (2 : Nat) (Option.some Jvm.ClassFile.FieldType.boolean)) ∈ cx_G := cx_t4 17 (by decide +kernel) rfl
theorem hw_738 : (Jvm.Cond.constantLong "NamelessBox$Ways" (215 : Nat) (8589934592 : Int64)) ∈ cx_G := cx_t4 18 (by decide +kernel) rfl
theorem hw_739 : (Jvm.Cond.methodLink "NamelessBox$Ways" (188 : Nat) ({ cls := "NamelessBox$Ways", name := "gather", desc := "(II)V" } : Jvm.MethodName)) ∈ cx_G := cx_t4 19 (by decide +kernel) rfl
theorem hw_741 : (Jvm.Cond.instanceMethod ({ cls := "NamelessBox$Ways", name := "gather", desc := "(II)V" } : Jvm.MethodName)) ∈ cx_G := cx_t4 21 (by decide +kernel) rfl
theorem hw_742 : (Jvm.Cond.code ({ cls := "NamelessBox$Ways", name := "gather", desc := "(II)V" } : Jvm.MethodName) prog_9_method_12_code (4 : Nat) (Option.none : Option Jvm.ClassFile.FieldType)) ∈ cx_G := cx_t4 22 (by decide +kernel) rfl
theorem hw_743 : (Jvm.Cond.methodLink "NamelessBox$Ways" (195 : Nat) ({ cls := "NamelessBox$Limbs", name := "add", desc := "([JI[JI)V" } : Jvm.MethodName)) ∈ cx_G := cx_t4 23 (by decide +kernel) rfl
theorem hw_744 : (Jvm.Cond.methodLink "NamelessBox$Ways" (201 : Nat) ({ cls := "NamelessBox$Sums", name := "addPair", desc := "(IIII[JI)V" } : Jvm.MethodName)) ∈ cx_G := cx_t4 24 (by decide +kernel) rfl
theorem hw_745 : (Jvm.Cond.instanceMethod ({ cls := "NamelessBox$Sums", name := "addPair", desc := "(IIII[JI)V" } : Jvm.MethodName)) ∈ cx_G := cx_t4 25 (by decide +kernel) rfl
theorem hw_746 : (Jvm.Cond.selects "NamelessBox$Sums" ({ cls := "NamelessBox$Sums", name := "addPair", desc := "(IIII[JI)V" } : Jvm.MethodName) ({ cls := "NamelessBox$Sums", name := "addPair", desc := "(IIII[JI)V" } : Jvm.MethodName)) ∈ cx_G := cx_t4 26 (by decide +kernel) rfl
theorem hw_747 : (Jvm.Cond.code ({ cls := "NamelessBox$Sums", name := "addPair", desc := "(IIII[JI)V" } : Jvm.MethodName) prog_7_method_4_code (8 : Nat) (Option.none : Option Jvm.ClassFile.FieldType)) ∈ cx_G := cx_t4 27 (by decide +kernel) rfl
theorem hw_748 : (Jvm.Cond.methodLink "NamelessBox$Sums" (76 : Nat) ({ cls := "NamelessBox$Sums", name := "pairAt", desc := "(IIII)I" } : Jvm.MethodName)) ∈ cx_G := cx_t4 28 (by decide +kernel) rfl
theorem hw_749 : (Jvm.Cond.static ({ cls := "NamelessBox$Sums", name := "pairAt", desc := "(IIII)I" } : Jvm.MethodName)) ∈ cx_G := cx_t4 29 (by decide +kernel) rfl
theorem hw_750 : (Jvm.Cond.code ({ cls := "NamelessBox$Sums", name := "pairAt", desc := "(IIII)I" } : Jvm.MethodName) prog_7_method_5_code (4 : Nat) (Option.some Jvm.ClassFile.FieldType.int)) ∈ cx_G := cx_t4 30 (by decide +kernel) rfl
theorem hw_751 : (Jvm.Cond.methodLink "NamelessBox$Ways" (191 : Nat) ({ cls := "NamelessBox$Limbs", name := "isZero", desc := "([JI)Z" } : Jvm.MethodName)) ∈ cx_G := cx_t4 31 (by decide +kernel) rfl
theorem hw_752 : (Jvm.Cond.static ({ cls := "NamelessBox$Limbs", name := "isZero", desc := "([JI)Z" } : Jvm.MethodName)) ∈ cx_G := cx_t4 32 (by decide +kernel) rfl
theorem hw_753 : (Jvm.Cond.code ({ cls := "NamelessBox$Limbs", name := "isZero", desc := "([JI)Z" } : Jvm.MethodName) prog_5_method_5_code (3 : Nat) (Option.some Jvm.ClassFile.FieldType.boolean)) ∈ cx_G := cx_t4 33 (by decide +kernel) rfl
theorem hw_754 : (Jvm.Cond.methodLink "NamelessBox$Ways" (141 : Nat) ({ cls := "NamelessBox$Sums", name := "finish", desc := "([JI)V" } : Jvm.MethodName)) ∈ cx_G := cx_t4 34 (by decide +kernel) rfl
theorem hw_755 : (Jvm.Cond.instanceMethod ({ cls := "NamelessBox$Sums", name := "finish", desc := "([JI)V" } : Jvm.MethodName)) ∈ cx_G := cx_t4 35 (by decide +kernel) rfl
theorem hw_756 : (Jvm.Cond.selects "NamelessBox$Sums" ({ cls := "NamelessBox$Sums", name := "finish", desc := "([JI)V" } : Jvm.MethodName) ({ cls := "NamelessBox$Sums", name := "finish", desc := "([JI)V" } : Jvm.MethodName)) ∈ cx_G := cx_t4 36 (by decide +kernel) rfl
theorem hw_757 : (Jvm.Cond.code ({ cls := "NamelessBox$Sums", name := "finish", desc := "([JI)V" } : Jvm.MethodName) prog_7_method_6_code (4 : Nat) (Option.none : Option Jvm.ClassFile.FieldType)) ∈ cx_G := cx_t4 37 (by decide +kernel) rfl
theorem hw_758 : (Jvm.Cond.methodLink "NamelessBox$Sums" (80 : Nat) ({ cls := "NamelessBox$Limbs", name := "carry", desc := "([JI)V" } : Jvm.MethodName)) ∈ cx_G := cx_t4 38 (by decide +kernel) rfl
theorem hw_759 : (Jvm.Cond.static ({ cls := "NamelessBox$Limbs", name := "carry", desc := "([JI)V" } : Jvm.MethodName)) ∈ cx_G := cx_t4 39 (by decide +kernel) rfl
theorem hw_760 : (Jvm.Cond.code ({ cls := "NamelessBox$Limbs", name := "carry", desc := "([JI)V" } : Jvm.MethodName) prog_5_method_7_code (5 : Nat) (Option.none : Option Jvm.ClassFile.FieldType)) ∈ cx_G := cx_t4 40 (by decide +kernel) rfl
theorem hw_761 : (Jvm.Cond.methodLink "NamelessBox" (215 : Nat) ({ cls := "NamelessBox$Sums", name := "isNothing", desc := "()Z" } : Jvm.MethodName)) ∈ cx_G := cx_t4 41 (by decide +kernel) rfl
theorem hw_762 : (Jvm.Cond.instanceMethod ({ cls := "NamelessBox$Sums", name := "isNothing", desc := "()Z" } : Jvm.MethodName)) ∈ cx_G := cx_t4 42 (by decide +kernel) rfl
theorem hw_763 : (Jvm.Cond.selects "NamelessBox$Sums" ({ cls := "NamelessBox$Sums", name := "isNothing", desc := "()Z" } : Jvm.MethodName) ({ cls := "NamelessBox$Sums", name := "isNothing", desc := "()Z" } : Jvm.MethodName)) ∈ cx_G := cx_t4 43 (by decide +kernel) rfl
theorem hw_764 : (Jvm.Cond.code ({ cls := "NamelessBox$Sums", name := "isNothing", desc := "()Z" } : Jvm.MethodName) prog_7_method_7_code (1 : Nat) (Option.some Jvm.ClassFile.FieldType.boolean)) ∈ cx_G := cx_t4 44 (by decide +kernel) rfl
theorem hw_765 : (Jvm.Cond.methodLink "NamelessBox$Sums" (83 : Nat) ({ cls := "NamelessBox$Limbs", name := "isZero", desc := "([JI)Z" } : Jvm.MethodName)) ∈ cx_G := cx_t4 45 (by decide +kernel) rfl
theorem hw_766 : (Jvm.Cond.methodLink "NamelessBox" (181 : Nat) ({ cls := "NamelessBox", name := "share", desc := "([JI)I" } : Jvm.MethodName)) ∈ cx_G := cx_t4 46 (by decide +kernel) rfl
theorem hw_768 : (Jvm.Cond.instanceMethod ({ cls := "NamelessBox", name := "share", desc := "([JI)I" } : Jvm.MethodName)) ∈ cx_G := cx_t4 48 (by decide +kernel) rfl
theorem hw_769 : (Jvm.Cond.code ({ cls := "NamelessBox", name := "share", desc := "([JI)I" } : Jvm.MethodName) prog_1_method_50_code (3 : Nat) (Option.some Jvm.ClassFile.FieldType.int)) ∈ cx_G := cx_t4 49 (by decide +kernel) rfl
theorem hw_770 : (Jvm.Cond.methodLink "NamelessBox" (273 : Nat) ({ cls := "NamelessBox$Fraction", name := "set", desc := "([JI[JI)V" } : Jvm.MethodName)) ∈ cx_G := cx_t4 50 (by decide +kernel) rfl
theorem hw_771 : (Jvm.Cond.instanceMethod ({ cls := "NamelessBox$Fraction", name := "set", desc := "([JI[JI)V" } : Jvm.MethodName)) ∈ cx_G := cx_t4 51 (by decide +kernel) rfl
theorem hw_772 : (Jvm.Cond.selects "NamelessBox$Fraction" ({ cls := "NamelessBox$Fraction", name := "set", desc := "([JI[JI)V" } : Jvm.MethodName) ({ cls := "NamelessBox$Fraction", name := "set", desc := "([JI[JI)V" } : Jvm.MethodName)) ∈ cx_G := cx_t4 52 (by decide +kernel) rfl
theorem hw_773 : (Jvm.Cond.code ({ cls := "NamelessBox$Fraction", name := "set", desc := "([JI[JI)V" } : Jvm.MethodName) prog_4_method_4_code (5 : Nat) (Option.none : Option Jvm.ClassFile.FieldType)) ∈ cx_G := cx_t4 53 (by decide +kernel) rfl
theorem hw_774 : (Jvm.Cond.methodLink "NamelessBox$Fraction" (24 : Nat) ({ cls := "NamelessBox$Limbs", name := "isZero", desc := "([JI)Z" } : Jvm.MethodName)) ∈ cx_G := cx_t4 54 (by decide +kernel) rfl
theorem hw_775 : (Jvm.Cond.methodLink "NamelessBox$Fraction" (36 : Nat) ({ cls := "NamelessBox$Limbs", name := "zero", desc := "([JI)V" } : Jvm.MethodName)) ∈ cx_G := cx_t4 55 (by decide +kernel) rfl
theorem hw_776 : (Jvm.Cond.methodLink "NamelessBox$Fraction" (32 : Nat) ({ cls := "NamelessBox$Limbs", name := "set", desc := "([JII)V" } : Jvm.MethodName)) ∈ cx_G := cx_t4 56 (by decide +kernel) rfl
theorem hw_777 : (Jvm.Cond.methodLink "NamelessBox$Fraction" (28 : Nat) ({ cls := "NamelessBox$Limbs", name := "copy", desc := "([JI[JI)V" } : Jvm.MethodName)) ∈ cx_G := cx_t4 57 (by decide +kernel) rfl
theorem hw_778 : (Jvm.Cond.methodLink "NamelessBox$Fraction" (40 : Nat) ({ cls := "NamelessBox$Fraction", name := "halveBoth", desc := "()V" } : Jvm.MethodName)) ∈ cx_G := cx_t4 58 (by decide +kernel) rfl
theorem hw_780 : (Jvm.Cond.instanceMethod ({ cls := "NamelessBox$Fraction", name := "halveBoth", desc := "()V" } : Jvm.MethodName)) ∈ cx_G := cx_t4 60 (by decide +kernel) rfl
theorem hw_781 : (Jvm.Cond.code ({ cls := "NamelessBox$Fraction", name := "halveBoth", desc := "()V" } : Jvm.MethodName) prog_4_method_5_code (2 : Nat) (Option.none : Option Jvm.ClassFile.FieldType)) ∈ cx_G := cx_t4 61 (by decide +kernel) rfl
theorem hw_782 : (Jvm.Cond.methodLink "NamelessBox$Fraction" (49 : Nat) ({ cls := "NamelessBox$Limbs", name := "isEven", desc := "([JI)Z" } : Jvm.MethodName)) ∈ cx_G := cx_t4 62 (by decide +kernel) rfl
theorem hw_783 : (Jvm.Cond.static ({ cls := "NamelessBox$Limbs", name := "isEven", desc := "([JI)Z" } : Jvm.MethodName)) ∈ cx_G := cx_t4 63 (by decide +kernel) rfl
theorem hw_784 : (Jvm.Cond.code ({ cls := "NamelessBox$Limbs", name := "isEven", desc := "([JI)Z" } : Jvm.MethodName) prog_5_method_11_code (2 : Nat) (Option.some Jvm.ClassFile.FieldType.boolean)) ∈ cx_G := cx_t4 64 (by decide +kernel) rfl
theorem hw_785 : (Jvm.Cond.methodLink "NamelessBox$Fraction" (52 : Nat) ({ cls := "NamelessBox$Limbs", name := "halve", desc := "([JI)V" } : Jvm.MethodName)) ∈ cx_G := cx_t4 65 (by decide +kernel) rfl
theorem hw_786 : (Jvm.Cond.static ({ cls := "NamelessBox$Limbs", name := "halve", desc := "([JI)V" } : Jvm.MethodName)) ∈ cx_G := cx_t4 66 (by decide +kernel) rfl
theorem hw_787 : (Jvm.Cond.code ({ cls := "NamelessBox$Limbs", name := "halve", desc := "([JI)V" } : Jvm.MethodName) prog_5_method_12_code (7 : Nat) (Option.none : Option Jvm.ClassFile.FieldType)) ∈ cx_G := cx_t4 67 (by decide +kernel) rfl
theorem hw_788 : (Jvm.Cond.methodLink "NamelessBox$Fraction" (43 : Nat) ({ cls := "NamelessBox$Fraction", name := "findOddDivisor", desc := "()V" } : Jvm.MethodName)) ∈ cx_G := cx_t4 68 (by decide +kernel) rfl
theorem hw_790 : (Jvm.Cond.instanceMethod ({ cls := "NamelessBox$Fraction", name := "findOddDivisor", desc := "()V" } : Jvm.MethodName)) ∈ cx_G := cx_t4 70 (by decide +kernel) rfl
theorem hw_791 : (Jvm.Cond.code ({ cls := "NamelessBox$Fraction", name := "findOddDivisor", desc := "()V" } : Jvm.MethodName) prog_4_method_6_code (2 : Nat) (Option.none : Option Jvm.ClassFile.FieldType)) ∈ cx_G := cx_t4 71 (by decide +kernel) rfl
theorem hw_792 : (Jvm.Cond.methodLink "NamelessBox$Fraction" (55 : Nat) ({ cls := "NamelessBox$Limbs", name := "compare", desc := "([JI[JI)I" } : Jvm.MethodName)) ∈ cx_G := cx_t4 72 (by decide +kernel) rfl
theorem hw_793 : (Jvm.Cond.methodLink "NamelessBox$Fraction" (59 : Nat) ({ cls := "NamelessBox$Limbs", name := "subtract", desc := "([JI[JI)V" } : Jvm.MethodName)) ∈ cx_G := cx_t4 73 (by decide +kernel) rfl
theorem hw_794 : (Jvm.Cond.static ({ cls := "NamelessBox$Limbs", name := "subtract", desc := "([JI[JI)V" } : Jvm.MethodName)) ∈ cx_G := cx_t4 74 (by decide +kernel) rfl
theorem hw_795 : (Jvm.Cond.code ({ cls := "NamelessBox$Limbs", name := "subtract", desc := "([JI[JI)V" } : Jvm.MethodName) prog_5_method_8_code (5 : Nat) (Option.none : Option Jvm.ClassFile.FieldType)) ∈ cx_G := cx_t4 75 (by decide +kernel) rfl
theorem hw_796 : (Jvm.Cond.methodLink "NamelessBox$Limbs" (21 : Nat) ({ cls := "NamelessBox$Limbs", name := "carry", desc := "([JI)V" } : Jvm.MethodName)) ∈ cx_G := cx_t4 76 (by decide +kernel) rfl
theorem hw_797 : (Jvm.Cond.methodLink "NamelessBox$Fraction" (46 : Nat) ({ cls := "NamelessBox$Limbs", name := "divide", desc := "([JI[JI)V" } : Jvm.MethodName)) ∈ cx_G := cx_t4 77 (by decide +kernel) rfl
theorem hw_798 : (Jvm.Cond.static ({ cls := "NamelessBox$Limbs", name := "divide", desc := "([JI[JI)V" } : Jvm.MethodName)) ∈ cx_G := cx_t4 78 (by decide +kernel) rfl
theorem hw_799 : (Jvm.Cond.code ({ cls := "NamelessBox$Limbs", name := "divide", desc := "([JI[JI)V" } : Jvm.MethodName) prog_5_method_13_code (12 : Nat) (Option.none : Option Jvm.ClassFile.FieldType)) ∈ cx_G := cx_t4 79 (by decide +kernel) rfl
theorem hw_800 : (Jvm.Cond.methodLink "NamelessBox$Limbs" (30 : Nat) ({ cls := "NamelessBox$Limbs", name := "inverseOf", desc := "(J)J" } : Jvm.MethodName)) ∈ cx_G := cx_t4 80 (by decide +kernel) rfl
theorem hw_801 : (Jvm.Cond.static ({ cls := "NamelessBox$Limbs", name := "inverseOf", desc := "(J)J" } : Jvm.MethodName)) ∈ cx_G := cx_t4 81 (by decide +kernel) rfl
theorem hw_802 : (Jvm.Cond.code ({ cls := "NamelessBox$Limbs", name := "inverseOf", desc := "(J)J" } : Jvm.MethodName) prog_5_method_14_code (5 : Nat) (Option.some Jvm.ClassFile.FieldType.long)) ∈ cx_G := cx_t4 82 (by decide +kernel) rfl
theorem hw_803 : (Jvm.Cond.constantLong "NamelessBox$Limbs" (34 : Nat) (2 : Int64)) ∈ cx_G := cx_t4 83 (by decide +kernel) rfl
theorem hw_804 : (Jvm.Cond.methodLink "NamelessBoxLaw" (82 : Nat) ({ cls := "NamelessBox", name := "named", desc := "(I)I" } : Jvm.MethodName)) ∈ cx_G := cx_t4 84 (by decide +kernel) rfl
theorem hw_805 : (Jvm.Cond.instanceMethod ({ cls := "NamelessBox", name := "named", desc := "(I)I" } : Jvm.MethodName)) ∈ cx_G := cx_t4 85 (by decide +kernel) rfl
theorem hw_806 : (Jvm.Cond.selects "NamelessBox" ({ cls := "NamelessBox", name := "named", desc := "(I)I" } : Jvm.MethodName) ({ cls := "NamelessBox", name := "named", desc := "(I)I" } : Jvm.MethodName)) ∈ cx_G := cx_t4 86 (by decide +kernel) rfl
theorem hw_807 : (Jvm.Cond.code ({ cls := "NamelessBox", name := "named", desc := "(I)I" } : Jvm.MethodName) prog_1_method_17_code (3 : Nat) (Option.some Jvm.ClassFile.FieldType.int)) ∈ cx_G := cx_t4 87 (by decide +kernel) rfl
theorem hw_808 : (Jvm.Cond.methodLink "NamelessBox" (185 : Nat) ({ cls := "NamelessBox$Sums", name := "likeliest", desc := "(I)I" } : Jvm.MethodName)) ∈ cx_G := cx_t4 88 (by decide +kernel) rfl
theorem hw_809 : (Jvm.Cond.instanceMethod ({ cls := "NamelessBox$Sums", name := "likeliest", desc := "(I)I" } : Jvm.MethodName)) ∈ cx_G := cx_t4 89 (by decide +kernel) rfl
theorem hw_810 : (Jvm.Cond.selects "NamelessBox$Sums" ({ cls := "NamelessBox$Sums", name := "likeliest", desc := "(I)I" } : Jvm.MethodName) ({ cls := "NamelessBox$Sums", name := "likeliest", desc := "(I)I" } : Jvm.MethodName)) ∈ cx_G := cx_t4 90 (by decide +kernel) rfl
theorem hw_811 : (Jvm.Cond.code ({ cls := "NamelessBox$Sums", name := "likeliest", desc := "(I)I" } : Jvm.MethodName) prog_7_method_12_code (5 : Nat) (Option.some Jvm.ClassFile.FieldType.int)) ∈ cx_G := cx_t4 91 (by decide +kernel) rfl
theorem hw_813 : (Jvm.Cond.methodLink "NamelessBoxLaw" (86 : Nat) ({ cls := "NamelessBox", name := "best", desc := "(I)I" } : Jvm.MethodName)) ∈ cx_G := cx_t4 93 (by decide +kernel) rfl
theorem hw_814 : (Jvm.Cond.instanceMethod ({ cls := "NamelessBox", name := "best", desc := "(I)I" } : Jvm.MethodName)) ∈ cx_G := cx_t4 94 (by decide +kernel) rfl
theorem hw_815 : (Jvm.Cond.selects "NamelessBox" ({ cls := "NamelessBox", name := "best", desc := "(I)I" } : Jvm.MethodName) ({ cls := "NamelessBox", name := "best", desc := "(I)I" } : Jvm.MethodName)) ∈ cx_G := cx_t4 95 (by decide +kernel) rfl
theorem hw_816 : (Jvm.Cond.code ({ cls := "NamelessBox", name := "best", desc := "(I)I" } : Jvm.MethodName) prog_1_method_18_code (2 : Nat) (Option.some Jvm.ClassFile.FieldType.int)) ∈ cx_G := cx_t4 96 (by decide +kernel) rfl
theorem hw_817 : (Jvm.Cond.methodLink "NamelessBoxLaw" (90 : Nat) ({ cls := "NamelessBox", name := "all", desc := "()I" } : Jvm.MethodName)) ∈ cx_G := cx_t4 97 (by decide +kernel) rfl
theorem hw_818 : (Jvm.Cond.instanceMethod ({ cls := "NamelessBox", name := "all", desc := "()I" } : Jvm.MethodName)) ∈ cx_G := cx_t4 98 (by decide +kernel) rfl
theorem hw_819 : (Jvm.Cond.selects "NamelessBox" ({ cls := "NamelessBox", name := "all", desc := "()I" } : Jvm.MethodName) ({ cls := "NamelessBox", name := "all", desc := "()I" } : Jvm.MethodName)) ∈ cx_G := cx_t4 99 (by decide +kernel) rfl
theorem hw_820 : (Jvm.Cond.code ({ cls := "NamelessBox", name := "all", desc := "()I" } : Jvm.MethodName) prog_1_method_19_code (1 : Nat) (Option.some Jvm.ClassFile.FieldType.int)) ∈ cx_G := cx_t4 100 (by decide +kernel) rfl
theorem hw_821 : (Jvm.Cond.methodLink "NamelessBox" (194 : Nat) ({ cls := "NamelessBox$Fraction", name := "setWhole", desc := "([JI)V" } : Jvm.MethodName)) ∈ cx_G := cx_t4 101 (by decide +kernel) rfl
theorem hw_822 : (Jvm.Cond.instanceMethod ({ cls := "NamelessBox$Fraction", name := "setWhole", desc := "([JI)V" } : Jvm.MethodName)) ∈ cx_G := cx_t4 102 (by decide +kernel) rfl
theorem hw_823 : (Jvm.Cond.selects "NamelessBox$Fraction" ({ cls := "NamelessBox$Fraction", name := "setWhole", desc := "([JI)V" } : Jvm.MethodName) ({ cls := "NamelessBox$Fraction", name := "setWhole", desc := "([JI)V" } : Jvm.MethodName)) ∈ cx_G := cx_t4 103 (by decide +kernel) rfl
theorem hw_824 : (Jvm.Cond.code ({ cls := "NamelessBox$Fraction", name := "setWhole", desc := "([JI)V" } : Jvm.MethodName) prog_4_method_3_code (3 : Nat) (Option.none : Option Jvm.ClassFile.FieldType)) ∈ cx_G := cx_t4 104 (by decide +kernel) rfl
theorem hw_825 : (Jvm.Cond.methodLink "NamelessBoxLaw" (94 : Nat) ({ cls := "NamelessBox", name := "sure", desc := "(I)I" } : Jvm.MethodName)) ∈ cx_G := cx_t4 105 (by decide +kernel) rfl
theorem hw_826 : (Jvm.Cond.instanceMethod ({ cls := "NamelessBox", name := "sure", desc := "(I)I" } : Jvm.MethodName)) ∈ cx_G := cx_t4 106 (by decide +kernel) rfl
theorem hw_827 : (Jvm.Cond.selects "NamelessBox" ({ cls := "NamelessBox", name := "sure", desc := "(I)I" } : Jvm.MethodName) ({ cls := "NamelessBox", name := "sure", desc := "(I)I" } : Jvm.MethodName)) ∈ cx_G := cx_t4 107 (by decide +kernel) rfl
theorem hw_828 : (Jvm.Cond.code ({ cls := "NamelessBox", name := "sure", desc := "(I)I" } : Jvm.MethodName) prog_1_method_20_code (4 : Nat) (Option.some Jvm.ClassFile.FieldType.int)) ∈ cx_G := cx_t4 108 (by decide +kernel) rfl
theorem hw_829 : (Jvm.Cond.methodLink "NamelessBox" (201 : Nat) ({ cls := "NamelessBox$Sums", name := "isSure", desc := "(II)Z" } : Jvm.MethodName)) ∈ cx_G := cx_t4 109 (by decide +kernel) rfl
theorem hw_830 : (Jvm.Cond.instanceMethod ({ cls := "NamelessBox$Sums", name := "isSure", desc := "(II)Z" } : Jvm.MethodName)) ∈ cx_G := cx_t4 110 (by decide +kernel) rfl
theorem hw_831 : (Jvm.Cond.selects "NamelessBox$Sums" ({ cls := "NamelessBox$Sums", name := "isSure", desc := "(II)Z" } : Jvm.MethodName) ({ cls := "NamelessBox$Sums", name := "isSure", desc := "(II)Z" } : Jvm.MethodName)) ∈ cx_G := cx_t4 111 (by decide +kernel) rfl
theorem hw_832 : (Jvm.Cond.code ({ cls := "NamelessBox$Sums", name := "isSure", desc := "(II)Z" } : Jvm.MethodName) prog_7_method_14_code (3 : Nat) (Option.some Jvm.ClassFile.FieldType.boolean)) ∈ cx_G := cx_t4 112 (by decide +kernel) rfl
theorem hw_833 : (Jvm.Cond.methodLink "NamelessBox$Sums" (95 : Nat) ({ cls := "NamelessBox$Sums", name := "likeliest", desc := "(I)I" } : Jvm.MethodName)) ∈ cx_G := cx_t4 113 (by decide +kernel) rfl
theorem hw_834 : (Jvm.Cond.constantLong "NamelessBox$Sums" (99 : Nat) (100 : Int64)) ∈ cx_G := cx_t4 114 (by decide +kernel) rfl
theorem hw_835 : (Jvm.Cond.methodLink "NamelessBox$Sums" (101 : Nat) ({ cls := "NamelessBox$Limbs", name := "multiply", desc := "([JI[JIJ)V" } : Jvm.MethodName)) ∈ cx_G := cx_t4 115 (by decide +kernel) rfl
theorem hw_836 : (Jvm.Cond.methodLink "NamelessBoxLaw" (98 : Nat) ({ cls := "NamelessBox", name := "falls", desc := "(II)I" } : Jvm.MethodName)) ∈ cx_G := cx_t4 116 (by decide +kernel) rfl
theorem hw_837 : (Jvm.Cond.instanceMethod ({ cls := "NamelessBox", name := "falls", desc := "(II)I" } : Jvm.MethodName)) ∈ cx_G := cx_t4 117 (by decide +kernel) rfl
theorem hw_838 : (Jvm.Cond.selects "NamelessBox" ({ cls := "NamelessBox", name := "falls", desc := "(II)I" } : Jvm.MethodName) ({ cls := "NamelessBox", name := "falls", desc := "(II)I" } : Jvm.MethodName)) ∈ cx_G := cx_t4 118 (by decide +kernel) rfl
theorem hw_839 : (Jvm.Cond.code ({ cls := "NamelessBox", name := "falls", desc := "(II)I" } : Jvm.MethodName) prog_1_method_21_code (5 : Nat) (Option.some Jvm.ClassFile.FieldType.int)) ∈ cx_G := cx_t4 119 (by decide +kernel) rfl
theorem hw_840 : (Jvm.Cond.methodLink "NamelessBox" (209 : Nat) ({ cls := "NamelessBox$Ways", name := "leaveOut", desc := "(I)V" } : Jvm.MethodName)) ∈ cx_G := cx_t4 120 (by decide +kernel) rfl
theorem hw_841 : (Jvm.Cond.instanceMethod ({ cls := "NamelessBox$Ways", name := "leaveOut", desc := "(I)V" } : Jvm.MethodName)) ∈ cx_G := cx_t4 121 (by decide +kernel) rfl
theorem hw_842 : (Jvm.Cond.selects "NamelessBox$Ways" ({ cls := "NamelessBox$Ways", name := "leaveOut", desc := "(I)V" } : Jvm.MethodName) ({ cls := "NamelessBox$Ways", name := "leaveOut", desc := "(I)V" } : Jvm.MethodName)) ∈ cx_G := cx_t4 122 (by decide +kernel) rfl
theorem hw_843 : (Jvm.Cond.code ({ cls := "NamelessBox$Ways", name := "leaveOut", desc := "(I)V" } : Jvm.MethodName) prog_9_method_3_code (2 : Nat) (Option.none : Option Jvm.ClassFile.FieldType)) ∈ cx_G := cx_t4 123 (by decide +kernel) rfl
theorem hw_844 : (Jvm.Cond.methodLink "NamelessBox" (219 : Nat) ({ cls := "NamelessBox", name := "staysSure", desc := "(II)Z" } : Jvm.MethodName)) ∈ cx_G := cx_t4 124 (by decide +kernel) rfl
theorem hw_846 : (Jvm.Cond.instanceMethod ({ cls := "NamelessBox", name := "staysSure", desc := "(II)Z" } : Jvm.MethodName)) ∈ cx_G := cx_t4 126 (by decide +kernel) rfl
theorem hw_847 : (Jvm.Cond.code ({ cls := "NamelessBox", name := "staysSure", desc := "(II)Z" } : Jvm.MethodName) prog_1_method_52_code (3 : Nat) (Option.some Jvm.ClassFile.FieldType.boolean)) ∈ cx_G := cx_t4 127 (by decide +kernel) rfl
theorem hw_848 : (Jvm.Cond.methodLink "NamelessBoxLaw" (102 : Nat) ({ cls := "NamelessBox", name := "same", desc := "(II)I" } : Jvm.MethodName)) ∈ cx_G := cx_t4 128 (by decide +kernel) rfl
theorem hw_849 : (Jvm.Cond.instanceMethod ({ cls := "NamelessBox", name := "same", desc := "(II)I" } : Jvm.MethodName)) ∈ cx_G := cx_t4 129 (by decide +kernel) rfl
theorem hw_850 : (Jvm.Cond.selects "NamelessBox" ({ cls := "NamelessBox", name := "same", desc := "(II)I" } : Jvm.MethodName) ({ cls := "NamelessBox", name := "same", desc := "(II)I" } : Jvm.MethodName)) ∈ cx_G := cx_t4 130 (by decide +kernel) rfl
theorem hw_851 : (Jvm.Cond.code ({ cls := "NamelessBox", name := "same", desc := "(II)I" } : Jvm.MethodName) prog_1_method_22_code (4 : Nat) (Option.some Jvm.ClassFile.FieldType.int)) ∈ cx_G := cx_t4 131 (by decide +kernel) rfl
theorem hw_852 : (Jvm.Cond.methodLink "NamelessBox" (222 : Nat) ({ cls := "NamelessBox$Sums", name := "startAnswer", desc := "()V" } : Jvm.MethodName)) ∈ cx_G := cx_t4 132 (by decide +kernel) rfl
theorem hw_853 : (Jvm.Cond.instanceMethod ({ cls := "NamelessBox$Sums", name := "startAnswer", desc := "()V" } : Jvm.MethodName)) ∈ cx_G := cx_t4 133 (by decide +kernel) rfl
theorem hw_854 : (Jvm.Cond.selects "NamelessBox$Sums" ({ cls := "NamelessBox$Sums", name := "startAnswer", desc := "()V" } : Jvm.MethodName) ({ cls := "NamelessBox$Sums", name := "startAnswer", desc := "()V" } : Jvm.MethodName)) ∈ cx_G := cx_t4 134 (by decide +kernel) rfl
theorem hw_855 : (Jvm.Cond.code ({ cls := "NamelessBox$Sums", name := "startAnswer", desc := "()V" } : Jvm.MethodName) prog_7_method_8_code (1 : Nat) (Option.none : Option Jvm.ClassFile.FieldType)) ∈ cx_G := cx_t4 135 (by decide +kernel) rfl
theorem hw_856 : (Jvm.Cond.methodLink "NamelessBox" (225 : Nat) ({ cls := "NamelessBox$Sums", name := "addJoint", desc := "(IIII)V" } : Jvm.MethodName)) ∈ cx_G := cx_t4 136 (by decide +kernel) rfl
theorem hw_857 : (Jvm.Cond.instanceMethod ({ cls := "NamelessBox$Sums", name := "addJoint", desc := "(IIII)V" } : Jvm.MethodName)) ∈ cx_G := cx_t4 137 (by decide +kernel) rfl
theorem hw_858 : (Jvm.Cond.selects "NamelessBox$Sums" ({ cls := "NamelessBox$Sums", name := "addJoint", desc := "(IIII)V" } : Jvm.MethodName) ({ cls := "NamelessBox$Sums", name := "addJoint", desc := "(IIII)V" } : Jvm.MethodName)) ∈ cx_G := cx_t4 138 (by decide +kernel) rfl
theorem hw_859 : (Jvm.Cond.code ({ cls := "NamelessBox$Sums", name := "addJoint", desc := "(IIII)V" } : Jvm.MethodName) prog_7_method_9_code (5 : Nat) (Option.none : Option Jvm.ClassFile.FieldType)) ∈ cx_G := cx_t4 139 (by decide +kernel) rfl
theorem hw_860 : (Jvm.Cond.methodLink "NamelessBox$Sums" (87 : Nat) ({ cls := "NamelessBox$Sums", name := "putJoint", desc := "([JIIIII)V" } : Jvm.MethodName)) ∈ cx_G := cx_t4 140 (by decide +kernel) rfl
theorem hw_861 : (Jvm.Cond.instanceMethod ({ cls := "NamelessBox$Sums", name := "putJoint", desc := "([JIIIII)V" } : Jvm.MethodName)) ∈ cx_G := cx_t4 141 (by decide +kernel) rfl
theorem hw_862 : (Jvm.Cond.selects "NamelessBox$Sums" ({ cls := "NamelessBox$Sums", name := "putJoint", desc := "([JIIIII)V" } : Jvm.MethodName) ({ cls := "NamelessBox$Sums", name := "putJoint", desc := "([JIIIII)V" } : Jvm.MethodName)) ∈ cx_G := cx_t4 142 (by decide +kernel) rfl
theorem hw_863 : (Jvm.Cond.code ({ cls := "NamelessBox$Sums", name := "putJoint", desc := "([JIIIII)V" } : Jvm.MethodName) prog_7_method_10_code (8 : Nat) (Option.none : Option Jvm.ClassFile.FieldType)) ∈ cx_G := cx_t4 143 (by decide +kernel) rfl
theorem hw_864 : (Jvm.Cond.methodLink "NamelessBox" (229 : Nat) ({ cls := "NamelessBox", name := "answerShare", desc := "()I" } : Jvm.MethodName)) ∈ cx_G := cx_t4 144 (by decide +kernel) rfl
theorem hw_866 : (Jvm.Cond.instanceMethod ({ cls := "NamelessBox", name := "answerShare", desc := "()I" } : Jvm.MethodName)) ∈ cx_G := cx_t4 146 (by decide +kernel) rfl
theorem hw_867 : (Jvm.Cond.code ({ cls := "NamelessBox", name := "answerShare", desc := "()I" } : Jvm.MethodName) prog_1_method_51_code (1 : Nat) (Option.some Jvm.ClassFile.FieldType.int)) ∈ cx_G := cx_t4 147 (by decide +kernel) rfl
theorem hw_868 : (Jvm.Cond.methodLink "NamelessBox" (318 : Nat) ({ cls := "NamelessBox$Limbs", name := "carry", desc := "([JI)V" } : Jvm.MethodName)) ∈ cx_G := cx_t4 148 (by decide +kernel) rfl
theorem hw_869 : (Jvm.Cond.methodLink "NamelessBoxLaw" (106 : Nat) ({ cls := "NamelessBox", name := "noneOf", desc := "(I)I" } : Jvm.MethodName)) ∈ cx_G := cx_t4 149 (by decide +kernel) rfl
theorem hw_870 : (Jvm.Cond.instanceMethod ({ cls := "NamelessBox", name := "noneOf", desc := "(I)I" } : Jvm.MethodName)) ∈ cx_G := cx_t4 150 (by decide +kernel) rfl
theorem hw_871 : (Jvm.Cond.selects "NamelessBox" ({ cls := "NamelessBox", name := "noneOf", desc := "(I)I" } : Jvm.MethodName) ({ cls := "NamelessBox", name := "noneOf", desc := "(I)I" } : Jvm.MethodName)) ∈ cx_G := cx_t4 151 (by decide +kernel) rfl
theorem hw_872 : (Jvm.Cond.code ({ cls := "NamelessBox", name := "noneOf", desc := "(I)I" } : Jvm.MethodName) prog_1_method_23_code (2 : Nat) (Option.some Jvm.ClassFile.FieldType.int)) ∈ cx_G := cx_t4 152 (by decide +kernel) rfl
theorem hw_873 : (Jvm.Cond.methodLink "NamelessBox" (232 : Nat) ({ cls := "NamelessBox$Sums", name := "addCrowdsWithout", desc := "(I)V" } : Jvm.MethodName)) ∈ cx_G := cx_t4 153 (by decide +kernel) rfl
theorem hw_874 : (Jvm.Cond.instanceMethod ({ cls := "NamelessBox$Sums", name := "addCrowdsWithout", desc := "(I)V" } : Jvm.MethodName)) ∈ cx_G := cx_t4 154 (by decide +kernel) rfl
theorem hw_875 : (Jvm.Cond.selects "NamelessBox$Sums" ({ cls := "NamelessBox$Sums", name := "addCrowdsWithout", desc := "(I)V" } : Jvm.MethodName) ({ cls := "NamelessBox$Sums", name := "addCrowdsWithout", desc := "(I)V" } : Jvm.MethodName)) ∈ cx_G := cx_t4 155 (by decide +kernel) rfl
theorem hw_876 : (Jvm.Cond.code ({ cls := "NamelessBox$Sums", name := "addCrowdsWithout", desc := "(I)V" } : Jvm.MethodName) prog_7_method_11_code (3 : Nat) (Option.none : Option Jvm.ClassFile.FieldType)) ∈ cx_G := cx_t4 156 (by decide +kernel) rfl
theorem hw_877 : (Jvm.Cond.methodLink "NamelessBoxLaw" (110 : Nat) ({ cls := "NamelessBox", name := "friend", desc := "(I)I" } : Jvm.MethodName)) ∈ cx_G := cx_t4 157 (by decide +kernel) rfl
theorem hw_878 : (Jvm.Cond.instanceMethod ({ cls := "NamelessBox", name := "friend", desc := "(I)I" } : Jvm.MethodName)) ∈ cx_G := cx_t4 158 (by decide +kernel) rfl
theorem hw_879 : (Jvm.Cond.selects "NamelessBox" ({ cls := "NamelessBox", name := "friend", desc := "(I)I" } : Jvm.MethodName) ({ cls := "NamelessBox", name := "friend", desc := "(I)I" } : Jvm.MethodName)) ∈ cx_G := cx_t4 159 (by decide +kernel) rfl
theorem hw_880 : (Jvm.Cond.code ({ cls := "NamelessBox", name := "friend", desc := "(I)I" } : Jvm.MethodName) prog_1_method_24_code (3 : Nat) (Option.some Jvm.ClassFile.FieldType.int)) ∈ cx_G := cx_t4 160 (by decide +kernel) rfl
theorem hw_881 : (Jvm.Cond.methodLink "NamelessBox" (235 : Nat) ({ cls := "NamelessBox", name := "addStrangerBeside", desc := "(II)V" } : Jvm.MethodName)) ∈ cx_G := cx_t4 161 (by decide +kernel) rfl
theorem hw_883 : (Jvm.Cond.instanceMethod ({ cls := "NamelessBox", name := "addStrangerBeside", desc := "(II)V" } : Jvm.MethodName)) ∈ cx_G := cx_t4 163 (by decide +kernel) rfl
theorem hw_884 : (Jvm.Cond.code ({ cls := "NamelessBox", name := "addStrangerBeside", desc := "(II)V" } : Jvm.MethodName) prog_1_method_53_code (5 : Nat) (Option.none : Option Jvm.ClassFile.FieldType)) ∈ cx_G := cx_t4 164 (by decide +kernel) rfl
theorem hw_885 : (Jvm.Cond.methodLink "NamelessBox" (249 : Nat) ({ cls := "NamelessBox$Rows", name := "at", desc := "(II)I" } : Jvm.MethodName)) ∈ cx_G := cx_t4 165 (by decide +kernel) rfl
theorem hw_886 : (Jvm.Cond.methodLink "NamelessBoxLaw" (114 : Nat) ({ cls := "NamelessBox", name := "of", desc := "(II)I" } : Jvm.MethodName)) ∈ cx_G := cx_t4 166 (by decide +kernel) rfl
theorem hw_887 : (Jvm.Cond.instanceMethod ({ cls := "NamelessBox", name := "of", desc := "(II)I" } : Jvm.MethodName)) ∈ cx_G := cx_t4 167 (by decide +kernel) rfl
theorem hw_888 : (Jvm.Cond.selects "NamelessBox" ({ cls := "NamelessBox", name := "of", desc := "(II)I" } : Jvm.MethodName) ({ cls := "NamelessBox", name := "of", desc := "(II)I" } : Jvm.MethodName)) ∈ cx_G := cx_t4 168 (by decide +kernel) rfl
theorem hw_889 : (Jvm.Cond.code ({ cls := "NamelessBox", name := "of", desc := "(II)I" } : Jvm.MethodName) prog_1_method_25_code (3 : Nat) (Option.some Jvm.ClassFile.FieldType.int)) ∈ cx_G := cx_t4 169 (by decide +kernel) rfl
theorem hw_890 : (Jvm.Cond.methodLink "NamelessBoxLaw" (118 : Nat) ({ cls := "NamelessBox", name := "when", desc := "(II)I" } : Jvm.MethodName)) ∈ cx_G := cx_t4 170 (by decide +kernel) rfl
theorem hw_891 : (Jvm.Cond.instanceMethod ({ cls := "NamelessBox", name := "when", desc := "(II)I" } : Jvm.MethodName)) ∈ cx_G := cx_t4 171 (by decide +kernel) rfl
theorem hw_892 : (Jvm.Cond.selects "NamelessBox" ({ cls := "NamelessBox", name := "when", desc := "(II)I" } : Jvm.MethodName) ({ cls := "NamelessBox", name := "when", desc := "(II)I" } : Jvm.MethodName)) ∈ cx_G := cx_t4 172 (by decide +kernel) rfl
theorem hw_893 : (Jvm.Cond.code ({ cls := "NamelessBox", name := "when", desc := "(II)I" } : Jvm.MethodName) prog_1_method_26_code (3 : Nat) (Option.some Jvm.ClassFile.FieldType.int)) ∈ cx_G := cx_t4 173 (by decide +kernel) rfl
theorem hw_894 : (Jvm.Cond.methodLink "NamelessBox" (242 : Nat) ({ cls := "NamelessBox", name := "isYearOf", desc := "(II)Z" } : Jvm.MethodName)) ∈ cx_G := cx_t4 174 (by decide +kernel) rfl
theorem hw_896 : (Jvm.Cond.instanceMethod ({ cls := "NamelessBox", name := "isYearOf", desc := "(II)Z" } : Jvm.MethodName)) ∈ cx_G := cx_t4 176 (by decide +kernel) rfl
theorem hw_897 : (Jvm.Cond.code ({ cls := "NamelessBox", name := "isYearOf", desc := "(II)Z" } : Jvm.MethodName) prog_1_method_46_code (3 : Nat) (Option.some Jvm.ClassFile.FieldType.boolean)) ∈ cx_G := cx_t4 177 (by decide +kernel) rfl
theorem hw_898 : (Jvm.Cond.methodLink "NamelessBox" (245 : Nat) ({ cls := "NamelessBox$Ways", name := "lookAtYear", desc := "(IIZ)V" } : Jvm.MethodName)) ∈ cx_G := cx_t4 178 (by decide +kernel) rfl
theorem hw_899 : (Jvm.Cond.instanceMethod ({ cls := "NamelessBox$Ways", name := "lookAtYear", desc := "(IIZ)V" } : Jvm.MethodName)) ∈ cx_G := cx_t4 179 (by decide +kernel) rfl
theorem hw_900 : (Jvm.Cond.selects "NamelessBox$Ways" ({ cls := "NamelessBox$Ways", name := "lookAtYear", desc := "(IIZ)V" } : Jvm.MethodName) ({ cls := "NamelessBox$Ways", name := "lookAtYear", desc := "(IIZ)V" } : Jvm.MethodName)) ∈ cx_G := cx_t4 180 (by decide +kernel) rfl
theorem hw_901 : (Jvm.Cond.code ({ cls := "NamelessBox$Ways", name := "lookAtYear", desc := "(IIZ)V" } : Jvm.MethodName) prog_9_method_4_code (4 : Nat) (Option.none : Option Jvm.ClassFile.FieldType)) ∈ cx_G := cx_t4 181 (by decide +kernel) rfl
theorem hw_902 : (Jvm.Cond.methodLink "NamelessBox$Ways" (102 : Nat) ({ cls := "NamelessBox$Rows", name := "has", desc := "(I)Z" } : Jvm.MethodName)) ∈ cx_G := cx_t4 182 (by decide +kernel) rfl
theorem hw_903 : (Jvm.Cond.methodLink "NamelessBoxLaw" (122 : Nat) ({ cls := "NamelessBox", name := "span", desc := "(II)I" } : Jvm.MethodName)) ∈ cx_G := cx_t4 183 (by decide +kernel) rfl
theorem hw_904 : (Jvm.Cond.instanceMethod ({ cls := "NamelessBox", name := "span", desc := "(II)I" } : Jvm.MethodName)) ∈ cx_G := cx_t4 184 (by decide +kernel) rfl
theorem hw_905 : (Jvm.Cond.selects "NamelessBox" ({ cls := "NamelessBox", name := "span", desc := "(II)I" } : Jvm.MethodName) ({ cls := "NamelessBox", name := "span", desc := "(II)I" } : Jvm.MethodName)) ∈ cx_G := cx_t4 185 (by decide +kernel) rfl
theorem hw_906 : (Jvm.Cond.code ({ cls := "NamelessBox", name := "span", desc := "(II)I" } : Jvm.MethodName) prog_1_method_27_code (7 : Nat) (Option.some Jvm.ClassFile.FieldType.int)) ∈ cx_G := cx_t4 186 (by decide +kernel) rfl
theorem hw_907 : (Jvm.Cond.methodLink "NamelessBoxLaw" (126 : Nat) ({ cls := "NamelessBox", name := "ahead", desc := "(II)I" } : Jvm.MethodName)) ∈ cx_G := cx_t4 187 (by decide +kernel) rfl
theorem hw_908 : (Jvm.Cond.instanceMethod ({ cls := "NamelessBox", name := "ahead", desc := "(II)I" } : Jvm.MethodName)) ∈ cx_G := cx_t4 188 (by decide +kernel) rfl
theorem hw_909 : (Jvm.Cond.selects "NamelessBox" ({ cls := "NamelessBox", name := "ahead", desc := "(II)I" } : Jvm.MethodName) ({ cls := "NamelessBox", name := "ahead", desc := "(II)I" } : Jvm.MethodName)) ∈ cx_G := cx_t4 189 (by decide +kernel) rfl
theorem hw_910 : (Jvm.Cond.code ({ cls := "NamelessBox", name := "ahead", desc := "(II)I" } : Jvm.MethodName) prog_1_method_28_code (3 : Nat) (Option.some Jvm.ClassFile.FieldType.int)) ∈ cx_G := cx_t4 190 (by decide +kernel) rfl
theorem hw_911 : (Jvm.Cond.methodLink "NamelessBox" (252 : Nat) ({ cls := "NamelessBox$Ways", name := "lookInOrder", desc := "(II)V" } : Jvm.MethodName)) ∈ cx_G := cx_t4 191 (by decide +kernel) rfl
theorem hw_912 : (Jvm.Cond.instanceMethod ({ cls := "NamelessBox$Ways", name := "lookInOrder", desc := "(II)V" } : Jvm.MethodName)) ∈ cx_G := cx_t4 192 (by decide +kernel) rfl
theorem hw_913 : (Jvm.Cond.selects "NamelessBox$Ways" ({ cls := "NamelessBox$Ways", name := "lookInOrder", desc := "(II)V" } : Jvm.MethodName) ({ cls := "NamelessBox$Ways", name := "lookInOrder", desc := "(II)V" } : Jvm.MethodName)) ∈ cx_G := cx_t4 193 (by decide +kernel) rfl
theorem hw_914 : (Jvm.Cond.code ({ cls := "NamelessBox$Ways", name := "lookInOrder", desc := "(II)V" } : Jvm.MethodName) prog_9_method_5_code (3 : Nat) (Option.none : Option Jvm.ClassFile.FieldType)) ∈ cx_G := cx_t4 194 (by decide +kernel) rfl
theorem hw_915 : (Jvm.Cond.methodLink "NamelessBoxLaw" (130 : Nat) ({ cls := "NamelessBox", name := "parts", desc := "(II)I" } : Jvm.MethodName)) ∈ cx_G := cx_t4 195 (by decide +kernel) rfl
theorem hw_916 : (Jvm.Cond.instanceMethod ({ cls := "NamelessBox", name := "parts", desc := "(II)I" } : Jvm.MethodName)) ∈ cx_G := cx_t4 196 (by decide +kernel) rfl
theorem hw_917 : (Jvm.Cond.selects "NamelessBox" ({ cls := "NamelessBox", name := "parts", desc := "(II)I" } : Jvm.MethodName) ({ cls := "NamelessBox", name := "parts", desc := "(II)I" } : Jvm.MethodName)) ∈ cx_G := cx_t4 197 (by decide +kernel) rfl
theorem hw_918 : (Jvm.Cond.code ({ cls := "NamelessBox", name := "parts", desc := "(II)I" } : Jvm.MethodName) prog_1_method_29_code (6 : Nat) (Option.some Jvm.ClassFile.FieldType.int)) ∈ cx_G := cx_t4 198 (by decide +kernel) rfl
theorem hw_919 : (Jvm.Cond.methodLink "NamelessBox" (255 : Nat) ({ cls := "NamelessBox", name := "areTwoPeople", desc := "(II)Z" } : Jvm.MethodName)) ∈ cx_G := cx_t4 199 (by decide +kernel) rfl
theorem hw_921 : (Jvm.Cond.instanceMethod ({ cls := "NamelessBox", name := "areTwoPeople", desc := "(II)Z" } : Jvm.MethodName)) ∈ cx_G := cx_t4 201 (by decide +kernel) rfl
theorem hw_922 : (Jvm.Cond.code ({ cls := "NamelessBox", name := "areTwoPeople", desc := "(II)Z" } : Jvm.MethodName) prog_1_method_45_code (3 : Nat) (Option.some Jvm.ClassFile.FieldType.boolean)) ∈ cx_G := cx_t4 202 (by decide +kernel) rfl
theorem hw_923 : (Jvm.Cond.methodLink "NamelessBoxLaw" (134 : Nat) ({ cls := "NamelessBox", name := "doubt", desc := "(II)I" } : Jvm.MethodName)) ∈ cx_G := cx_t4 203 (by decide +kernel) rfl
theorem hw_924 : (Jvm.Cond.instanceMethod ({ cls := "NamelessBox", name := "doubt", desc := "(II)I" } : Jvm.MethodName)) ∈ cx_G := cx_t4 204 (by decide +kernel) rfl
theorem hw_925 : (Jvm.Cond.selects "NamelessBox" ({ cls := "NamelessBox", name := "doubt", desc := "(II)I" } : Jvm.MethodName) ({ cls := "NamelessBox", name := "doubt", desc := "(II)I" } : Jvm.MethodName)) ∈ cx_G := cx_t4 205 (by decide +kernel) rfl
theorem hw_926 : (Jvm.Cond.code ({ cls := "NamelessBox", name := "doubt", desc := "(II)I" } : Jvm.MethodName) prog_1_method_30_code (3 : Nat) (Option.some Jvm.ClassFile.FieldType.int)) ∈ cx_G := cx_t4 206 (by decide +kernel) rfl
theorem hw_927 : (Jvm.Cond.methodLink "NamelessBox" (258 : Nat) ({ cls := "NamelessBox$Sums", name := "closestHead", desc := "(II)I" } : Jvm.MethodName)) ∈ cx_G := cx_t4 207 (by decide +kernel) rfl
theorem hw_928 : (Jvm.Cond.instanceMethod ({ cls := "NamelessBox$Sums", name := "closestHead", desc := "(II)I" } : Jvm.MethodName)) ∈ cx_G := cx_t4 208 (by decide +kernel) rfl
theorem hw_929 : (Jvm.Cond.selects "NamelessBox$Sums" ({ cls := "NamelessBox$Sums", name := "closestHead", desc := "(II)I" } : Jvm.MethodName) ({ cls := "NamelessBox$Sums", name := "closestHead", desc := "(II)I" } : Jvm.MethodName)) ∈ cx_G := cx_t4 209 (by decide +kernel) rfl
theorem hw_930 : (Jvm.Cond.code ({ cls := "NamelessBox$Sums", name := "closestHead", desc := "(II)I" } : Jvm.MethodName) prog_7_method_15_code (8 : Nat) (Option.some Jvm.ClassFile.FieldType.int)) ∈ cx_G := cx_t4 210 (by decide +kernel) rfl
theorem hw_931 : (Jvm.Cond.methodLink "NamelessBoxLaw" (138 : Nat) ({ cls := "NamelessBox", name := "right", desc := "()I" } : Jvm.MethodName)) ∈ cx_G := cx_t4 211 (by decide +kernel) rfl
theorem hw_932 : (Jvm.Cond.instanceMethod ({ cls := "NamelessBox", name := "right", desc := "()I" } : Jvm.MethodName)) ∈ cx_G := cx_t4 212 (by decide +kernel) rfl
theorem hw_933 : (Jvm.Cond.selects "NamelessBox" ({ cls := "NamelessBox", name := "right", desc := "()I" } : Jvm.MethodName) ({ cls := "NamelessBox", name := "right", desc := "()I" } : Jvm.MethodName)) ∈ cx_G := cx_t4 213 (by decide +kernel) rfl
theorem hw_934 : (Jvm.Cond.code ({ cls := "NamelessBox", name := "right", desc := "()I" } : Jvm.MethodName) prog_1_method_31_code (1 : Nat) (Option.some Jvm.ClassFile.FieldType.int)) ∈ cx_G := cx_t4 214 (by decide +kernel) rfl
theorem hw_935 : (Jvm.Cond.methodLink "NamelessBox" (261 : Nat) ({ cls := "NamelessBox$Sums", name := "addLikeliest", desc := "()V" } : Jvm.MethodName)) ∈ cx_G := cx_t4 215 (by decide +kernel) rfl
theorem hw_936 : (Jvm.Cond.instanceMethod ({ cls := "NamelessBox$Sums", name := "addLikeliest", desc := "()V" } : Jvm.MethodName)) ∈ cx_G := cx_t4 216 (by decide +kernel) rfl
theorem hw_937 : (Jvm.Cond.selects "NamelessBox$Sums" ({ cls := "NamelessBox$Sums", name := "addLikeliest", desc := "()V" } : Jvm.MethodName) ({ cls := "NamelessBox$Sums", name := "addLikeliest", desc := "()V" } : Jvm.MethodName)) ∈ cx_G := cx_t4 217 (by decide +kernel) rfl
theorem hw_938 : (Jvm.Cond.code ({ cls := "NamelessBox$Sums", name := "addLikeliest", desc := "()V" } : Jvm.MethodName) prog_7_method_13_code (2 : Nat) (Option.none : Option Jvm.ClassFile.FieldType)) ∈ cx_G := cx_t4 218 (by decide +kernel) rfl
theorem hw_939 : (Jvm.Cond.methodLink "NamelessBoxLaw" (142 : Nat) ({ cls := "NamelessBox", name := "ask", desc := "(I)I" } : Jvm.MethodName)) ∈ cx_G := cx_t4 219 (by decide +kernel) rfl
theorem hw_940 : (Jvm.Cond.instanceMethod ({ cls := "NamelessBox", name := "ask", desc := "(I)I" } : Jvm.MethodName)) ∈ cx_G := cx_t4 220 (by decide +kernel) rfl
theorem hw_941 : (Jvm.Cond.selects "NamelessBox" ({ cls := "NamelessBox", name := "ask", desc := "(I)I" } : Jvm.MethodName) ({ cls := "NamelessBox", name := "ask", desc := "(I)I" } : Jvm.MethodName)) ∈ cx_G := cx_t4 221 (by decide +kernel) rfl
theorem hw_942 : (Jvm.Cond.code ({ cls := "NamelessBox", name := "ask", desc := "(I)I" } : Jvm.MethodName) prog_1_method_32_code (2 : Nat) (Option.some Jvm.ClassFile.FieldType.int)) ∈ cx_G := cx_t4 222 (by decide +kernel) rfl
theorem hw_943 : (Jvm.Cond.methodLink "NamelessBox" (264 : Nat) ({ cls := "NamelessBox$Aunt", name := "weigh", desc := "(I)V" } : Jvm.MethodName)) ∈ cx_G := cx_t4 223 (by decide +kernel) rfl
theorem hw_944 : (Jvm.Cond.instanceMethod ({ cls := "NamelessBox$Aunt", name := "weigh", desc := "(I)V" } : Jvm.MethodName)) ∈ cx_G := cx_t4 224 (by decide +kernel) rfl
theorem hw_945 : (Jvm.Cond.selects "NamelessBox$Aunt" ({ cls := "NamelessBox$Aunt", name := "weigh", desc := "(I)V" } : Jvm.MethodName) ({ cls := "NamelessBox$Aunt", name := "weigh", desc := "(I)V" } : Jvm.MethodName)) ∈ cx_G := cx_t4 225 (by decide +kernel) rfl
theorem hw_946 : (Jvm.Cond.code ({ cls := "NamelessBox$Aunt", name := "weigh", desc := "(I)V" } : Jvm.MethodName) prog_2_method_3_code (4 : Nat) (Option.none : Option Jvm.ClassFile.FieldType)) ∈ cx_G := cx_t4 226 (by decide +kernel) rfl
theorem hw_947 : (Jvm.Cond.methodLink "NamelessBox$Aunt" (67 : Nat) ({ cls := "NamelessBox$Limbs", name := "zero", desc := "([JI)V" } : Jvm.MethodName)) ∈ cx_G := cx_t4 227 (by decide +kernel) rfl
theorem hw_948 : (Jvm.Cond.methodLink "NamelessBox$Aunt" (60 : Nat) ({ cls := "NamelessBox$Limbs", name := "copy", desc := "([JI[JI)V" } : Jvm.MethodName)) ∈ cx_G := cx_t4 228 (by decide +kernel) rfl
theorem hw_949 : (Jvm.Cond.methodLink "NamelessBox$Aunt" (76 : Nat) ({ cls := "NamelessBox$Limbs", name := "multiply", desc := "([JI[JIJ)V" } : Jvm.MethodName)) ∈ cx_G := cx_t4 229 (by decide +kernel) rfl
theorem hw_950 : (Jvm.Cond.methodLink "NamelessBox$Aunt" (80 : Nat) ({ cls := "NamelessBox$Aunt", name := "planWrongly", desc := "(II)V" } : Jvm.MethodName)) ∈ cx_G := cx_t4 230 (by decide +kernel) rfl
theorem hw_952 : (Jvm.Cond.instanceMethod ({ cls := "NamelessBox$Aunt", name := "planWrongly", desc := "(II)V" } : Jvm.MethodName)) ∈ cx_G := cx_t4 232 (by decide +kernel) rfl
theorem hw_953 : (Jvm.Cond.code ({ cls := "NamelessBox$Aunt", name := "planWrongly", desc := "(II)V" } : Jvm.MethodName) prog_2_method_4_code (7 : Nat) (Option.none : Option Jvm.ClassFile.FieldType)) ∈ cx_G := cx_t4 233 (by decide +kernel) rfl
theorem hw_955 : (Jvm.Cond.methodLink "NamelessBox$Aunt" (106 : Nat) ({ cls := "NamelessBox$Sums", name := "putJoint", desc := "([JIIIII)V" } : Jvm.MethodName)) ∈ cx_G := cx_t4 235 (by decide +kernel) rfl
theorem hw_956 : (Jvm.Cond.methodLink "NamelessBox$Aunt" (110 : Nat) ({ cls := "NamelessBox$Box", name := "auntTruth", desc := "(I)I" } : Jvm.MethodName)) ∈ cx_G := cx_t4 236 (by decide +kernel) rfl
theorem hw_957 : (Jvm.Cond.instanceMethod ({ cls := "NamelessBox$Box", name := "auntTruth", desc := "(I)I" } : Jvm.MethodName)) ∈ cx_G := cx_t4 237 (by decide +kernel) rfl
theorem hw_958 : (Jvm.Cond.selects "NamelessBox$Box" ({ cls := "NamelessBox$Box", name := "auntTruth", desc := "(I)I" } : Jvm.MethodName) ({ cls := "NamelessBox$Box", name := "auntTruth", desc := "(I)I" } : Jvm.MethodName)) ∈ cx_G := cx_t4 238 (by decide +kernel) rfl
theorem hw_959 : (Jvm.Cond.code ({ cls := "NamelessBox$Box", name := "auntTruth", desc := "(I)I" } : Jvm.MethodName) prog_3_method_18_code (2 : Nat) (Option.some Jvm.ClassFile.FieldType.int)) ∈ cx_G := cx_t4 239 (by decide +kernel) rfl
theorem hw_960 : (Jvm.Cond.methodLink "NamelessBox$Aunt" (114 : Nat) ({ cls := "NamelessBox$Limbs", name := "add", desc := "([JI[JI)V" } : Jvm.MethodName)) ∈ cx_G := cx_t5 0 (by decide +kernel) rfl
theorem hw_961 : (Jvm.Cond.methodLink "NamelessBox$Aunt" (84 : Nat) ({ cls := "NamelessBox$Aunt", name := "addBehind", desc := "(II)V" } : Jvm.MethodName)) ∈ cx_G := cx_t5 1 (by decide +kernel) rfl
theorem hw_963 : (Jvm.Cond.instanceMethod ({ cls := "NamelessBox$Aunt", name := "addBehind", desc := "(II)V" } : Jvm.MethodName)) ∈ cx_G := cx_t5 3 (by decide +kernel) rfl
theorem hw_964 : (Jvm.Cond.code ({ cls := "NamelessBox$Aunt", name := "addBehind", desc := "(II)V" } : Jvm.MethodName) prog_2_method_5_code (9 : Nat) (Option.none : Option Jvm.ClassFile.FieldType)) ∈ cx_G := cx_t5 4 (by decide +kernel) rfl
theorem hw_965 : (Jvm.Cond.methodLink "NamelessBox$Aunt" (87 : Nat) ({ cls := "NamelessBox$Limbs", name := "carry", desc := "([JI)V" } : Jvm.MethodName)) ∈ cx_G := cx_t5 5 (by decide +kernel) rfl
theorem hw_966 : (Jvm.Cond.methodLink "NamelessBox$Aunt" (56 : Nat) ({ cls := "NamelessBox$Limbs", name := "compare", desc := "([JI[JI)I" } : Jvm.MethodName)) ∈ cx_G := cx_t5 6 (by decide +kernel) rfl
theorem hw_967 : (Jvm.Cond.methodLink "NamelessBox$Aunt" (90 : Nat) ({ cls := "NamelessBox$Sums", name := "startAnswer", desc := "()V" } : Jvm.MethodName)) ∈ cx_G := cx_t5 7 (by decide +kernel) rfl
theorem hw_968 : (Jvm.Cond.methodLink "NamelessBox$Aunt" (93 : Nat) ({ cls := "NamelessBox$Sums", name := "addLikeliest", desc := "()V" } : Jvm.MethodName)) ∈ cx_G := cx_t5 8 (by decide +kernel) rfl
theorem hw_969 : (Jvm.Cond.methodLink "NamelessBox$Aunt" (99 : Nat) ({ cls := "NamelessBox$Limbs", name := "subtract", desc := "([JI[JI)V" } : Jvm.MethodName)) ∈ cx_G := cx_t5 9 (by decide +kernel) rfl
theorem hw_970 : (Jvm.Cond.methodLink "NamelessBoxLaw" (146 : Nat) ({ cls := "NamelessBox", name := "next", desc := "()I" } : Jvm.MethodName)) ∈ cx_G := cx_t5 10 (by decide +kernel) rfl
theorem hw_971 : (Jvm.Cond.instanceMethod ({ cls := "NamelessBox", name := "next", desc := "()I" } : Jvm.MethodName)) ∈ cx_G := cx_t5 11 (by decide +kernel) rfl
theorem hw_972 : (Jvm.Cond.selects "NamelessBox" ({ cls := "NamelessBox", name := "next", desc := "()I" } : Jvm.MethodName) ({ cls := "NamelessBox", name := "next", desc := "()I" } : Jvm.MethodName)) ∈ cx_G := cx_t5 12 (by decide +kernel) rfl
theorem hw_973 : (Jvm.Cond.code ({ cls := "NamelessBox", name := "next", desc := "()I" } : Jvm.MethodName) prog_1_method_33_code (2 : Nat) (Option.some Jvm.ClassFile.FieldType.int)) ∈ cx_G := cx_t5 13 (by decide +kernel) rfl
theorem hw_974 : (Jvm.Cond.methodLink "NamelessBox" (277 : Nat) ({ cls := "NamelessBox$Aunt", name := "findDearest", desc := "()I" } : Jvm.MethodName)) ∈ cx_G := cx_t5 14 (by decide +kernel) rfl
theorem hw_975 : (Jvm.Cond.instanceMethod ({ cls := "NamelessBox$Aunt", name := "findDearest", desc := "()I" } : Jvm.MethodName)) ∈ cx_G := cx_t5 15 (by decide +kernel) rfl
theorem hw_976 : (Jvm.Cond.selects "NamelessBox$Aunt" ({ cls := "NamelessBox$Aunt", name := "findDearest", desc := "()I" } : Jvm.MethodName) ({ cls := "NamelessBox$Aunt", name := "findDearest", desc := "()I" } : Jvm.MethodName)) ∈ cx_G := cx_t5 16 (by decide +kernel) rfl
theorem hw_977 : (Jvm.Cond.code ({ cls := "NamelessBox$Aunt", name := "findDearest", desc := "()I" } : Jvm.MethodName) prog_2_method_2_code (3 : Nat) (Option.some Jvm.ClassFile.FieldType.int)) ∈ cx_G := cx_t5 17 (by decide +kernel) rfl
theorem hw_978 : (Jvm.Cond.methodLink "NamelessBox$Aunt" (52 : Nat) ({ cls := "NamelessBox$Aunt", name := "weigh", desc := "(I)V" } : Jvm.MethodName)) ∈ cx_G := cx_t5 18 (by decide +kernel) rfl
theorem hw_979 : (Jvm.Cond.methodLink "NamelessBoxLaw" (150 : Nat) ({ cls := "NamelessBox", name := "sign", desc := "(I)I" } : Jvm.MethodName)) ∈ cx_G := cx_t5 19 (by decide +kernel) rfl
theorem hw_980 : (Jvm.Cond.instanceMethod ({ cls := "NamelessBox", name := "sign", desc := "(I)I" } : Jvm.MethodName)) ∈ cx_G := cx_t5 20 (by decide +kernel) rfl
theorem hw_981 : (Jvm.Cond.selects "NamelessBox" ({ cls := "NamelessBox", name := "sign", desc := "(I)I" } : Jvm.MethodName) ({ cls := "NamelessBox", name := "sign", desc := "(I)I" } : Jvm.MethodName)) ∈ cx_G := cx_t5 21 (by decide +kernel) rfl
theorem hw_982 : (Jvm.Cond.code ({ cls := "NamelessBox", name := "sign", desc := "(I)I" } : Jvm.MethodName) prog_1_method_34_code (2 : Nat) (Option.some Jvm.ClassFile.FieldType.int)) ∈ cx_G := cx_t5 22 (by decide +kernel) rfl
theorem hw_983 : (Jvm.Cond.methodLink "NamelessBox" (283 : Nat) ({ cls := "NamelessBox$Fraction", name := "isZero", desc := "()Z" } : Jvm.MethodName)) ∈ cx_G := cx_t5 23 (by decide +kernel) rfl
theorem hw_984 : (Jvm.Cond.instanceMethod ({ cls := "NamelessBox$Fraction", name := "isZero", desc := "()Z" } : Jvm.MethodName)) ∈ cx_G := cx_t5 24 (by decide +kernel) rfl
theorem hw_985 : (Jvm.Cond.selects "NamelessBox$Fraction" ({ cls := "NamelessBox$Fraction", name := "isZero", desc := "()Z" } : Jvm.MethodName) ({ cls := "NamelessBox$Fraction", name := "isZero", desc := "()Z" } : Jvm.MethodName)) ∈ cx_G := cx_t5 25 (by decide +kernel) rfl
theorem hw_986 : (Jvm.Cond.code ({ cls := "NamelessBox$Fraction", name := "isZero", desc := "()Z" } : Jvm.MethodName) prog_4_method_2_code (1 : Nat) (Option.some Jvm.ClassFile.FieldType.boolean)) ∈ cx_G := cx_t5 26 (by decide +kernel) rfl
theorem hw_987 : (Jvm.Cond.methodLink "NamelessBox" (289 : Nat) ({ cls := "NamelessBox$Limbs", name := "length", desc := "([JI)I" } : Jvm.MethodName)) ∈ cx_G := cx_t5 27 (by decide +kernel) rfl
theorem hw_988 : (Jvm.Cond.static ({ cls := "NamelessBox$Limbs", name := "length", desc := "([JI)I" } : Jvm.MethodName)) ∈ cx_G := cx_t5 28 (by decide +kernel) rfl
theorem hw_989 : (Jvm.Cond.code ({ cls := "NamelessBox$Limbs", name := "length", desc := "([JI)I" } : Jvm.MethodName) prog_5_method_15_code (3 : Nat) (Option.some Jvm.ClassFile.FieldType.int)) ∈ cx_G := cx_t5 29 (by decide +kernel) rfl
theorem hw_990 : (Jvm.Cond.methodLink "NamelessBoxLaw" (154 : Nat) ({ cls := "NamelessBox", name := "limb", desc := "(II)I" } : Jvm.MethodName)) ∈ cx_G := cx_t5 30 (by decide +kernel) rfl
theorem hw_991 : (Jvm.Cond.instanceMethod ({ cls := "NamelessBox", name := "limb", desc := "(II)I" } : Jvm.MethodName)) ∈ cx_G := cx_t5 31 (by decide +kernel) rfl
theorem hw_992 : (Jvm.Cond.selects "NamelessBox" ({ cls := "NamelessBox", name := "limb", desc := "(II)I" } : Jvm.MethodName) ({ cls := "NamelessBox", name := "limb", desc := "(II)I" } : Jvm.MethodName)) ∈ cx_G := cx_t5 32 (by decide +kernel) rfl
theorem hw_993 : (Jvm.Cond.code ({ cls := "NamelessBox", name := "limb", desc := "(II)I" } : Jvm.MethodName) prog_1_method_35_code (4 : Nat) (Option.some Jvm.ClassFile.FieldType.int)) ∈ cx_G := cx_t5 33 (by decide +kernel) rfl
theorem hw_994 : (Jvm.Cond.methodLink "NamelessBoxLaw" (158 : Nat) ({ cls := "NamelessBox", name := "image", desc := "(I)I" } : Jvm.MethodName)) ∈ cx_G := cx_t5 34 (by decide +kernel) rfl
theorem hw_995 : (Jvm.Cond.instanceMethod ({ cls := "NamelessBox", name := "image", desc := "(I)I" } : Jvm.MethodName)) ∈ cx_G := cx_t5 35 (by decide +kernel) rfl
theorem hw_996 : (Jvm.Cond.selects "NamelessBox" ({ cls := "NamelessBox", name := "image", desc := "(I)I" } : Jvm.MethodName) ({ cls := "NamelessBox", name := "image", desc := "(I)I" } : Jvm.MethodName)) ∈ cx_G := cx_t5 36 (by decide +kernel) rfl
theorem hw_997 : (Jvm.Cond.code ({ cls := "NamelessBox", name := "image", desc := "(I)I" } : Jvm.MethodName) prog_1_method_36_code (2 : Nat) (Option.some Jvm.ClassFile.FieldType.int)) ∈ cx_G := cx_t5 37 (by decide +kernel) rfl
theorem hw_998 : (Jvm.Cond.methodLink "NamelessBox" (297 : Nat) ({ cls := "NamelessBox", name := "imageOf", desc := "(I)LNamelessBox$Box;" } : Jvm.MethodName)) ∈ cx_G := cx_t5 38 (by decide +kernel) rfl
theorem hw_1000 : (Jvm.Cond.instanceMethod ({ cls := "NamelessBox", name := "imageOf", desc := "(I)LNamelessBox$Box;" } : Jvm.MethodName)) ∈ cx_G := cx_t5 40 (by decide +kernel) rfl
theorem hw_1001 : (Jvm.Cond.code ({ cls := "NamelessBox", name := "imageOf", desc := "(I)LNamelessBox$Box;" } : Jvm.MethodName) prog_1_method_54_code (2 : Nat) (Option.some (Jvm.ClassFile.FieldType.object "NamelessBox$Box"))) ∈ cx_G := cx_t5 41 (by decide +kernel) rfl
theorem hw_1002 : (Jvm.Cond.methodLink "NamelessBoxLaw" (162 : Nat) ({ cls := "NamelessBox", name := "from", desc := "(I)I" } : Jvm.MethodName)) ∈ cx_G := cx_t5 42 (by decide +kernel) rfl
theorem hw_1003 : (Jvm.Cond.instanceMethod ({ cls := "NamelessBox", name := "from", desc := "(I)I" } : Jvm.MethodName)) ∈ cx_G := cx_t5 43 (by decide +kernel) rfl
theorem hw_1004 : (Jvm.Cond.selects "NamelessBox" ({ cls := "NamelessBox", name := "from", desc := "(I)I" } : Jvm.MethodName) ({ cls := "NamelessBox", name := "from", desc := "(I)I" } : Jvm.MethodName)) ∈ cx_G := cx_t5 44 (by decide +kernel) rfl
theorem hw_1005 : (Jvm.Cond.code ({ cls := "NamelessBox", name := "from", desc := "(I)I" } : Jvm.MethodName) prog_1_method_37_code (2 : Nat) (Option.some Jvm.ClassFile.FieldType.int)) ∈ cx_G := cx_t5 45 (by decide +kernel) rfl
theorem hw_1006 : (Jvm.Cond.methodLink "NamelessBoxLaw" (166 : Nat) ({ cls := "NamelessBox", name := "status", desc := "(I)I" } : Jvm.MethodName)) ∈ cx_G := cx_t5 46 (by decide +kernel) rfl
theorem hw_1007 : (Jvm.Cond.instanceMethod ({ cls := "NamelessBox", name := "status", desc := "(I)I" } : Jvm.MethodName)) ∈ cx_G := cx_t5 47 (by decide +kernel) rfl
theorem hw_1008 : (Jvm.Cond.selects "NamelessBox" ({ cls := "NamelessBox", name := "status", desc := "(I)I" } : Jvm.MethodName) ({ cls := "NamelessBox", name := "status", desc := "(I)I" } : Jvm.MethodName)) ∈ cx_G := cx_t5 48 (by decide +kernel) rfl
theorem hw_1009 : (Jvm.Cond.code ({ cls := "NamelessBox", name := "status", desc := "(I)I" } : Jvm.MethodName) prog_1_method_38_code (2 : Nat) (Option.some Jvm.ClassFile.FieldType.int)) ∈ cx_G := cx_t5 49 (by decide +kernel) rfl
theorem hw_1010 : (Jvm.Cond.methodLink "NamelessBoxLaw" (170 : Nat) ({ cls := "NamelessBox", name := "count", desc := "(I)I" } : Jvm.MethodName)) ∈ cx_G := cx_t5 50 (by decide +kernel) rfl
theorem hw_1011 : (Jvm.Cond.instanceMethod ({ cls := "NamelessBox", name := "count", desc := "(I)I" } : Jvm.MethodName)) ∈ cx_G := cx_t5 51 (by decide +kernel) rfl
theorem hw_1012 : (Jvm.Cond.selects "NamelessBox" ({ cls := "NamelessBox", name := "count", desc := "(I)I" } : Jvm.MethodName) ({ cls := "NamelessBox", name := "count", desc := "(I)I" } : Jvm.MethodName)) ∈ cx_G := cx_t5 52 (by decide +kernel) rfl
theorem hw_1013 : (Jvm.Cond.code ({ cls := "NamelessBox", name := "count", desc := "(I)I" } : Jvm.MethodName) prog_1_method_39_code (2 : Nat) (Option.some Jvm.ClassFile.FieldType.int)) ∈ cx_G := cx_t5 53 (by decide +kernel) rfl
theorem hw_1014 : (Jvm.Cond.methodLink "NamelessBox" (301 : Nat) ({ cls := "NamelessBox", name := "howMany", desc := "(I)I" } : Jvm.MethodName)) ∈ cx_G := cx_t5 54 (by decide +kernel) rfl
theorem hw_1016 : (Jvm.Cond.instanceMethod ({ cls := "NamelessBox", name := "howMany", desc := "(I)I" } : Jvm.MethodName)) ∈ cx_G := cx_t5 56 (by decide +kernel) rfl
theorem hw_1017 : (Jvm.Cond.code ({ cls := "NamelessBox", name := "howMany", desc := "(I)I" } : Jvm.MethodName) prog_1_method_55_code (2 : Nat) (Option.some Jvm.ClassFile.FieldType.int)) ∈ cx_G := cx_t5 57 (by decide +kernel) rfl
theorem hw_1018 : (Jvm.Cond.methodLink "NamelessBoxLaw" (174 : Nat) ({ cls := "NamelessBox", name := "digest", desc := "()J" } : Jvm.MethodName)) ∈ cx_G := cx_t5 58 (by decide +kernel) rfl
theorem hw_1019 : (Jvm.Cond.instanceMethod ({ cls := "NamelessBox", name := "digest", desc := "()J" } : Jvm.MethodName)) ∈ cx_G := cx_t5 59 (by decide +kernel) rfl
theorem hw_1020 : (Jvm.Cond.selects "NamelessBox" ({ cls := "NamelessBox", name := "digest", desc := "()J" } : Jvm.MethodName) ({ cls := "NamelessBox", name := "digest", desc := "()J" } : Jvm.MethodName)) ∈ cx_G := cx_t5 60 (by decide +kernel) rfl
theorem hw_1021 : (Jvm.Cond.code ({ cls := "NamelessBox", name := "digest", desc := "()J" } : Jvm.MethodName) prog_1_method_40_code (4 : Nat) (Option.some Jvm.ClassFile.FieldType.long)) ∈ cx_G := cx_t5 61 (by decide +kernel) rfl
theorem hw_1022 : (Jvm.Cond.constantLong "NamelessBox" (304 : Nat) (661 : Int64)) ∈ cx_G := cx_t5 62 (by decide +kernel) rfl
theorem hw_1023 : (Jvm.Cond.constantLong "NamelessBox" (306 : Nat) (31 : Int64)) ∈ cx_G := cx_t5 63 (by decide +kernel) rfl
theorem hw_1024 : (Jvm.Cond.methodLink "NamelessBox" (308 : Nat) ({ cls := "NamelessBox$Box", name := "mixInto", desc := "(J)J" } : Jvm.MethodName)) ∈ cx_G := cx_t5 64 (by decide +kernel) rfl
theorem hw_1025 : (Jvm.Cond.instanceMethod ({ cls := "NamelessBox$Box", name := "mixInto", desc := "(J)J" } : Jvm.MethodName)) ∈ cx_G := cx_t5 65 (by decide +kernel) rfl
theorem hw_1026 : (Jvm.Cond.selects "NamelessBox$Box" ({ cls := "NamelessBox$Box", name := "mixInto", desc := "(J)J" } : Jvm.MethodName) ({ cls := "NamelessBox$Box", name := "mixInto", desc := "(J)J" } : Jvm.MethodName)) ∈ cx_G := cx_t5 66 (by decide +kernel) rfl
theorem hw_1027 : (Jvm.Cond.code ({ cls := "NamelessBox$Box", name := "mixInto", desc := "(J)J" } : Jvm.MethodName) prog_3_method_19_code (5 : Nat) (Option.some Jvm.ClassFile.FieldType.long)) ∈ cx_G := cx_t5 67 (by decide +kernel) rfl
theorem hw_1028 : (Jvm.Cond.methodLink "NamelessBox$Box" (74 : Nat) ({ cls := "NamelessBox$Rows", name := "mixInto", desc := "(J)J" } : Jvm.MethodName)) ∈ cx_G := cx_t5 68 (by decide +kernel) rfl
theorem hw_1029 : (Jvm.Cond.instanceMethod ({ cls := "NamelessBox$Rows", name := "mixInto", desc := "(J)J" } : Jvm.MethodName)) ∈ cx_G := cx_t5 69 (by decide +kernel) rfl
theorem hw_1030 : (Jvm.Cond.selects "NamelessBox$Rows" ({ cls := "NamelessBox$Rows", name := "mixInto", desc := "(J)J" } : Jvm.MethodName) ({ cls := "NamelessBox$Rows", name := "mixInto", desc := "(J)J" } : Jvm.MethodName)) ∈ cx_G := cx_t5 70 (by decide +kernel) rfl
theorem hw_1031 : (Jvm.Cond.code ({ cls := "NamelessBox$Rows", name := "mixInto", desc := "(J)J" } : Jvm.MethodName) prog_6_method_8_code (6 : Nat) (Option.some Jvm.ClassFile.FieldType.long)) ∈ cx_G := cx_t5 71 (by decide +kernel) rfl
theorem hw_1032 : (Jvm.Cond.constantLong "NamelessBox$Rows" (52 : Nat) (31 : Int64)) ∈ cx_G := cx_t5 72 (by decide +kernel) rfl
theorem hw_1033 : (Jvm.Cond.constantLong "NamelessBox$Box" (78 : Nat) (31 : Int64)) ∈ cx_G := cx_t5 73 (by decide +kernel) rfl
theorem hw_1034 : (Jvm.Cond.methodLink "NamelessBox" (312 : Nat) ({ cls := "NamelessBox$Limbs", name := "mixInto", desc := "(J[JI)J" } : Jvm.MethodName)) ∈ cx_G := cx_t5 74 (by decide +kernel) rfl
theorem hw_1035 : (Jvm.Cond.static ({ cls := "NamelessBox$Limbs", name := "mixInto", desc := "(J[JI)J" } : Jvm.MethodName)) ∈ cx_G := cx_t5 75 (by decide +kernel) rfl
theorem hw_1036 : (Jvm.Cond.code ({ cls := "NamelessBox$Limbs", name := "mixInto", desc := "(J[JI)J" } : Jvm.MethodName) prog_5_method_16_code (8 : Nat) (Option.some Jvm.ClassFile.FieldType.long)) ∈ cx_G := cx_t5 76 (by decide +kernel) rfl
theorem hw_1037 : (Jvm.Cond.methodLink "NamelessBox$Limbs" (36 : Nat) ({ cls := "NamelessBox$Limbs", name := "length", desc := "([JI)I" } : Jvm.MethodName)) ∈ cx_G := cx_t5 77 (by decide +kernel) rfl
theorem hw_1038 : (Jvm.Cond.constantLong "NamelessBox$Limbs" (40 : Nat) (31 : Int64)) ∈ cx_G := cx_t5 78 (by decide +kernel) rfl
theorem hw_1039 : (Jvm.Cond.classLink "NamelessBoxLaw" (10 : Nat) "NamelessBoxModel") ∈ cx_G := cx_t5 79 (by decide +kernel) rfl
theorem hw_1040 : (Jvm.Cond.instantiable "NamelessBoxModel" (24 : Nat)) ∈ cx_G := cx_t5 80 (by decide +kernel) rfl
theorem hw_1041 : (Jvm.Cond.methodLink "NamelessBoxLaw" (12 : Nat) ({ cls := "NamelessBoxModel", name := "<init>", desc := "()V" } : Jvm.MethodName)) ∈ cx_G := cx_t5 81 (by decide +kernel) rfl
theorem hw_1042 : (Jvm.Cond.instanceMethod ({ cls := "NamelessBoxModel", name := "<init>", desc := "()V" } : Jvm.MethodName)) ∈ cx_G := cx_t5 82 (by decide +kernel) rfl
theorem hw_1043 : (Jvm.Cond.code ({ cls := "NamelessBoxModel", name := "<init>", desc := "()V" } : Jvm.MethodName) prog_11_method_16_code (1 : Nat) (Option.none : Option Jvm.ClassFile.FieldType)) ∈ cx_G := cx_t5 83 (by decide +kernel) rfl
theorem hw_1044 : (Jvm.Cond.methodLink "NamelessBoxModel" (46 : Nat) ({ cls := "java/lang/Object", name := "<init>", desc := "()V" } : Jvm.MethodName)) ∈ cx_G := cx_t5 84 (by decide +kernel) rfl
theorem hw_1045 : (Jvm.Cond.methodLink "NamelessBoxModel" (16 : Nat) ({ cls := "NamelessBoxModel", name := "sets", desc := "(IJ)V" } : Jvm.MethodName)) ∈ cx_G := cx_t5 85 (by decide +kernel) rfl
theorem hw_1047 : (Jvm.Cond.instanceMethod ({ cls := "NamelessBoxModel", name := "sets", desc := "(IJ)V" } : Jvm.MethodName)) ∈ cx_G := cx_t5 87 (by decide +kernel) rfl
theorem hw_1048 : (Jvm.Cond.code ({ cls := "NamelessBoxModel", name := "sets", desc := "(IJ)V" } : Jvm.MethodName) prog_11_method_4_code (5 : Nat) (Option.none : Option Jvm.ClassFile.FieldType)) ∈ cx_G := cx_t5 88 (by decide +kernel) rfl
theorem hw_1049 : (Jvm.Cond.constantLong "NamelessBoxModel" (10 : Nat) (1073741823 : Int64)) ∈ cx_G := cx_t5 89 (by decide +kernel) rfl
theorem hw_1050 : (Jvm.Cond.methodLink "NamelessBoxModel" (12 : Nat) ({ cls := "NamelessBoxModel", name := "trims", desc := "(I)V" } : Jvm.MethodName)) ∈ cx_G := cx_t5 90 (by decide +kernel) rfl
theorem hw_1052 : (Jvm.Cond.instanceMethod ({ cls := "NamelessBoxModel", name := "trims", desc := "(I)V" } : Jvm.MethodName)) ∈ cx_G := cx_t5 92 (by decide +kernel) rfl
theorem hw_1053 : (Jvm.Cond.code ({ cls := "NamelessBoxModel", name := "trims", desc := "(I)V" } : Jvm.MethodName) prog_11_method_3_code (2 : Nat) (Option.none : Option Jvm.ClassFile.FieldType)) ∈ cx_G := cx_t5 93 (by decide +kernel) rfl
theorem hw_1054 : (Jvm.Cond.fieldLink "NamelessBoxModel" (7 : Nat) "NamelessBoxModel" "limbs" "[I") ∈ cx_G := cx_t5 94 (by decide +kernel) rfl
theorem hw_1055 : (Jvm.Cond.fieldLink "NamelessBoxModel" (3 : Nat) "NamelessBoxModel" "wide" "[I") ∈ cx_G := cx_t5 95 (by decide +kernel) rfl
theorem hw_1056 : (Jvm.Cond.fieldLink "NamelessBoxModel" (51 : Nat) "NamelessBoxModel" "book" "[I") ∈ cx_G := cx_t5 96 (by decide +kernel) rfl
theorem hw_1057 : (Jvm.Cond.fieldLink "NamelessBoxModel" (54 : Nat) "NamelessBoxModel" "images" "[I") ∈ cx_G := cx_t5 97 (by decide +kernel) rfl
theorem hw_1058 : (Jvm.Cond.fieldLink "NamelessBoxModel" (57 : Nat) "NamelessBoxModel" "kept" "[Z") ∈ cx_G := cx_t5 98 (by decide +kernel) rfl
theorem hw_1059 : (Jvm.Cond.fieldLink "NamelessBoxModel" (61 : Nat) "NamelessBoxModel" "before" "[I") ∈ cx_G := cx_t5 99 (by decide +kernel) rfl
theorem hw_1060 : (Jvm.Cond.fieldLink "NamelessBoxModel" (64 : Nat) "NamelessBoxModel" "refused" "[I") ∈ cx_G := cx_t5 100 (by decide +kernel) rfl
theorem hw_1061 : (Jvm.Cond.fieldLink "NamelessBoxModel" (82 : Nat) "NamelessBoxModel" "quiet" "Z") ∈ cx_G := cx_t5 101 (by decide +kernel) rfl
theorem hw_1062 : (Jvm.Cond.fieldLink "NamelessBoxModel" (67 : Nat) "NamelessBoxModel" "text" "[I") ∈ cx_G := cx_t5 102 (by decide +kernel) rfl
theorem hw_1063 : (Jvm.Cond.fieldLink "NamelessBoxModel" (144 : Nat) "NamelessBoxModel" "typed" "I") ∈ cx_G := cx_t5 103 (by decide +kernel) rfl
theorem hw_1064 : (Jvm.Cond.fieldLink "NamelessBoxModel" (150 : Nat) "NamelessBoxModel" "at" "I") ∈ cx_G := cx_t5 104 (by decide +kernel) rfl
theorem hw_1065 : (Jvm.Cond.fieldLink "NamelessBoxModel" (173 : Nat) "NamelessBoxModel" "start" "I") ∈ cx_G := cx_t5 105 (by decide +kernel) rfl
theorem hw_1066 : (Jvm.Cond.fieldLink "NamelessBoxModel" (176 : Nat) "NamelessBoxModel" "token" "I") ∈ cx_G := cx_t5 106 (by decide +kernel) rfl
theorem hw_1067 : (Jvm.Cond.fieldLink "NamelessBoxModel" (187 : Nat) "NamelessBoxModel" "value" "I") ∈ cx_G := cx_t5 107 (by decide +kernel) rfl
theorem hw_1068 : (Jvm.Cond.fieldLink "NamelessBoxModel" (70 : Nat) "NamelessBoxModel" "items" "[I") ∈ cx_G := cx_t5 108 (by decide +kernel) rfl
theorem hw_1069 : (Jvm.Cond.fieldLink "NamelessBoxModel" (190 : Nat) "NamelessBoxModel" "many" "I") ∈ cx_G := cx_t5 109 (by decide +kernel) rfl
theorem hw_1070 : (Jvm.Cond.fieldLink "NamelessBoxModel" (73 : Nat) "NamelessBoxModel" "is" "[I") ∈ cx_G := cx_t5 110 (by decide +kernel) rfl
theorem hw_1071 : (Jvm.Cond.fieldLink "NamelessBoxModel" (76 : Nat) "NamelessBoxModel" "likes" "[I") ∈ cx_G := cx_t5 111 (by decide +kernel) rfl
theorem hw_1072 : (Jvm.Cond.fieldLink "NamelessBoxModel" (232 : Nat) "NamelessBoxModel" "without" "I") ∈ cx_G := cx_t5 112 (by decide +kernel) rfl
theorem hw_1073 : (Jvm.Cond.fieldLink "NamelessBoxModel" (235 : Nat) "NamelessBoxModel" "onePicture" "I") ∈ cx_G := cx_t5 113 (by decide +kernel) rfl
theorem hw_1074 : (Jvm.Cond.fieldLink "NamelessBoxModel" (256 : Nat) "NamelessBoxModel" "oneYear" "I") ∈ cx_G := cx_t5 114 (by decide +kernel) rfl
theorem hw_1075 : (Jvm.Cond.fieldLink "NamelessBoxModel" (238 : Nat) "NamelessBoxModel" "first" "I") ∈ cx_G := cx_t5 115 (by decide +kernel) rfl
theorem hw_1076 : (Jvm.Cond.fieldLink "NamelessBoxModel" (250 : Nat) "NamelessBoxModel" "second" "I") ∈ cx_G := cx_t5 116 (by decide +kernel) rfl
theorem hw_1077 : (Jvm.Cond.fieldLink "NamelessBoxModel" (79 : Nat) "NamelessBoxModel" "names" "[I") ∈ cx_G := cx_t5 117 (by decide +kernel) rfl
theorem hw_1127 : (Jvm.Cond.methodLink "NamelessBoxLaw" (17 : Nat) ({ cls := "NamelessBoxModel", name := "person", desc := "(IIII)I" } : Jvm.MethodName)) ∈ cx_G := cx_t5 167 (by decide +kernel) rfl
theorem hw_1128 : (Jvm.Cond.instanceMethod ({ cls := "NamelessBoxModel", name := "person", desc := "(IIII)I" } : Jvm.MethodName)) ∈ cx_G := cx_t5 168 (by decide +kernel) rfl
theorem hw_1129 : (Jvm.Cond.selects "NamelessBoxModel" ({ cls := "NamelessBoxModel", name := "person", desc := "(IIII)I" } : Jvm.MethodName) ({ cls := "NamelessBoxModel", name := "person", desc := "(IIII)I" } : Jvm.MethodName)) ∈ cx_G := cx_t5 169 (by decide +kernel) rfl
theorem hw_1130 : (Jvm.Cond.code ({ cls := "NamelessBoxModel", name := "person", desc := "(IIII)I" } : Jvm.MethodName) prog_11_method_26_code (6 : Nat) (Option.some Jvm.ClassFile.FieldType.int)) ∈ cx_G := cx_t5 170 (by decide +kernel) rfl
theorem hw_1131 : (Jvm.Cond.constantLong "NamelessBoxModel" (93 : Nat) (99 : Int64)) ∈ cx_G := cx_t5 171 (by decide +kernel) rfl
theorem hw_1132 : (Jvm.Cond.methodLink "NamelessBoxModel" (89 : Nat) ({ cls := "NamelessBoxModel", name := "in", desc := "(JJJ)Z" } : Jvm.MethodName)) ∈ cx_G := cx_t5 172 (by decide +kernel) rfl
theorem hw_1133 : (Jvm.Cond.static ({ cls := "NamelessBoxModel", name := "in", desc := "(JJJ)Z" } : Jvm.MethodName)) ∈ cx_G := cx_t5 173 (by decide +kernel) rfl
theorem hw_1134 : (Jvm.Cond.code ({ cls := "NamelessBoxModel", name := "in", desc := "(JJJ)Z" } : Jvm.MethodName) prog_11_method_2_code (6 : Nat) (Option.some Jvm.ClassFile.FieldType.boolean)) ∈ cx_G := cx_t5 174 (by decide +kernel) rfl
theorem hw_1135 : (Jvm.Cond.constantLong "NamelessBoxModel" (95 : Nat) (100 : Int64)) ∈ cx_G := cx_t5 175 (by decide +kernel) rfl
theorem hw_1136 : (Jvm.Cond.constantLong "NamelessBoxModel" (97 : Nat) (15 : Int64)) ∈ cx_G := cx_t5 176 (by decide +kernel) rfl
theorem hw_1137 : (Jvm.Cond.methodLink "NamelessBoxModel" (99 : Nat) ({ cls := "NamelessBoxModel", name := "bad", desc := "()I" } : Jvm.MethodName)) ∈ cx_G := cx_t5 177 (by decide +kernel) rfl
theorem hw_1139 : (Jvm.Cond.instanceMethod ({ cls := "NamelessBoxModel", name := "bad", desc := "()I" } : Jvm.MethodName)) ∈ cx_G := cx_t5 179 (by decide +kernel) rfl
theorem hw_1140 : (Jvm.Cond.code ({ cls := "NamelessBoxModel", name := "bad", desc := "()I" } : Jvm.MethodName) prog_11_method_18_code (1 : Nat) (Option.some Jvm.ClassFile.FieldType.int)) ∈ cx_G := cx_t5 180 (by decide +kernel) rfl
theorem hw_1141 : (Jvm.Cond.methodLink "NamelessBoxModel" (86 : Nat) ({ cls := "NamelessBoxModel", name := "refuses", desc := "(II)I" } : Jvm.MethodName)) ∈ cx_G := cx_t5 181 (by decide +kernel) rfl
theorem hw_1143 : (Jvm.Cond.instanceMethod ({ cls := "NamelessBoxModel", name := "refuses", desc := "(II)I" } : Jvm.MethodName)) ∈ cx_G := cx_t5 183 (by decide +kernel) rfl
theorem hw_1144 : (Jvm.Cond.code ({ cls := "NamelessBoxModel", name := "refuses", desc := "(II)I" } : Jvm.MethodName) prog_11_method_17_code (3 : Nat) (Option.some Jvm.ClassFile.FieldType.int)) ∈ cx_G := cx_t5 184 (by decide +kernel) rfl
theorem hw_1145 : (Jvm.Cond.methodLink "NamelessBoxModel" (103 : Nat) ({ cls := "NamelessBoxModel", name := "full", desc := "()I" } : Jvm.MethodName)) ∈ cx_G := cx_t5 185 (by decide +kernel) rfl
theorem hw_1147 : (Jvm.Cond.instanceMethod ({ cls := "NamelessBoxModel", name := "full", desc := "()I" } : Jvm.MethodName)) ∈ cx_G := cx_t5 187 (by decide +kernel) rfl
theorem hw_1148 : (Jvm.Cond.code ({ cls := "NamelessBoxModel", name := "full", desc := "()I" } : Jvm.MethodName) prog_11_method_20_code (1 : Nat) (Option.some Jvm.ClassFile.FieldType.int)) ∈ cx_G := cx_t5 188 (by decide +kernel) rfl
theorem hw_1149 : (Jvm.Cond.methodLink "NamelessBoxLaw" (22 : Nat) ({ cls := "NamelessBoxModel", name := "parent", desc := "(II)I" } : Jvm.MethodName)) ∈ cx_G := cx_t5 189 (by decide +kernel) rfl
theorem hw_1150 : (Jvm.Cond.instanceMethod ({ cls := "NamelessBoxModel", name := "parent", desc := "(II)I" } : Jvm.MethodName)) ∈ cx_G := cx_t5 190 (by decide +kernel) rfl
theorem hw_1151 : (Jvm.Cond.selects "NamelessBoxModel" ({ cls := "NamelessBoxModel", name := "parent", desc := "(II)I" } : Jvm.MethodName) ({ cls := "NamelessBoxModel", name := "parent", desc := "(II)I" } : Jvm.MethodName)) ∈ cx_G := cx_t5 191 (by decide +kernel) rfl
theorem hw_1152 : (Jvm.Cond.code ({ cls := "NamelessBoxModel", name := "parent", desc := "(II)I" } : Jvm.MethodName) prog_11_method_27_code (5 : Nat) (Option.some Jvm.ClassFile.FieldType.int)) ∈ cx_G := cx_t5 192 (by decide +kernel) rfl
theorem hw_1153 : (Jvm.Cond.methodLink "NamelessBoxModel" (106 : Nat) ({ cls := "NamelessBoxModel", name := "isPerson", desc := "(I)Z" } : Jvm.MethodName)) ∈ cx_G := cx_t5 193 (by decide +kernel) rfl
theorem hw_1155 : (Jvm.Cond.instanceMethod ({ cls := "NamelessBoxModel", name := "isPerson", desc := "(I)Z" } : Jvm.MethodName)) ∈ cx_G := cx_t5 195 (by decide +kernel) rfl
theorem hw_1156 : (Jvm.Cond.code ({ cls := "NamelessBoxModel", name := "isPerson", desc := "(I)Z" } : Jvm.MethodName) prog_11_method_21_code (2 : Nat) (Option.some Jvm.ClassFile.FieldType.boolean)) ∈ cx_G := cx_t5 196 (by decide +kernel) rfl
theorem hw_1157 : (Jvm.Cond.methodLink "NamelessBoxModel" (109 : Nat) ({ cls := "NamelessBoxModel", name := "ofPerson", desc := "(II)I" } : Jvm.MethodName)) ∈ cx_G := cx_t5 197 (by decide +kernel) rfl
theorem hw_1159 : (Jvm.Cond.instanceMethod ({ cls := "NamelessBoxModel", name := "ofPerson", desc := "(II)I" } : Jvm.MethodName)) ∈ cx_G := cx_t5 199 (by decide +kernel) rfl
theorem hw_1160 : (Jvm.Cond.code ({ cls := "NamelessBoxModel", name := "ofPerson", desc := "(II)I" } : Jvm.MethodName) prog_11_method_24_code (3 : Nat) (Option.some Jvm.ClassFile.FieldType.int)) ∈ cx_G := cx_t5 200 (by decide +kernel) rfl
theorem hw_1161 : (Jvm.Cond.methodLink "NamelessBoxLaw" (26 : Nat) ({ cls := "NamelessBoxModel", name := "near", desc := "(II)I" } : Jvm.MethodName)) ∈ cx_G := cx_t5 201 (by decide +kernel) rfl
theorem hw_1162 : (Jvm.Cond.instanceMethod ({ cls := "NamelessBoxModel", name := "near", desc := "(II)I" } : Jvm.MethodName)) ∈ cx_G := cx_t5 202 (by decide +kernel) rfl
theorem hw_1163 : (Jvm.Cond.selects "NamelessBoxModel" ({ cls := "NamelessBoxModel", name := "near", desc := "(II)I" } : Jvm.MethodName) ({ cls := "NamelessBoxModel", name := "near", desc := "(II)I" } : Jvm.MethodName)) ∈ cx_G := cx_t5 203 (by decide +kernel) rfl
theorem hw_1164 : (Jvm.Cond.code ({ cls := "NamelessBoxModel", name := "near", desc := "(II)I" } : Jvm.MethodName) prog_11_method_28_code (4 : Nat) (Option.some Jvm.ClassFile.FieldType.int)) ∈ cx_G := cx_t5 204 (by decide +kernel) rfl
theorem hw_1165 : (Jvm.Cond.constantLong "NamelessBoxModel" (112 : Nat) (4 : Int64)) ∈ cx_G := cx_t5 205 (by decide +kernel) rfl
theorem hw_1166 : (Jvm.Cond.methodLink "NamelessBoxLaw" (30 : Nat) ({ cls := "NamelessBoxModel", name := "picture", desc := "(II)I" } : Jvm.MethodName)) ∈ cx_G := cx_t5 206 (by decide +kernel) rfl
theorem hw_1167 : (Jvm.Cond.instanceMethod ({ cls := "NamelessBoxModel", name := "picture", desc := "(II)I" } : Jvm.MethodName)) ∈ cx_G := cx_t5 207 (by decide +kernel) rfl
theorem hw_1168 : (Jvm.Cond.selects "NamelessBoxModel" ({ cls := "NamelessBoxModel", name := "picture", desc := "(II)I" } : Jvm.MethodName) ({ cls := "NamelessBoxModel", name := "picture", desc := "(II)I" } : Jvm.MethodName)) ∈ cx_G := cx_t5 208 (by decide +kernel) rfl
theorem hw_1169 : (Jvm.Cond.code ({ cls := "NamelessBoxModel", name := "picture", desc := "(II)I" } : Jvm.MethodName) prog_11_method_29_code (3 : Nat) (Option.some Jvm.ClassFile.FieldType.int)) ∈ cx_G := cx_t5 209 (by decide +kernel) rfl
theorem hw_1170 : (Jvm.Cond.methodLink "NamelessBoxLaw" (35 : Nat) ({ cls := "NamelessBoxModel", name := "head", desc := "(IIIII)I" } : Jvm.MethodName)) ∈ cx_G := cx_t5 210 (by decide +kernel) rfl
theorem hw_1171 : (Jvm.Cond.instanceMethod ({ cls := "NamelessBoxModel", name := "head", desc := "(IIIII)I" } : Jvm.MethodName)) ∈ cx_G := cx_t5 211 (by decide +kernel) rfl
theorem hw_1172 : (Jvm.Cond.selects "NamelessBoxModel" ({ cls := "NamelessBoxModel", name := "head", desc := "(IIIII)I" } : Jvm.MethodName) ({ cls := "NamelessBoxModel", name := "head", desc := "(IIIII)I" } : Jvm.MethodName)) ∈ cx_G := cx_t5 212 (by decide +kernel) rfl
theorem hw_1173 : (Jvm.Cond.code ({ cls := "NamelessBoxModel", name := "head", desc := "(IIIII)I" } : Jvm.MethodName) prog_11_method_30_code (7 : Nat) (Option.some Jvm.ClassFile.FieldType.int)) ∈ cx_G := cx_t5 213 (by decide +kernel) rfl
theorem hw_1174 : (Jvm.Cond.methodLink "NamelessBoxModel" (114 : Nat) ({ cls := "NamelessBoxModel", name := "isPicture", desc := "(I)Z" } : Jvm.MethodName)) ∈ cx_G := cx_t5 214 (by decide +kernel) rfl
theorem hw_1176 : (Jvm.Cond.instanceMethod ({ cls := "NamelessBoxModel", name := "isPicture", desc := "(I)Z" } : Jvm.MethodName)) ∈ cx_G := cx_t5 216 (by decide +kernel) rfl
theorem hw_1177 : (Jvm.Cond.code ({ cls := "NamelessBoxModel", name := "isPicture", desc := "(I)Z" } : Jvm.MethodName) prog_11_method_22_code (2 : Nat) (Option.some Jvm.ClassFile.FieldType.boolean)) ∈ cx_G := cx_t5 217 (by decide +kernel) rfl
theorem hw_1178 : (Jvm.Cond.methodLink "NamelessBoxLaw" (39 : Nat) ({ cls := "NamelessBoxModel", name := "name", desc := "(IIII)I" } : Jvm.MethodName)) ∈ cx_G := cx_t5 218 (by decide +kernel) rfl
theorem hw_1179 : (Jvm.Cond.instanceMethod ({ cls := "NamelessBoxModel", name := "name", desc := "(IIII)I" } : Jvm.MethodName)) ∈ cx_G := cx_t5 219 (by decide +kernel) rfl
theorem hw_1180 : (Jvm.Cond.selects "NamelessBoxModel" ({ cls := "NamelessBoxModel", name := "name", desc := "(IIII)I" } : Jvm.MethodName) ({ cls := "NamelessBoxModel", name := "name", desc := "(IIII)I" } : Jvm.MethodName)) ∈ cx_G := cx_t5 220 (by decide +kernel) rfl
theorem hw_1181 : (Jvm.Cond.code ({ cls := "NamelessBoxModel", name := "name", desc := "(IIII)I" } : Jvm.MethodName) prog_11_method_31_code (6 : Nat) (Option.some Jvm.ClassFile.FieldType.int)) ∈ cx_G := cx_t5 221 (by decide +kernel) rfl
theorem hw_1182 : (Jvm.Cond.constantLong "NamelessBoxModel" (117 : Nat) (5 : Int64)) ∈ cx_G := cx_t5 222 (by decide +kernel) rfl
theorem hw_1183 : (Jvm.Cond.methodLink "NamelessBoxModel" (119 : Nat) ({ cls := "NamelessBoxModel", name := "isHead", desc := "(I)Z" } : Jvm.MethodName)) ∈ cx_G := cx_t5 223 (by decide +kernel) rfl
theorem hw_1185 : (Jvm.Cond.instanceMethod ({ cls := "NamelessBoxModel", name := "isHead", desc := "(I)Z" } : Jvm.MethodName)) ∈ cx_G := cx_t5 225 (by decide +kernel) rfl
theorem hw_1186 : (Jvm.Cond.code ({ cls := "NamelessBoxModel", name := "isHead", desc := "(I)Z" } : Jvm.MethodName) prog_11_method_23_code (2 : Nat) (Option.some Jvm.ClassFile.FieldType.boolean)) ∈ cx_G := cx_t5 226 (by decide +kernel) rfl
theorem hw_1187 : (Jvm.Cond.methodLink "NamelessBoxLaw" (44 : Nat) ({ cls := "NamelessBoxModel", name := "join", desc := "(III)I" } : Jvm.MethodName)) ∈ cx_G := cx_t5 227 (by decide +kernel) rfl
theorem hw_1188 : (Jvm.Cond.instanceMethod ({ cls := "NamelessBoxModel", name := "join", desc := "(III)I" } : Jvm.MethodName)) ∈ cx_G := cx_t5 228 (by decide +kernel) rfl
theorem hw_1189 : (Jvm.Cond.selects "NamelessBoxModel" ({ cls := "NamelessBoxModel", name := "join", desc := "(III)I" } : Jvm.MethodName) ({ cls := "NamelessBoxModel", name := "join", desc := "(III)I" } : Jvm.MethodName)) ∈ cx_G := cx_t5 229 (by decide +kernel) rfl
theorem hw_1190 : (Jvm.Cond.code ({ cls := "NamelessBoxModel", name := "join", desc := "(III)I" } : Jvm.MethodName) prog_11_method_32_code (5 : Nat) (Option.some Jvm.ClassFile.FieldType.int)) ∈ cx_G := cx_t5 230 (by decide +kernel) rfl
theorem hw_1191 : (Jvm.Cond.methodLink "NamelessBoxModel" (122 : Nat) ({ cls := "NamelessBoxModel", name := "ofHead", desc := "(II)I" } : Jvm.MethodName)) ∈ cx_G := cx_t5 231 (by decide +kernel) rfl
theorem hw_1193 : (Jvm.Cond.instanceMethod ({ cls := "NamelessBoxModel", name := "ofHead", desc := "(II)I" } : Jvm.MethodName)) ∈ cx_G := cx_t5 233 (by decide +kernel) rfl
theorem hw_1194 : (Jvm.Cond.code ({ cls := "NamelessBoxModel", name := "ofHead", desc := "(II)I" } : Jvm.MethodName) prog_11_method_25_code (3 : Nat) (Option.some Jvm.ClassFile.FieldType.int)) ∈ cx_G := cx_t5 234 (by decide +kernel) rfl
theorem hw_1195 : (Jvm.Cond.constantLong "NamelessBoxModel" (125 : Nat) (10 : Int64)) ∈ cx_G := cx_t5 235 (by decide +kernel) rfl
theorem hw_1196 : (Jvm.Cond.methodLink "NamelessBoxLaw" (49 : Nat) ({ cls := "NamelessBoxModel", name := "strange", desc := "(I)I" } : Jvm.MethodName)) ∈ cx_G := cx_t5 236 (by decide +kernel) rfl
theorem hw_1197 : (Jvm.Cond.instanceMethod ({ cls := "NamelessBoxModel", name := "strange", desc := "(I)I" } : Jvm.MethodName)) ∈ cx_G := cx_t5 237 (by decide +kernel) rfl
theorem hw_1198 : (Jvm.Cond.selects "NamelessBoxModel" ({ cls := "NamelessBoxModel", name := "strange", desc := "(I)I" } : Jvm.MethodName) ({ cls := "NamelessBoxModel", name := "strange", desc := "(I)I" } : Jvm.MethodName)) ∈ cx_G := cx_t5 238 (by decide +kernel) rfl
theorem hw_1199 : (Jvm.Cond.code ({ cls := "NamelessBoxModel", name := "strange", desc := "(I)I" } : Jvm.MethodName) prog_11_method_33_code (3 : Nat) (Option.some Jvm.ClassFile.FieldType.int)) ∈ cx_G := cx_t5 239 (by decide +kernel) rfl
theorem hw_1200 : (Jvm.Cond.constantLong "NamelessBoxModel" (127 : Nat) (9 : Int64)) ∈ cx_G := cx_t6 0 (by decide +kernel) rfl
theorem hw_1201 : (Jvm.Cond.methodLink "NamelessBoxLaw" (53 : Nat) ({ cls := "NamelessBoxModel", name := "mark", desc := "(II)I" } : Jvm.MethodName)) ∈ cx_G := cx_t6 1 (by decide +kernel) rfl
theorem hw_1202 : (Jvm.Cond.instanceMethod ({ cls := "NamelessBoxModel", name := "mark", desc := "(II)I" } : Jvm.MethodName)) ∈ cx_G := cx_t6 2 (by decide +kernel) rfl
theorem hw_1203 : (Jvm.Cond.selects "NamelessBoxModel" ({ cls := "NamelessBoxModel", name := "mark", desc := "(II)I" } : Jvm.MethodName) ({ cls := "NamelessBoxModel", name := "mark", desc := "(II)I" } : Jvm.MethodName)) ∈ cx_G := cx_t6 3 (by decide +kernel) rfl
theorem hw_1204 : (Jvm.Cond.code ({ cls := "NamelessBoxModel", name := "mark", desc := "(II)I" } : Jvm.MethodName) prog_11_method_35_code (3 : Nat) (Option.some Jvm.ClassFile.FieldType.int)) ∈ cx_G := cx_t6 4 (by decide +kernel) rfl
theorem hw_1205 : (Jvm.Cond.constantLong "NamelessBoxModel" (129 : Nat) (3 : Int64)) ∈ cx_G := cx_t6 5 (by decide +kernel) rfl
theorem hw_1206 : (Jvm.Cond.methodLink "NamelessBoxModel" (131 : Nat) ({ cls := "NamelessBoxModel", name := "markOf", desc := "(II)I" } : Jvm.MethodName)) ∈ cx_G := cx_t6 6 (by decide +kernel) rfl
theorem hw_1208 : (Jvm.Cond.instanceMethod ({ cls := "NamelessBoxModel", name := "markOf", desc := "(II)I" } : Jvm.MethodName)) ∈ cx_G := cx_t6 8 (by decide +kernel) rfl
theorem hw_1209 : (Jvm.Cond.code ({ cls := "NamelessBoxModel", name := "markOf", desc := "(II)I" } : Jvm.MethodName) prog_11_method_34_code (4 : Nat) (Option.some Jvm.ClassFile.FieldType.int)) ∈ cx_G := cx_t6 9 (by decide +kernel) rfl
theorem hw_1210 : (Jvm.Cond.methodLink "NamelessBoxLaw" (57 : Nat) ({ cls := "NamelessBoxModel", name := "like", desc := "(III)I" } : Jvm.MethodName)) ∈ cx_G := cx_t6 10 (by decide +kernel) rfl
theorem hw_1211 : (Jvm.Cond.instanceMethod ({ cls := "NamelessBoxModel", name := "like", desc := "(III)I" } : Jvm.MethodName)) ∈ cx_G := cx_t6 11 (by decide +kernel) rfl
theorem hw_1212 : (Jvm.Cond.selects "NamelessBoxModel" ({ cls := "NamelessBoxModel", name := "like", desc := "(III)I" } : Jvm.MethodName) ({ cls := "NamelessBoxModel", name := "like", desc := "(III)I" } : Jvm.MethodName)) ∈ cx_G := cx_t6 12 (by decide +kernel) rfl
theorem hw_1213 : (Jvm.Cond.code ({ cls := "NamelessBoxModel", name := "like", desc := "(III)I" } : Jvm.MethodName) prog_11_method_37_code (4 : Nat) (Option.some Jvm.ClassFile.FieldType.int)) ∈ cx_G := cx_t6 13 (by decide +kernel) rfl
theorem hw_1214 : (Jvm.Cond.methodLink "NamelessBoxModel" (134 : Nat) ({ cls := "NamelessBoxModel", name := "likeOf", desc := "(III)I" } : Jvm.MethodName)) ∈ cx_G := cx_t6 14 (by decide +kernel) rfl
theorem hw_1216 : (Jvm.Cond.instanceMethod ({ cls := "NamelessBoxModel", name := "likeOf", desc := "(III)I" } : Jvm.MethodName)) ∈ cx_G := cx_t6 16 (by decide +kernel) rfl
theorem hw_1217 : (Jvm.Cond.code ({ cls := "NamelessBoxModel", name := "likeOf", desc := "(III)I" } : Jvm.MethodName) prog_11_method_36_code (8 : Nat) (Option.some Jvm.ClassFile.FieldType.int)) ∈ cx_G := cx_t6 17 (by decide +kernel) rfl
theorem hw_1218 : (Jvm.Cond.methodLink "NamelessBoxLaw" (61 : Nat) ({ cls := "NamelessBoxModel", name := "truth", desc := "(I)I" } : Jvm.MethodName)) ∈ cx_G := cx_t6 18 (by decide +kernel) rfl
theorem hw_1219 : (Jvm.Cond.instanceMethod ({ cls := "NamelessBoxModel", name := "truth", desc := "(I)I" } : Jvm.MethodName)) ∈ cx_G := cx_t6 19 (by decide +kernel) rfl
theorem hw_1220 : (Jvm.Cond.selects "NamelessBoxModel" ({ cls := "NamelessBoxModel", name := "truth", desc := "(I)I" } : Jvm.MethodName) ({ cls := "NamelessBoxModel", name := "truth", desc := "(I)I" } : Jvm.MethodName)) ∈ cx_G := cx_t6 20 (by decide +kernel) rfl
theorem hw_1221 : (Jvm.Cond.code ({ cls := "NamelessBoxModel", name := "truth", desc := "(I)I" } : Jvm.MethodName) prog_11_method_39_code (2 : Nat) (Option.some Jvm.ClassFile.FieldType.int)) ∈ cx_G := cx_t6 21 (by decide +kernel) rfl
theorem hw_1222 : (Jvm.Cond.methodLink "NamelessBoxModel" (138 : Nat) ({ cls := "NamelessBoxModel", name := "truthOf", desc := "(I)I" } : Jvm.MethodName)) ∈ cx_G := cx_t6 22 (by decide +kernel) rfl
theorem hw_1224 : (Jvm.Cond.instanceMethod ({ cls := "NamelessBoxModel", name := "truthOf", desc := "(I)I" } : Jvm.MethodName)) ∈ cx_G := cx_t6 24 (by decide +kernel) rfl
theorem hw_1225 : (Jvm.Cond.code ({ cls := "NamelessBoxModel", name := "truthOf", desc := "(I)I" } : Jvm.MethodName) prog_11_method_38_code (4 : Nat) (Option.some Jvm.ClassFile.FieldType.int)) ∈ cx_G := cx_t6 25 (by decide +kernel) rfl
theorem hw_1226 : (Jvm.Cond.methodLink "NamelessBoxLaw" (68 : Nat) ({ cls := "NamelessBoxModel", name := "type", desc := "(JI)I" } : Jvm.MethodName)) ∈ cx_G := cx_t6 26 (by decide +kernel) rfl
theorem hw_1227 : (Jvm.Cond.instanceMethod ({ cls := "NamelessBoxModel", name := "type", desc := "(JI)I" } : Jvm.MethodName)) ∈ cx_G := cx_t6 27 (by decide +kernel) rfl
theorem hw_1228 : (Jvm.Cond.selects "NamelessBoxModel" ({ cls := "NamelessBoxModel", name := "type", desc := "(JI)I" } : Jvm.MethodName) ({ cls := "NamelessBoxModel", name := "type", desc := "(JI)I" } : Jvm.MethodName)) ∈ cx_G := cx_t6 28 (by decide +kernel) rfl
theorem hw_1229 : (Jvm.Cond.code ({ cls := "NamelessBoxModel", name := "type", desc := "(JI)I" } : Jvm.MethodName) prog_11_method_40_code (5 : Nat) (Option.some Jvm.ClassFile.FieldType.int)) ∈ cx_G := cx_t6 29 (by decide +kernel) rfl
theorem hw_1230 : (Jvm.Cond.constantLong "NamelessBoxModel" (142 : Nat) (8 : Int64)) ∈ cx_G := cx_t6 30 (by decide +kernel) rfl
theorem hw_1231 : (Jvm.Cond.constantLong "NamelessBoxModel" (148 : Nat) (255 : Int64)) ∈ cx_G := cx_t6 31 (by decide +kernel) rfl
theorem hw_1232 : (Jvm.Cond.methodLink "NamelessBoxLaw" (73 : Nat) ({ cls := "NamelessBoxModel", name := "clear", desc := "()I" } : Jvm.MethodName)) ∈ cx_G := cx_t6 32 (by decide +kernel) rfl
theorem hw_1233 : (Jvm.Cond.instanceMethod ({ cls := "NamelessBoxModel", name := "clear", desc := "()I" } : Jvm.MethodName)) ∈ cx_G := cx_t6 33 (by decide +kernel) rfl
theorem hw_1234 : (Jvm.Cond.selects "NamelessBoxModel" ({ cls := "NamelessBoxModel", name := "clear", desc := "()I" } : Jvm.MethodName) ({ cls := "NamelessBoxModel", name := "clear", desc := "()I" } : Jvm.MethodName)) ∈ cx_G := cx_t6 34 (by decide +kernel) rfl
theorem hw_1235 : (Jvm.Cond.code ({ cls := "NamelessBoxModel", name := "clear", desc := "()I" } : Jvm.MethodName) prog_11_method_41_code (2 : Nat) (Option.some Jvm.ClassFile.FieldType.int)) ∈ cx_G := cx_t6 35 (by decide +kernel) rfl
theorem hw_1236 : (Jvm.Cond.methodLink "NamelessBoxLaw" (77 : Nat) ({ cls := "NamelessBoxModel", name := "read", desc := "()I" } : Jvm.MethodName)) ∈ cx_G := cx_t6 36 (by decide +kernel) rfl
theorem hw_1237 : (Jvm.Cond.instanceMethod ({ cls := "NamelessBoxModel", name := "read", desc := "()I" } : Jvm.MethodName)) ∈ cx_G := cx_t6 37 (by decide +kernel) rfl
theorem hw_1238 : (Jvm.Cond.selects "NamelessBoxModel" ({ cls := "NamelessBoxModel", name := "read", desc := "()I" } : Jvm.MethodName) ({ cls := "NamelessBoxModel", name := "read", desc := "()I" } : Jvm.MethodName)) ∈ cx_G := cx_t6 38 (by decide +kernel) rfl
theorem hw_1239 : (Jvm.Cond.code ({ cls := "NamelessBoxModel", name := "read", desc := "()I" } : Jvm.MethodName) prog_11_method_48_code (3 : Nat) (Option.some Jvm.ClassFile.FieldType.int)) ∈ cx_G := cx_t6 39 (by decide +kernel) rfl
theorem hw_1240 : (Jvm.Cond.methodLink "NamelessBoxModel" (225 : Nat) ({ cls := "NamelessBoxModel", name := "reads", desc := "()Z" } : Jvm.MethodName)) ∈ cx_G := cx_t6 40 (by decide +kernel) rfl
theorem hw_1242 : (Jvm.Cond.instanceMethod ({ cls := "NamelessBoxModel", name := "reads", desc := "()Z" } : Jvm.MethodName)) ∈ cx_G := cx_t6 42 (by decide +kernel) rfl
theorem hw_1243 : (Jvm.Cond.code ({ cls := "NamelessBoxModel", name := "reads", desc := "()Z" } : Jvm.MethodName) prog_11_method_46_code (3 : Nat) (Option.some Jvm.ClassFile.FieldType.boolean)) ∈ cx_G := cx_t6 43 (by decide +kernel) rfl
theorem hw_1244 : (Jvm.Cond.methodLink "NamelessBoxModel" (193 : Nat) ({ cls := "NamelessBoxModel", name := "scans", desc := "()V" } : Jvm.MethodName)) ∈ cx_G := cx_t6 44 (by decide +kernel) rfl
theorem hw_1246 : (Jvm.Cond.instanceMethod ({ cls := "NamelessBoxModel", name := "scans", desc := "()V" } : Jvm.MethodName)) ∈ cx_G := cx_t6 46 (by decide +kernel) rfl
theorem hw_1247 : (Jvm.Cond.code ({ cls := "NamelessBoxModel", name := "scans", desc := "()V" } : Jvm.MethodName) prog_11_method_44_code (3 : Nat) (Option.none : Option Jvm.ClassFile.FieldType)) ∈ cx_G := cx_t6 47 (by decide +kernel) rfl
theorem hw_1248 : (Jvm.Cond.methodLink "NamelessBoxModel" (169 : Nat) ({ cls := "NamelessBoxModel", name := "isAt", desc := "(II)Z" } : Jvm.MethodName)) ∈ cx_G := cx_t6 48 (by decide +kernel) rfl
theorem hw_1250 : (Jvm.Cond.instanceMethod ({ cls := "NamelessBoxModel", name := "isAt", desc := "(II)Z" } : Jvm.MethodName)) ∈ cx_G := cx_t6 50 (by decide +kernel) rfl
theorem hw_1251 : (Jvm.Cond.code ({ cls := "NamelessBoxModel", name := "isAt", desc := "(II)Z" } : Jvm.MethodName) prog_11_method_42_code (3 : Nat) (Option.some Jvm.ClassFile.FieldType.boolean)) ∈ cx_G := cx_t6 51 (by decide +kernel) rfl
theorem hw_1252 : (Jvm.Cond.constantLong "NamelessBoxModel" (179 : Nat) (32 : Int64)) ∈ cx_G := cx_t6 52 (by decide +kernel) rfl
theorem hw_1253 : (Jvm.Cond.constantLong "NamelessBoxModel" (181 : Nat) (97 : Int64)) ∈ cx_G := cx_t6 53 (by decide +kernel) rfl
theorem hw_1254 : (Jvm.Cond.methodLink "NamelessBoxModel" (183 : Nat) ({ cls := "NamelessBoxModel", name := "verbOf", desc := "(J)I" } : Jvm.MethodName)) ∈ cx_G := cx_t6 54 (by decide +kernel) rfl
theorem hw_1255 : (Jvm.Cond.static ({ cls := "NamelessBoxModel", name := "verbOf", desc := "(J)I" } : Jvm.MethodName)) ∈ cx_G := cx_t6 55 (by decide +kernel) rfl
theorem hw_1256 : (Jvm.Cond.code ({ cls := "NamelessBoxModel", name := "verbOf", desc := "(J)I" } : Jvm.MethodName) prog_11_method_43_code (4 : Nat) (Option.some Jvm.ClassFile.FieldType.int)) ∈ cx_G := cx_t6 56 (by decide +kernel) rfl
theorem hw_1257 : (Jvm.Cond.constantLong "NamelessBoxModel" (153 : Nat) (542723566 : Int64)) ∈ cx_G := cx_t6 57 (by decide +kernel) rfl
theorem hw_1258 : (Jvm.Cond.constantLong "NamelessBoxModel" (155 : Nat) (538514900 : Int64)) ∈ cx_G := cx_t6 58 (by decide +kernel) rfl
theorem hw_1259 : (Jvm.Cond.constantLong "NamelessBoxModel" (157 : Nat) (463922 : Int64)) ∈ cx_G := cx_t6 59 (by decide +kernel) rfl
theorem hw_1260 : (Jvm.Cond.constantLong "NamelessBoxModel" (159 : Nat) (17485682245 : Int64)) ∈ cx_G := cx_t6 60 (by decide +kernel) rfl
theorem hw_1261 : (Jvm.Cond.constantLong "NamelessBoxModel" (161 : Nat) (267300 : Int64)) ∈ cx_G := cx_t6 61 (by decide +kernel) rfl
theorem hw_1262 : (Jvm.Cond.constantLong "NamelessBoxModel" (163 : Nat) (460197 : Int64)) ∈ cx_G := cx_t6 62 (by decide +kernel) rfl
theorem hw_1263 : (Jvm.Cond.constantLong "NamelessBoxModel" (165 : Nat) (343342 : Int64)) ∈ cx_G := cx_t6 63 (by decide +kernel) rfl
theorem hw_1264 : (Jvm.Cond.constantLong "NamelessBoxModel" (167 : Nat) (21091104997 : Int64)) ∈ cx_G := cx_t6 64 (by decide +kernel) rfl
theorem hw_1265 : (Jvm.Cond.methodLink "NamelessBoxModel" (196 : Nat) ({ cls := "NamelessBoxModel", name := "numbers", desc := "(I)I" } : Jvm.MethodName)) ∈ cx_G := cx_t6 65 (by decide +kernel) rfl
theorem hw_1266 : (Jvm.Cond.static ({ cls := "NamelessBoxModel", name := "numbers", desc := "(I)I" } : Jvm.MethodName)) ∈ cx_G := cx_t6 66 (by decide +kernel) rfl
theorem hw_1267 : (Jvm.Cond.code ({ cls := "NamelessBoxModel", name := "numbers", desc := "(I)I" } : Jvm.MethodName) prog_11_method_45_code (1 : Nat) (Option.some Jvm.ClassFile.FieldType.int)) ∈ cx_G := cx_t6 67 (by decide +kernel) rfl
theorem hw_1268 : (Jvm.Cond.methodLink "NamelessBoxModel" (229 : Nat) ({ cls := "NamelessBoxModel", name := "tellsItem", desc := "(I)Z" } : Jvm.MethodName)) ∈ cx_G := cx_t6 68 (by decide +kernel) rfl
theorem hw_1270 : (Jvm.Cond.instanceMethod ({ cls := "NamelessBoxModel", name := "tellsItem", desc := "(I)Z" } : Jvm.MethodName)) ∈ cx_G := cx_t6 70 (by decide +kernel) rfl
theorem hw_1271 : (Jvm.Cond.code ({ cls := "NamelessBoxModel", name := "tellsItem", desc := "(I)Z" } : Jvm.MethodName) prog_11_method_47_code (8 : Nat) (Option.some Jvm.ClassFile.FieldType.boolean)) ∈ cx_G := cx_t6 71 (by decide +kernel) rfl
theorem hw_1272 : (Jvm.Cond.methodLink "NamelessBoxModel" (199 : Nat) ({ cls := "NamelessBoxModel", name := "person", desc := "(IIII)I" } : Jvm.MethodName)) ∈ cx_G := cx_t6 72 (by decide +kernel) rfl
theorem hw_1273 : (Jvm.Cond.methodLink "NamelessBoxModel" (203 : Nat) ({ cls := "NamelessBoxModel", name := "parent", desc := "(II)I" } : Jvm.MethodName)) ∈ cx_G := cx_t6 73 (by decide +kernel) rfl
theorem hw_1274 : (Jvm.Cond.methodLink "NamelessBoxModel" (206 : Nat) ({ cls := "NamelessBoxModel", name := "near", desc := "(II)I" } : Jvm.MethodName)) ∈ cx_G := cx_t6 74 (by decide +kernel) rfl
theorem hw_1275 : (Jvm.Cond.methodLink "NamelessBoxModel" (209 : Nat) ({ cls := "NamelessBoxModel", name := "picture", desc := "(II)I" } : Jvm.MethodName)) ∈ cx_G := cx_t6 75 (by decide +kernel) rfl
theorem hw_1276 : (Jvm.Cond.methodLink "NamelessBoxModel" (212 : Nat) ({ cls := "NamelessBoxModel", name := "head", desc := "(IIIII)I" } : Jvm.MethodName)) ∈ cx_G := cx_t6 76 (by decide +kernel) rfl
theorem hw_1277 : (Jvm.Cond.methodLink "NamelessBoxModel" (216 : Nat) ({ cls := "NamelessBoxModel", name := "name", desc := "(IIII)I" } : Jvm.MethodName)) ∈ cx_G := cx_t6 77 (by decide +kernel) rfl
theorem hw_1278 : (Jvm.Cond.methodLink "NamelessBoxModel" (219 : Nat) ({ cls := "NamelessBoxModel", name := "join", desc := "(III)I" } : Jvm.MethodName)) ∈ cx_G := cx_t6 78 (by decide +kernel) rfl
theorem hw_1279 : (Jvm.Cond.methodLink "NamelessBoxModel" (222 : Nat) ({ cls := "NamelessBoxModel", name := "strange", desc := "(I)I" } : Jvm.MethodName)) ∈ cx_G := cx_t6 79 (by decide +kernel) rfl
theorem hw_1280 : (Jvm.Cond.methodLink "NamelessBoxLaw" (81 : Nat) ({ cls := "NamelessBoxModel", name := "who", desc := "(II)I" } : Jvm.MethodName)) ∈ cx_G := cx_t6 80 (by decide +kernel) rfl
theorem hw_1281 : (Jvm.Cond.instanceMethod ({ cls := "NamelessBoxModel", name := "who", desc := "(II)I" } : Jvm.MethodName)) ∈ cx_G := cx_t6 81 (by decide +kernel) rfl
theorem hw_1282 : (Jvm.Cond.selects "NamelessBoxModel" ({ cls := "NamelessBoxModel", name := "who", desc := "(II)I" } : Jvm.MethodName) ({ cls := "NamelessBoxModel", name := "who", desc := "(II)I" } : Jvm.MethodName)) ∈ cx_G := cx_t6 82 (by decide +kernel) rfl
theorem hw_1283 : (Jvm.Cond.code ({ cls := "NamelessBoxModel", name := "who", desc := "(II)I" } : Jvm.MethodName) prog_11_method_63_code (3 : Nat) (Option.some Jvm.ClassFile.FieldType.int)) ∈ cx_G := cx_t6 83 (by decide +kernel) rfl
theorem hw_1284 : (Jvm.Cond.methodLink "NamelessBoxModel" (284 : Nat) ({ cls := "NamelessBoxModel", name := "begins", desc := "()V" } : Jvm.MethodName)) ∈ cx_G := cx_t6 84 (by decide +kernel) rfl
theorem hw_1286 : (Jvm.Cond.instanceMethod ({ cls := "NamelessBoxModel", name := "begins", desc := "()V" } : Jvm.MethodName)) ∈ cx_G := cx_t6 86 (by decide +kernel) rfl
theorem hw_1287 : (Jvm.Cond.code ({ cls := "NamelessBoxModel", name := "begins", desc := "()V" } : Jvm.MethodName) prog_11_method_50_code (5 : Nat) (Option.none : Option Jvm.ClassFile.FieldType)) ∈ cx_G := cx_t6 87 (by decide +kernel) rfl
theorem hw_1288 : (Jvm.Cond.methodLink "NamelessBoxModel" (287 : Nat) ({ cls := "NamelessBoxModel", name := "shares", desc := "(I)V" } : Jvm.MethodName)) ∈ cx_G := cx_t6 88 (by decide +kernel) rfl
theorem hw_1290 : (Jvm.Cond.instanceMethod ({ cls := "NamelessBoxModel", name := "shares", desc := "(I)V" } : Jvm.MethodName)) ∈ cx_G := cx_t6 90 (by decide +kernel) rfl
theorem hw_1291 : (Jvm.Cond.code ({ cls := "NamelessBoxModel", name := "shares", desc := "(I)V" } : Jvm.MethodName) prog_11_method_61_code (5 : Nat) (Option.none : Option Jvm.ClassFile.FieldType)) ∈ cx_G := cx_t6 91 (by decide +kernel) rfl
theorem hw_1292 : (Jvm.Cond.methodLink "NamelessBoxModel" (272 : Nat) ({ cls := "NamelessBoxModel", name := "ways", desc := "()I" } : Jvm.MethodName)) ∈ cx_G := cx_t6 92 (by decide +kernel) rfl
theorem hw_1294 : (Jvm.Cond.instanceMethod ({ cls := "NamelessBoxModel", name := "ways", desc := "()I" } : Jvm.MethodName)) ∈ cx_G := cx_t6 94 (by decide +kernel) rfl
theorem hw_1295 : (Jvm.Cond.code ({ cls := "NamelessBoxModel", name := "ways", desc := "()I" } : Jvm.MethodName) prog_11_method_49_code (3 : Nat) (Option.some Jvm.ClassFile.FieldType.int)) ∈ cx_G := cx_t6 95 (by decide +kernel) rfl
theorem hw_1296 : (Jvm.Cond.methodLink "NamelessBoxModel" (275 : Nat) ({ cls := "NamelessBoxModel", name := "weighs", desc := "(I)Z" } : Jvm.MethodName)) ∈ cx_G := cx_t6 96 (by decide +kernel) rfl
theorem hw_1298 : (Jvm.Cond.instanceMethod ({ cls := "NamelessBoxModel", name := "weighs", desc := "(I)Z" } : Jvm.MethodName)) ∈ cx_G := cx_t6 98 (by decide +kernel) rfl
theorem hw_1299 : (Jvm.Cond.code ({ cls := "NamelessBoxModel", name := "weighs", desc := "(I)Z" } : Jvm.MethodName) prog_11_method_56_code (8 : Nat) (Option.some Jvm.ClassFile.FieldType.boolean)) ∈ cx_G := cx_t6 99 (by decide +kernel) rfl
theorem hw_1300 : (Jvm.Cond.methodLink "NamelessBoxModel" (244 : Nat) ({ cls := "NamelessBoxModel", name := "picks", desc := "(I)V" } : Jvm.MethodName)) ∈ cx_G := cx_t6 100 (by decide +kernel) rfl
theorem hw_1302 : (Jvm.Cond.instanceMethod ({ cls := "NamelessBoxModel", name := "picks", desc := "(I)V" } : Jvm.MethodName)) ∈ cx_G := cx_t6 102 (by decide +kernel) rfl
theorem hw_1303 : (Jvm.Cond.code ({ cls := "NamelessBoxModel", name := "picks", desc := "(I)V" } : Jvm.MethodName) prog_11_method_51_code (5 : Nat) (Option.none : Option Jvm.ClassFile.FieldType)) ∈ cx_G := cx_t6 103 (by decide +kernel) rfl
theorem hw_1304 : (Jvm.Cond.methodLink "NamelessBoxModel" (247 : Nat) ({ cls := "NamelessBoxModel", name := "isTwice", desc := "()Z" } : Jvm.MethodName)) ∈ cx_G := cx_t6 104 (by decide +kernel) rfl
theorem hw_1306 : (Jvm.Cond.instanceMethod ({ cls := "NamelessBoxModel", name := "isTwice", desc := "()Z" } : Jvm.MethodName)) ∈ cx_G := cx_t6 106 (by decide +kernel) rfl
theorem hw_1307 : (Jvm.Cond.code ({ cls := "NamelessBoxModel", name := "isTwice", desc := "()Z" } : Jvm.MethodName) prog_11_method_54_code (4 : Nat) (Option.some Jvm.ClassFile.FieldType.boolean)) ∈ cx_G := cx_t6 107 (by decide +kernel) rfl
theorem hw_1308 : (Jvm.Cond.methodLink "NamelessBoxModel" (253 : Nat) ({ cls := "NamelessBoxModel", name := "years", desc := "(I)I" } : Jvm.MethodName)) ∈ cx_G := cx_t6 108 (by decide +kernel) rfl
theorem hw_1310 : (Jvm.Cond.instanceMethod ({ cls := "NamelessBoxModel", name := "years", desc := "(I)I" } : Jvm.MethodName)) ∈ cx_G := cx_t6 110 (by decide +kernel) rfl
theorem hw_1311 : (Jvm.Cond.code ({ cls := "NamelessBoxModel", name := "years", desc := "(I)I" } : Jvm.MethodName) prog_11_method_53_code (2 : Nat) (Option.some Jvm.ClassFile.FieldType.int)) ∈ cx_G := cx_t6 111 (by decide +kernel) rfl
theorem hw_1312 : (Jvm.Cond.methodLink "NamelessBoxModel" (259 : Nat) ({ cls := "NamelessBoxModel", name := "termOf", desc := "(II)J" } : Jvm.MethodName)) ∈ cx_G := cx_t6 112 (by decide +kernel) rfl
theorem hw_1314 : (Jvm.Cond.instanceMethod ({ cls := "NamelessBoxModel", name := "termOf", desc := "(II)J" } : Jvm.MethodName)) ∈ cx_G := cx_t6 114 (by decide +kernel) rfl
theorem hw_1315 : (Jvm.Cond.code ({ cls := "NamelessBoxModel", name := "termOf", desc := "(II)J" } : Jvm.MethodName) prog_11_method_52_code (6 : Nat) (Option.some Jvm.ClassFile.FieldType.long)) ∈ cx_G := cx_t6 115 (by decide +kernel) rfl
theorem hw_1316 : (Jvm.Cond.methodLink "NamelessBoxModel" (263 : Nat) ({ cls := "NamelessBoxModel", name := "timesLong", desc := "(IJ)V" } : Jvm.MethodName)) ∈ cx_G := cx_t6 116 (by decide +kernel) rfl
theorem hw_1318 : (Jvm.Cond.instanceMethod ({ cls := "NamelessBoxModel", name := "timesLong", desc := "(IJ)V" } : Jvm.MethodName)) ∈ cx_G := cx_t6 118 (by decide +kernel) rfl
theorem hw_1319 : (Jvm.Cond.code ({ cls := "NamelessBoxModel", name := "timesLong", desc := "(IJ)V" } : Jvm.MethodName) prog_11_method_55_code (4 : Nat) (Option.none : Option Jvm.ClassFile.FieldType)) ∈ cx_G := cx_t6 119 (by decide +kernel) rfl
theorem hw_1320 : (Jvm.Cond.methodLink "NamelessBoxModel" (241 : Nat) ({ cls := "NamelessBoxModel", name := "multiplies", desc := "(II)V" } : Jvm.MethodName)) ∈ cx_G := cx_t6 120 (by decide +kernel) rfl
theorem hw_1322 : (Jvm.Cond.instanceMethod ({ cls := "NamelessBoxModel", name := "multiplies", desc := "(II)V" } : Jvm.MethodName)) ∈ cx_G := cx_t6 122 (by decide +kernel) rfl
theorem hw_1323 : (Jvm.Cond.code ({ cls := "NamelessBoxModel", name := "multiplies", desc := "(II)V" } : Jvm.MethodName) prog_11_method_7_code (11 : Nat) (Option.none : Option Jvm.ClassFile.FieldType)) ∈ cx_G := cx_t6 123 (by decide +kernel) rfl
theorem hw_1324 : (Jvm.Cond.methodLink "NamelessBoxModel" (20 : Nat) ({ cls := "NamelessBoxModel", name := "takes", desc := "(II)V" } : Jvm.MethodName)) ∈ cx_G := cx_t6 124 (by decide +kernel) rfl
theorem hw_1326 : (Jvm.Cond.instanceMethod ({ cls := "NamelessBoxModel", name := "takes", desc := "(II)V" } : Jvm.MethodName)) ∈ cx_G := cx_t6 126 (by decide +kernel) rfl
theorem hw_1327 : (Jvm.Cond.code ({ cls := "NamelessBoxModel", name := "takes", desc := "(II)V" } : Jvm.MethodName) prog_11_method_5_code (4 : Nat) (Option.none : Option Jvm.ClassFile.FieldType)) ∈ cx_G := cx_t6 127 (by decide +kernel) rfl
theorem hw_1328 : (Jvm.Cond.methodLink "NamelessBoxModel" (266 : Nat) ({ cls := "NamelessBoxModel", name := "times", desc := "(II)V" } : Jvm.MethodName)) ∈ cx_G := cx_t6 128 (by decide +kernel) rfl
theorem hw_1330 : (Jvm.Cond.instanceMethod ({ cls := "NamelessBoxModel", name := "times", desc := "(II)V" } : Jvm.MethodName)) ∈ cx_G := cx_t6 130 (by decide +kernel) rfl
theorem hw_1331 : (Jvm.Cond.code ({ cls := "NamelessBoxModel", name := "times", desc := "(II)V" } : Jvm.MethodName) prog_11_method_6_code (8 : Nat) (Option.none : Option Jvm.ClassFile.FieldType)) ∈ cx_G := cx_t6 131 (by decide +kernel) rfl
theorem hw_1332 : (Jvm.Cond.methodLink "NamelessBoxModel" (278 : Nat) ({ cls := "NamelessBoxModel", name := "adds", desc := "(II)V" } : Jvm.MethodName)) ∈ cx_G := cx_t6 132 (by decide +kernel) rfl
theorem hw_1334 : (Jvm.Cond.instanceMethod ({ cls := "NamelessBoxModel", name := "adds", desc := "(II)V" } : Jvm.MethodName)) ∈ cx_G := cx_t6 134 (by decide +kernel) rfl
theorem hw_1335 : (Jvm.Cond.code ({ cls := "NamelessBoxModel", name := "adds", desc := "(II)V" } : Jvm.MethodName) prog_11_method_8_code (7 : Nat) (Option.none : Option Jvm.ClassFile.FieldType)) ∈ cx_G := cx_t6 135 (by decide +kernel) rfl
theorem hw_1336 : (Jvm.Cond.constant "NamelessBoxModel" (24 : Nat) (1073741823 : Int32)) ∈ cx_G := cx_t6 136 (by decide +kernel) rfl
theorem hw_1337 : (Jvm.Cond.methodLink "NamelessBoxModel" (290 : Nat) ({ cls := "NamelessBoxModel", name := "no", desc := "()I" } : Jvm.MethodName)) ∈ cx_G := cx_t6 137 (by decide +kernel) rfl
theorem hw_1339 : (Jvm.Cond.instanceMethod ({ cls := "NamelessBoxModel", name := "no", desc := "()I" } : Jvm.MethodName)) ∈ cx_G := cx_t6 139 (by decide +kernel) rfl
theorem hw_1340 : (Jvm.Cond.code ({ cls := "NamelessBoxModel", name := "no", desc := "()I" } : Jvm.MethodName) prog_11_method_19_code (1 : Nat) (Option.some Jvm.ClassFile.FieldType.int)) ∈ cx_G := cx_t6 140 (by decide +kernel) rfl
theorem hw_1341 : (Jvm.Cond.methodLink "NamelessBoxModel" (293 : Nat) ({ cls := "NamelessBoxModel", name := "tellsHit", desc := "()I" } : Jvm.MethodName)) ∈ cx_G := cx_t6 141 (by decide +kernel) rfl
theorem hw_1343 : (Jvm.Cond.instanceMethod ({ cls := "NamelessBoxModel", name := "tellsHit", desc := "()I" } : Jvm.MethodName)) ∈ cx_G := cx_t6 143 (by decide +kernel) rfl
theorem hw_1344 : (Jvm.Cond.code ({ cls := "NamelessBoxModel", name := "tellsHit", desc := "()I" } : Jvm.MethodName) prog_11_method_60_code (1 : Nat) (Option.some Jvm.ClassFile.FieldType.int)) ∈ cx_G := cx_t6 144 (by decide +kernel) rfl
theorem hw_1345 : (Jvm.Cond.methodLink "NamelessBoxModel" (42 : Nat) ({ cls := "NamelessBoxModel", name := "lowers", desc := "()V" } : Jvm.MethodName)) ∈ cx_G := cx_t6 145 (by decide +kernel) rfl
theorem hw_1347 : (Jvm.Cond.instanceMethod ({ cls := "NamelessBoxModel", name := "lowers", desc := "()V" } : Jvm.MethodName)) ∈ cx_G := cx_t6 147 (by decide +kernel) rfl
theorem hw_1348 : (Jvm.Cond.code ({ cls := "NamelessBoxModel", name := "lowers", desc := "()V" } : Jvm.MethodName) prog_11_method_13_code (2 : Nat) (Option.none : Option Jvm.ClassFile.FieldType)) ∈ cx_G := cx_t6 148 (by decide +kernel) rfl
theorem hw_1349 : (Jvm.Cond.methodLink "NamelessBoxModel" (25 : Nat) ({ cls := "NamelessBoxModel", name := "isEven", desc := "(I)Z" } : Jvm.MethodName)) ∈ cx_G := cx_t6 149 (by decide +kernel) rfl
theorem hw_1351 : (Jvm.Cond.instanceMethod ({ cls := "NamelessBoxModel", name := "isEven", desc := "(I)Z" } : Jvm.MethodName)) ∈ cx_G := cx_t6 151 (by decide +kernel) rfl
theorem hw_1352 : (Jvm.Cond.code ({ cls := "NamelessBoxModel", name := "isEven", desc := "(I)Z" } : Jvm.MethodName) prog_11_method_11_code (2 : Nat) (Option.some Jvm.ClassFile.FieldType.boolean)) ∈ cx_G := cx_t6 152 (by decide +kernel) rfl
theorem hw_1353 : (Jvm.Cond.methodLink "NamelessBoxModel" (29 : Nat) ({ cls := "NamelessBoxModel", name := "halves", desc := "(I)V" } : Jvm.MethodName)) ∈ cx_G := cx_t6 153 (by decide +kernel) rfl
theorem hw_1355 : (Jvm.Cond.instanceMethod ({ cls := "NamelessBoxModel", name := "halves", desc := "(I)V" } : Jvm.MethodName)) ∈ cx_G := cx_t6 155 (by decide +kernel) rfl
theorem hw_1356 : (Jvm.Cond.code ({ cls := "NamelessBoxModel", name := "halves", desc := "(I)V" } : Jvm.MethodName) prog_11_method_12_code (4 : Nat) (Option.none : Option Jvm.ClassFile.FieldType)) ∈ cx_G := cx_t6 156 (by decide +kernel) rfl
theorem hw_1357 : (Jvm.Cond.methodLink "NamelessBoxModel" (32 : Nat) ({ cls := "NamelessBoxModel", name := "against", desc := "(II)I" } : Jvm.MethodName)) ∈ cx_G := cx_t6 157 (by decide +kernel) rfl
theorem hw_1359 : (Jvm.Cond.instanceMethod ({ cls := "NamelessBoxModel", name := "against", desc := "(II)I" } : Jvm.MethodName)) ∈ cx_G := cx_t6 159 (by decide +kernel) rfl
theorem hw_1360 : (Jvm.Cond.code ({ cls := "NamelessBoxModel", name := "against", desc := "(II)I" } : Jvm.MethodName) prog_11_method_10_code (4 : Nat) (Option.some Jvm.ClassFile.FieldType.int)) ∈ cx_G := cx_t6 160 (by decide +kernel) rfl
theorem hw_1361 : (Jvm.Cond.methodLink "NamelessBoxModel" (36 : Nat) ({ cls := "NamelessBoxModel", name := "lessens", desc := "(II)V" } : Jvm.MethodName)) ∈ cx_G := cx_t6 161 (by decide +kernel) rfl
theorem hw_1363 : (Jvm.Cond.instanceMethod ({ cls := "NamelessBoxModel", name := "lessens", desc := "(II)V" } : Jvm.MethodName)) ∈ cx_G := cx_t6 163 (by decide +kernel) rfl
theorem hw_1364 : (Jvm.Cond.code ({ cls := "NamelessBoxModel", name := "lessens", desc := "(II)V" } : Jvm.MethodName) prog_11_method_9_code (6 : Nat) (Option.none : Option Jvm.ClassFile.FieldType)) ∈ cx_G := cx_t6 164 (by decide +kernel) rfl
theorem hw_1365 : (Jvm.Cond.methodLink "NamelessBoxModel" (39 : Nat) ({ cls := "NamelessBoxModel", name := "dividesOdd", desc := "(I)V" } : Jvm.MethodName)) ∈ cx_G := cx_t6 165 (by decide +kernel) rfl
theorem hw_1367 : (Jvm.Cond.instanceMethod ({ cls := "NamelessBoxModel", name := "dividesOdd", desc := "(I)V" } : Jvm.MethodName)) ∈ cx_G := cx_t6 167 (by decide +kernel) rfl
theorem hw_1368 : (Jvm.Cond.code ({ cls := "NamelessBoxModel", name := "dividesOdd", desc := "(I)V" } : Jvm.MethodName) prog_11_method_14_code (13 : Nat) (Option.none : Option Jvm.ClassFile.FieldType)) ∈ cx_G := cx_t6 168 (by decide +kernel) rfl
theorem hw_1369 : (Jvm.Cond.methodLink "NamelessBoxLaw" (85 : Nat) ({ cls := "NamelessBoxModel", name := "named", desc := "(I)I" } : Jvm.MethodName)) ∈ cx_G := cx_t6 169 (by decide +kernel) rfl
theorem hw_1370 : (Jvm.Cond.instanceMethod ({ cls := "NamelessBoxModel", name := "named", desc := "(I)I" } : Jvm.MethodName)) ∈ cx_G := cx_t6 170 (by decide +kernel) rfl
theorem hw_1371 : (Jvm.Cond.selects "NamelessBoxModel" ({ cls := "NamelessBoxModel", name := "named", desc := "(I)I" } : Jvm.MethodName) ({ cls := "NamelessBoxModel", name := "named", desc := "(I)I" } : Jvm.MethodName)) ∈ cx_G := cx_t6 171 (by decide +kernel) rfl
theorem hw_1372 : (Jvm.Cond.code ({ cls := "NamelessBoxModel", name := "named", desc := "(I)I" } : Jvm.MethodName) prog_11_method_64_code (3 : Nat) (Option.some Jvm.ClassFile.FieldType.int)) ∈ cx_G := cx_t6 172 (by decide +kernel) rfl
theorem hw_1373 : (Jvm.Cond.methodLink "NamelessBoxModel" (296 : Nat) ({ cls := "NamelessBoxModel", name := "namedNow", desc := "(I)I" } : Jvm.MethodName)) ∈ cx_G := cx_t6 173 (by decide +kernel) rfl
theorem hw_1375 : (Jvm.Cond.instanceMethod ({ cls := "NamelessBoxModel", name := "namedNow", desc := "(I)I" } : Jvm.MethodName)) ∈ cx_G := cx_t6 175 (by decide +kernel) rfl
theorem hw_1376 : (Jvm.Cond.code ({ cls := "NamelessBoxModel", name := "namedNow", desc := "(I)I" } : Jvm.MethodName) prog_11_method_62_code (4 : Nat) (Option.some Jvm.ClassFile.FieldType.int)) ∈ cx_G := cx_t6 176 (by decide +kernel) rfl
theorem hw_1377 : (Jvm.Cond.methodLink "NamelessBoxLaw" (89 : Nat) ({ cls := "NamelessBoxModel", name := "best", desc := "(I)I" } : Jvm.MethodName)) ∈ cx_G := cx_t6 177 (by decide +kernel) rfl
theorem hw_1378 : (Jvm.Cond.instanceMethod ({ cls := "NamelessBoxModel", name := "best", desc := "(I)I" } : Jvm.MethodName)) ∈ cx_G := cx_t6 178 (by decide +kernel) rfl
theorem hw_1379 : (Jvm.Cond.selects "NamelessBoxModel" ({ cls := "NamelessBoxModel", name := "best", desc := "(I)I" } : Jvm.MethodName) ({ cls := "NamelessBoxModel", name := "best", desc := "(I)I" } : Jvm.MethodName)) ∈ cx_G := cx_t6 179 (by decide +kernel) rfl
theorem hw_1380 : (Jvm.Cond.code ({ cls := "NamelessBoxModel", name := "best", desc := "(I)I" } : Jvm.MethodName) prog_11_method_65_code (5 : Nat) (Option.some Jvm.ClassFile.FieldType.int)) ∈ cx_G := cx_t6 180 (by decide +kernel) rfl
theorem hw_1381 : (Jvm.Cond.methodLink "NamelessBoxLaw" (93 : Nat) ({ cls := "NamelessBoxModel", name := "all", desc := "()I" } : Jvm.MethodName)) ∈ cx_G := cx_t6 181 (by decide +kernel) rfl
theorem hw_1382 : (Jvm.Cond.instanceMethod ({ cls := "NamelessBoxModel", name := "all", desc := "()I" } : Jvm.MethodName)) ∈ cx_G := cx_t6 182 (by decide +kernel) rfl
theorem hw_1383 : (Jvm.Cond.selects "NamelessBoxModel" ({ cls := "NamelessBoxModel", name := "all", desc := "()I" } : Jvm.MethodName) ({ cls := "NamelessBoxModel", name := "all", desc := "()I" } : Jvm.MethodName)) ∈ cx_G := cx_t6 183 (by decide +kernel) rfl
theorem hw_1384 : (Jvm.Cond.code ({ cls := "NamelessBoxModel", name := "all", desc := "()I" } : Jvm.MethodName) prog_11_method_66_code (1 : Nat) (Option.some Jvm.ClassFile.FieldType.int)) ∈ cx_G := cx_t6 184 (by decide +kernel) rfl
theorem hw_1385 : (Jvm.Cond.methodLink "NamelessBoxModel" (299 : Nat) ({ cls := "NamelessBoxModel", name := "sums", desc := "(III)V" } : Jvm.MethodName)) ∈ cx_G := cx_t6 185 (by decide +kernel) rfl
theorem hw_1387 : (Jvm.Cond.instanceMethod ({ cls := "NamelessBoxModel", name := "sums", desc := "(III)V" } : Jvm.MethodName)) ∈ cx_G := cx_t6 187 (by decide +kernel) rfl
theorem hw_1388 : (Jvm.Cond.code ({ cls := "NamelessBoxModel", name := "sums", desc := "(III)V" } : Jvm.MethodName) prog_11_method_59_code (7 : Nat) (Option.none : Option Jvm.ClassFile.FieldType)) ∈ cx_G := cx_t6 188 (by decide +kernel) rfl
theorem hw_1389 : (Jvm.Cond.methodLink "NamelessBoxModel" (281 : Nat) ({ cls := "NamelessBoxModel", name := "counts", desc := "(III)I" } : Jvm.MethodName)) ∈ cx_G := cx_t6 189 (by decide +kernel) rfl
theorem hw_1391 : (Jvm.Cond.instanceMethod ({ cls := "NamelessBoxModel", name := "counts", desc := "(III)I" } : Jvm.MethodName)) ∈ cx_G := cx_t6 191 (by decide +kernel) rfl
theorem hw_1392 : (Jvm.Cond.code ({ cls := "NamelessBoxModel", name := "counts", desc := "(III)I" } : Jvm.MethodName) prog_11_method_58_code (6 : Nat) (Option.some Jvm.ClassFile.FieldType.int)) ∈ cx_G := cx_t6 192 (by decide +kernel) rfl
theorem hw_1393 : (Jvm.Cond.methodLink "NamelessBoxModel" (269 : Nat) ({ cls := "NamelessBoxModel", name := "isOn", desc := "(II)Z" } : Jvm.MethodName)) ∈ cx_G := cx_t6 193 (by decide +kernel) rfl
theorem hw_1395 : (Jvm.Cond.instanceMethod ({ cls := "NamelessBoxModel", name := "isOn", desc := "(II)Z" } : Jvm.MethodName)) ∈ cx_G := cx_t6 195 (by decide +kernel) rfl
theorem hw_1396 : (Jvm.Cond.code ({ cls := "NamelessBoxModel", name := "isOn", desc := "(II)Z" } : Jvm.MethodName) prog_11_method_57_code (5 : Nat) (Option.some Jvm.ClassFile.FieldType.boolean)) ∈ cx_G := cx_t6 196 (by decide +kernel) rfl
theorem hw_1397 : (Jvm.Cond.methodLink "NamelessBoxLaw" (97 : Nat) ({ cls := "NamelessBoxModel", name := "sure", desc := "(I)I" } : Jvm.MethodName)) ∈ cx_G := cx_t6 197 (by decide +kernel) rfl
theorem hw_1398 : (Jvm.Cond.instanceMethod ({ cls := "NamelessBoxModel", name := "sure", desc := "(I)I" } : Jvm.MethodName)) ∈ cx_G := cx_t6 198 (by decide +kernel) rfl
theorem hw_1399 : (Jvm.Cond.selects "NamelessBoxModel" ({ cls := "NamelessBoxModel", name := "sure", desc := "(I)I" } : Jvm.MethodName) ({ cls := "NamelessBoxModel", name := "sure", desc := "(I)I" } : Jvm.MethodName)) ∈ cx_G := cx_t6 199 (by decide +kernel) rfl
theorem hw_1400 : (Jvm.Cond.code ({ cls := "NamelessBoxModel", name := "sure", desc := "(I)I" } : Jvm.MethodName) prog_11_method_68_code (4 : Nat) (Option.some Jvm.ClassFile.FieldType.int)) ∈ cx_G := cx_t6 200 (by decide +kernel) rfl
theorem hw_1401 : (Jvm.Cond.methodLink "NamelessBoxModel" (303 : Nat) ({ cls := "NamelessBoxModel", name := "isSure", desc := "(II)Z" } : Jvm.MethodName)) ∈ cx_G := cx_t6 201 (by decide +kernel) rfl
theorem hw_1403 : (Jvm.Cond.instanceMethod ({ cls := "NamelessBoxModel", name := "isSure", desc := "(II)Z" } : Jvm.MethodName)) ∈ cx_G := cx_t6 203 (by decide +kernel) rfl
theorem hw_1404 : (Jvm.Cond.code ({ cls := "NamelessBoxModel", name := "isSure", desc := "(II)Z" } : Jvm.MethodName) prog_11_method_67_code (3 : Nat) (Option.some Jvm.ClassFile.FieldType.boolean)) ∈ cx_G := cx_t6 204 (by decide +kernel) rfl
theorem hw_1405 : (Jvm.Cond.methodLink "NamelessBoxLaw" (101 : Nat) ({ cls := "NamelessBoxModel", name := "falls", desc := "(II)I" } : Jvm.MethodName)) ∈ cx_G := cx_t6 205 (by decide +kernel) rfl
theorem hw_1406 : (Jvm.Cond.instanceMethod ({ cls := "NamelessBoxModel", name := "falls", desc := "(II)I" } : Jvm.MethodName)) ∈ cx_G := cx_t6 206 (by decide +kernel) rfl
theorem hw_1407 : (Jvm.Cond.selects "NamelessBoxModel" ({ cls := "NamelessBoxModel", name := "falls", desc := "(II)I" } : Jvm.MethodName) ({ cls := "NamelessBoxModel", name := "falls", desc := "(II)I" } : Jvm.MethodName)) ∈ cx_G := cx_t6 207 (by decide +kernel) rfl
theorem hw_1408 : (Jvm.Cond.code ({ cls := "NamelessBoxModel", name := "falls", desc := "(II)I" } : Jvm.MethodName) prog_11_method_69_code (6 : Nat) (Option.some Jvm.ClassFile.FieldType.int)) ∈ cx_G := cx_t6 208 (by decide +kernel) rfl
theorem hw_1409 : (Jvm.Cond.methodLink "NamelessBoxLaw" (105 : Nat) ({ cls := "NamelessBoxModel", name := "same", desc := "(II)I" } : Jvm.MethodName)) ∈ cx_G := cx_t6 209 (by decide +kernel) rfl
theorem hw_1410 : (Jvm.Cond.instanceMethod ({ cls := "NamelessBoxModel", name := "same", desc := "(II)I" } : Jvm.MethodName)) ∈ cx_G := cx_t6 210 (by decide +kernel) rfl
theorem hw_1411 : (Jvm.Cond.selects "NamelessBoxModel" ({ cls := "NamelessBoxModel", name := "same", desc := "(II)I" } : Jvm.MethodName) ({ cls := "NamelessBoxModel", name := "same", desc := "(II)I" } : Jvm.MethodName)) ∈ cx_G := cx_t6 211 (by decide +kernel) rfl
theorem hw_1412 : (Jvm.Cond.code ({ cls := "NamelessBoxModel", name := "same", desc := "(II)I" } : Jvm.MethodName) prog_11_method_71_code (3 : Nat) (Option.some Jvm.ClassFile.FieldType.int)) ∈ cx_G := cx_t6 212 (by decide +kernel) rfl
theorem hw_1413 : (Jvm.Cond.methodLink "NamelessBoxModel" (306 : Nat) ({ cls := "NamelessBoxModel", name := "asks", desc := "(III)I" } : Jvm.MethodName)) ∈ cx_G := cx_t6 213 (by decide +kernel) rfl
theorem hw_1415 : (Jvm.Cond.instanceMethod ({ cls := "NamelessBoxModel", name := "asks", desc := "(III)I" } : Jvm.MethodName)) ∈ cx_G := cx_t6 215 (by decide +kernel) rfl
theorem hw_1416 : (Jvm.Cond.code ({ cls := "NamelessBoxModel", name := "asks", desc := "(III)I" } : Jvm.MethodName) prog_11_method_70_code (4 : Nat) (Option.some Jvm.ClassFile.FieldType.int)) ∈ cx_G := cx_t6 216 (by decide +kernel) rfl
theorem hw_1417 : (Jvm.Cond.methodLink "NamelessBoxLaw" (109 : Nat) ({ cls := "NamelessBoxModel", name := "noneOf", desc := "(I)I" } : Jvm.MethodName)) ∈ cx_G := cx_t6 217 (by decide +kernel) rfl
theorem hw_1418 : (Jvm.Cond.instanceMethod ({ cls := "NamelessBoxModel", name := "noneOf", desc := "(I)I" } : Jvm.MethodName)) ∈ cx_G := cx_t6 218 (by decide +kernel) rfl
theorem hw_1419 : (Jvm.Cond.selects "NamelessBoxModel" ({ cls := "NamelessBoxModel", name := "noneOf", desc := "(I)I" } : Jvm.MethodName) ({ cls := "NamelessBoxModel", name := "noneOf", desc := "(I)I" } : Jvm.MethodName)) ∈ cx_G := cx_t6 219 (by decide +kernel) rfl
theorem hw_1420 : (Jvm.Cond.code ({ cls := "NamelessBoxModel", name := "noneOf", desc := "(I)I" } : Jvm.MethodName) prog_11_method_72_code (2 : Nat) (Option.some Jvm.ClassFile.FieldType.int)) ∈ cx_G := cx_t6 220 (by decide +kernel) rfl
theorem hw_1421 : (Jvm.Cond.methodLink "NamelessBoxLaw" (113 : Nat) ({ cls := "NamelessBoxModel", name := "friend", desc := "(I)I" } : Jvm.MethodName)) ∈ cx_G := cx_t6 221 (by decide +kernel) rfl
theorem hw_1422 : (Jvm.Cond.instanceMethod ({ cls := "NamelessBoxModel", name := "friend", desc := "(I)I" } : Jvm.MethodName)) ∈ cx_G := cx_t6 222 (by decide +kernel) rfl
theorem hw_1423 : (Jvm.Cond.selects "NamelessBoxModel" ({ cls := "NamelessBoxModel", name := "friend", desc := "(I)I" } : Jvm.MethodName) ({ cls := "NamelessBoxModel", name := "friend", desc := "(I)I" } : Jvm.MethodName)) ∈ cx_G := cx_t6 223 (by decide +kernel) rfl
theorem hw_1424 : (Jvm.Cond.code ({ cls := "NamelessBoxModel", name := "friend", desc := "(I)I" } : Jvm.MethodName) prog_11_method_73_code (2 : Nat) (Option.some Jvm.ClassFile.FieldType.int)) ∈ cx_G := cx_t6 224 (by decide +kernel) rfl
theorem hw_1425 : (Jvm.Cond.methodLink "NamelessBoxLaw" (117 : Nat) ({ cls := "NamelessBoxModel", name := "of", desc := "(II)I" } : Jvm.MethodName)) ∈ cx_G := cx_t6 225 (by decide +kernel) rfl
theorem hw_1426 : (Jvm.Cond.instanceMethod ({ cls := "NamelessBoxModel", name := "of", desc := "(II)I" } : Jvm.MethodName)) ∈ cx_G := cx_t6 226 (by decide +kernel) rfl
theorem hw_1427 : (Jvm.Cond.selects "NamelessBoxModel" ({ cls := "NamelessBoxModel", name := "of", desc := "(II)I" } : Jvm.MethodName) ({ cls := "NamelessBoxModel", name := "of", desc := "(II)I" } : Jvm.MethodName)) ∈ cx_G := cx_t6 227 (by decide +kernel) rfl
theorem hw_1428 : (Jvm.Cond.code ({ cls := "NamelessBoxModel", name := "of", desc := "(II)I" } : Jvm.MethodName) prog_11_method_74_code (3 : Nat) (Option.some Jvm.ClassFile.FieldType.int)) ∈ cx_G := cx_t6 228 (by decide +kernel) rfl
theorem hw_1429 : (Jvm.Cond.methodLink "NamelessBoxLaw" (121 : Nat) ({ cls := "NamelessBoxModel", name := "when", desc := "(II)I" } : Jvm.MethodName)) ∈ cx_G := cx_t6 229 (by decide +kernel) rfl
theorem hw_1430 : (Jvm.Cond.instanceMethod ({ cls := "NamelessBoxModel", name := "when", desc := "(II)I" } : Jvm.MethodName)) ∈ cx_G := cx_t6 230 (by decide +kernel) rfl
theorem hw_1431 : (Jvm.Cond.selects "NamelessBoxModel" ({ cls := "NamelessBoxModel", name := "when", desc := "(II)I" } : Jvm.MethodName) ({ cls := "NamelessBoxModel", name := "when", desc := "(II)I" } : Jvm.MethodName)) ∈ cx_G := cx_t6 231 (by decide +kernel) rfl
theorem hw_1432 : (Jvm.Cond.code ({ cls := "NamelessBoxModel", name := "when", desc := "(II)I" } : Jvm.MethodName) prog_11_method_76_code (3 : Nat) (Option.some Jvm.ClassFile.FieldType.int)) ∈ cx_G := cx_t6 232 (by decide +kernel) rfl
theorem hw_1433 : (Jvm.Cond.methodLink "NamelessBoxModel" (309 : Nat) ({ cls := "NamelessBoxModel", name := "years2", desc := "(IIII)Z" } : Jvm.MethodName)) ∈ cx_G := cx_t6 233 (by decide +kernel) rfl
theorem hw_1435 : (Jvm.Cond.instanceMethod ({ cls := "NamelessBoxModel", name := "years2", desc := "(IIII)Z" } : Jvm.MethodName)) ∈ cx_G := cx_t6 235 (by decide +kernel) rfl
theorem hw_1436 : (Jvm.Cond.code ({ cls := "NamelessBoxModel", name := "years2", desc := "(IIII)Z" } : Jvm.MethodName) prog_11_method_75_code (5 : Nat) (Option.some Jvm.ClassFile.FieldType.boolean)) ∈ cx_G := cx_t6 236 (by decide +kernel) rfl
theorem hw_1437 : (Jvm.Cond.methodLink "NamelessBoxLaw" (125 : Nat) ({ cls := "NamelessBoxModel", name := "span", desc := "(II)I" } : Jvm.MethodName)) ∈ cx_G := cx_t6 237 (by decide +kernel) rfl
theorem hw_1438 : (Jvm.Cond.instanceMethod ({ cls := "NamelessBoxModel", name := "span", desc := "(II)I" } : Jvm.MethodName)) ∈ cx_G := cx_t6 238 (by decide +kernel) rfl
theorem hw_1439 : (Jvm.Cond.selects "NamelessBoxModel" ({ cls := "NamelessBoxModel", name := "span", desc := "(II)I" } : Jvm.MethodName) ({ cls := "NamelessBoxModel", name := "span", desc := "(II)I" } : Jvm.MethodName)) ∈ cx_G := cx_t6 239 (by decide +kernel) rfl
theorem hw_1440 : (Jvm.Cond.code ({ cls := "NamelessBoxModel", name := "span", desc := "(II)I" } : Jvm.MethodName) prog_11_method_77_code (6 : Nat) (Option.some Jvm.ClassFile.FieldType.int)) ∈ cx_G := cx_t7 0 (by decide +kernel) rfl
theorem hw_1441 : (Jvm.Cond.methodLink "NamelessBoxLaw" (129 : Nat) ({ cls := "NamelessBoxModel", name := "ahead", desc := "(II)I" } : Jvm.MethodName)) ∈ cx_G := cx_t7 1 (by decide +kernel) rfl
theorem hw_1442 : (Jvm.Cond.instanceMethod ({ cls := "NamelessBoxModel", name := "ahead", desc := "(II)I" } : Jvm.MethodName)) ∈ cx_G := cx_t7 2 (by decide +kernel) rfl
theorem hw_1443 : (Jvm.Cond.selects "NamelessBoxModel" ({ cls := "NamelessBoxModel", name := "ahead", desc := "(II)I" } : Jvm.MethodName) ({ cls := "NamelessBoxModel", name := "ahead", desc := "(II)I" } : Jvm.MethodName)) ∈ cx_G := cx_t7 3 (by decide +kernel) rfl
theorem hw_1444 : (Jvm.Cond.code ({ cls := "NamelessBoxModel", name := "ahead", desc := "(II)I" } : Jvm.MethodName) prog_11_method_78_code (3 : Nat) (Option.some Jvm.ClassFile.FieldType.int)) ∈ cx_G := cx_t7 4 (by decide +kernel) rfl
theorem hw_1445 : (Jvm.Cond.methodLink "NamelessBoxLaw" (133 : Nat) ({ cls := "NamelessBoxModel", name := "parts", desc := "(II)I" } : Jvm.MethodName)) ∈ cx_G := cx_t7 5 (by decide +kernel) rfl
theorem hw_1446 : (Jvm.Cond.instanceMethod ({ cls := "NamelessBoxModel", name := "parts", desc := "(II)I" } : Jvm.MethodName)) ∈ cx_G := cx_t7 6 (by decide +kernel) rfl
theorem hw_1447 : (Jvm.Cond.selects "NamelessBoxModel" ({ cls := "NamelessBoxModel", name := "parts", desc := "(II)I" } : Jvm.MethodName) ({ cls := "NamelessBoxModel", name := "parts", desc := "(II)I" } : Jvm.MethodName)) ∈ cx_G := cx_t7 7 (by decide +kernel) rfl
theorem hw_1448 : (Jvm.Cond.code ({ cls := "NamelessBoxModel", name := "parts", desc := "(II)I" } : Jvm.MethodName) prog_11_method_79_code (6 : Nat) (Option.some Jvm.ClassFile.FieldType.int)) ∈ cx_G := cx_t7 8 (by decide +kernel) rfl
theorem hw_1449 : (Jvm.Cond.methodLink "NamelessBoxLaw" (137 : Nat) ({ cls := "NamelessBoxModel", name := "doubt", desc := "(II)I" } : Jvm.MethodName)) ∈ cx_G := cx_t7 9 (by decide +kernel) rfl
theorem hw_1450 : (Jvm.Cond.instanceMethod ({ cls := "NamelessBoxModel", name := "doubt", desc := "(II)I" } : Jvm.MethodName)) ∈ cx_G := cx_t7 10 (by decide +kernel) rfl
theorem hw_1451 : (Jvm.Cond.selects "NamelessBoxModel" ({ cls := "NamelessBoxModel", name := "doubt", desc := "(II)I" } : Jvm.MethodName) ({ cls := "NamelessBoxModel", name := "doubt", desc := "(II)I" } : Jvm.MethodName)) ∈ cx_G := cx_t7 11 (by decide +kernel) rfl
theorem hw_1452 : (Jvm.Cond.code ({ cls := "NamelessBoxModel", name := "doubt", desc := "(II)I" } : Jvm.MethodName) prog_11_method_80_code (6 : Nat) (Option.some Jvm.ClassFile.FieldType.int)) ∈ cx_G := cx_t7 12 (by decide +kernel) rfl
theorem hw_1453 : (Jvm.Cond.methodLink "NamelessBoxLaw" (141 : Nat) ({ cls := "NamelessBoxModel", name := "right", desc := "()I" } : Jvm.MethodName)) ∈ cx_G := cx_t7 13 (by decide +kernel) rfl
theorem hw_1454 : (Jvm.Cond.instanceMethod ({ cls := "NamelessBoxModel", name := "right", desc := "()I" } : Jvm.MethodName)) ∈ cx_G := cx_t7 14 (by decide +kernel) rfl
theorem hw_1455 : (Jvm.Cond.selects "NamelessBoxModel" ({ cls := "NamelessBoxModel", name := "right", desc := "()I" } : Jvm.MethodName) ({ cls := "NamelessBoxModel", name := "right", desc := "()I" } : Jvm.MethodName)) ∈ cx_G := cx_t7 15 (by decide +kernel) rfl
theorem hw_1456 : (Jvm.Cond.code ({ cls := "NamelessBoxModel", name := "right", desc := "()I" } : Jvm.MethodName) prog_11_method_82_code (1 : Nat) (Option.some Jvm.ClassFile.FieldType.int)) ∈ cx_G := cx_t7 16 (by decide +kernel) rfl
theorem hw_1457 : (Jvm.Cond.methodLink "NamelessBoxModel" (313 : Nat) ({ cls := "NamelessBoxModel", name := "rights", desc := "(I)V" } : Jvm.MethodName)) ∈ cx_G := cx_t7 17 (by decide +kernel) rfl
theorem hw_1459 : (Jvm.Cond.instanceMethod ({ cls := "NamelessBoxModel", name := "rights", desc := "(I)V" } : Jvm.MethodName)) ∈ cx_G := cx_t7 19 (by decide +kernel) rfl
theorem hw_1460 : (Jvm.Cond.code ({ cls := "NamelessBoxModel", name := "rights", desc := "(I)V" } : Jvm.MethodName) prog_11_method_81_code (3 : Nat) (Option.none : Option Jvm.ClassFile.FieldType)) ∈ cx_G := cx_t7 20 (by decide +kernel) rfl
theorem hw_1461 : (Jvm.Cond.methodLink "NamelessBoxLaw" (145 : Nat) ({ cls := "NamelessBoxModel", name := "ask", desc := "(I)I" } : Jvm.MethodName)) ∈ cx_G := cx_t7 21 (by decide +kernel) rfl
theorem hw_1462 : (Jvm.Cond.instanceMethod ({ cls := "NamelessBoxModel", name := "ask", desc := "(I)I" } : Jvm.MethodName)) ∈ cx_G := cx_t7 22 (by decide +kernel) rfl
theorem hw_1463 : (Jvm.Cond.selects "NamelessBoxModel" ({ cls := "NamelessBoxModel", name := "ask", desc := "(I)I" } : Jvm.MethodName) ({ cls := "NamelessBoxModel", name := "ask", desc := "(I)I" } : Jvm.MethodName)) ∈ cx_G := cx_t7 23 (by decide +kernel) rfl
theorem hw_1464 : (Jvm.Cond.code ({ cls := "NamelessBoxModel", name := "ask", desc := "(I)I" } : Jvm.MethodName) prog_11_method_87_code (2 : Nat) (Option.some Jvm.ClassFile.FieldType.int)) ∈ cx_G := cx_t7 24 (by decide +kernel) rfl
theorem hw_1465 : (Jvm.Cond.methodLink "NamelessBoxModel" (322 : Nat) ({ cls := "NamelessBoxModel", name := "worths", desc := "(I)Z" } : Jvm.MethodName)) ∈ cx_G := cx_t7 25 (by decide +kernel) rfl
theorem hw_1467 : (Jvm.Cond.instanceMethod ({ cls := "NamelessBoxModel", name := "worths", desc := "(I)Z" } : Jvm.MethodName)) ∈ cx_G := cx_t7 27 (by decide +kernel) rfl
theorem hw_1468 : (Jvm.Cond.code ({ cls := "NamelessBoxModel", name := "worths", desc := "(I)Z" } : Jvm.MethodName) prog_11_method_85_code (5 : Nat) (Option.some Jvm.ClassFile.FieldType.boolean)) ∈ cx_G := cx_t7 28 (by decide +kernel) rfl
theorem hw_1469 : (Jvm.Cond.methodLink "NamelessBoxModel" (319 : Nat) ({ cls := "NamelessBoxModel", name := "addsGreatest", desc := "(II)V" } : Jvm.MethodName)) ∈ cx_G := cx_t7 29 (by decide +kernel) rfl
theorem hw_1471 : (Jvm.Cond.instanceMethod ({ cls := "NamelessBoxModel", name := "addsGreatest", desc := "(II)V" } : Jvm.MethodName)) ∈ cx_G := cx_t7 31 (by decide +kernel) rfl
theorem hw_1472 : (Jvm.Cond.code ({ cls := "NamelessBoxModel", name := "addsGreatest", desc := "(II)V" } : Jvm.MethodName) prog_11_method_84_code (6 : Nat) (Option.none : Option Jvm.ClassFile.FieldType)) ∈ cx_G := cx_t7 32 (by decide +kernel) rfl
theorem hw_1473 : (Jvm.Cond.methodLink "NamelessBoxModel" (316 : Nat) ({ cls := "NamelessBoxModel", name := "truthAbout", desc := "(I)I" } : Jvm.MethodName)) ∈ cx_G := cx_t7 33 (by decide +kernel) rfl
theorem hw_1475 : (Jvm.Cond.instanceMethod ({ cls := "NamelessBoxModel", name := "truthAbout", desc := "(I)I" } : Jvm.MethodName)) ∈ cx_G := cx_t7 35 (by decide +kernel) rfl
theorem hw_1476 : (Jvm.Cond.code ({ cls := "NamelessBoxModel", name := "truthAbout", desc := "(I)I" } : Jvm.MethodName) prog_11_method_83_code (2 : Nat) (Option.some Jvm.ClassFile.FieldType.int)) ∈ cx_G := cx_t7 36 (by decide +kernel) rfl
theorem hw_1477 : (Jvm.Cond.methodLink "NamelessBoxModel" (325 : Nat) ({ cls := "NamelessBoxModel", name := "tellsWorth", desc := "(I)I" } : Jvm.MethodName)) ∈ cx_G := cx_t7 37 (by decide +kernel) rfl
theorem hw_1479 : (Jvm.Cond.instanceMethod ({ cls := "NamelessBoxModel", name := "tellsWorth", desc := "(I)I" } : Jvm.MethodName)) ∈ cx_G := cx_t7 39 (by decide +kernel) rfl
theorem hw_1480 : (Jvm.Cond.code ({ cls := "NamelessBoxModel", name := "tellsWorth", desc := "(I)I" } : Jvm.MethodName) prog_11_method_86_code (2 : Nat) (Option.some Jvm.ClassFile.FieldType.int)) ∈ cx_G := cx_t7 40 (by decide +kernel) rfl
theorem hw_1481 : (Jvm.Cond.methodLink "NamelessBoxLaw" (149 : Nat) ({ cls := "NamelessBoxModel", name := "next", desc := "()I" } : Jvm.MethodName)) ∈ cx_G := cx_t7 41 (by decide +kernel) rfl
theorem hw_1482 : (Jvm.Cond.instanceMethod ({ cls := "NamelessBoxModel", name := "next", desc := "()I" } : Jvm.MethodName)) ∈ cx_G := cx_t7 42 (by decide +kernel) rfl
theorem hw_1483 : (Jvm.Cond.selects "NamelessBoxModel" ({ cls := "NamelessBoxModel", name := "next", desc := "()I" } : Jvm.MethodName) ({ cls := "NamelessBoxModel", name := "next", desc := "()I" } : Jvm.MethodName)) ∈ cx_G := cx_t7 43 (by decide +kernel) rfl
theorem hw_1484 : (Jvm.Cond.code ({ cls := "NamelessBoxModel", name := "next", desc := "()I" } : Jvm.MethodName) prog_11_method_88_code (3 : Nat) (Option.some Jvm.ClassFile.FieldType.int)) ∈ cx_G := cx_t7 44 (by decide +kernel) rfl
theorem hw_1485 : (Jvm.Cond.methodLink "NamelessBoxLaw" (153 : Nat) ({ cls := "NamelessBoxModel", name := "sign", desc := "(I)I" } : Jvm.MethodName)) ∈ cx_G := cx_t7 45 (by decide +kernel) rfl
theorem hw_1486 : (Jvm.Cond.instanceMethod ({ cls := "NamelessBoxModel", name := "sign", desc := "(I)I" } : Jvm.MethodName)) ∈ cx_G := cx_t7 46 (by decide +kernel) rfl
theorem hw_1487 : (Jvm.Cond.selects "NamelessBoxModel" ({ cls := "NamelessBoxModel", name := "sign", desc := "(I)I" } : Jvm.MethodName) ({ cls := "NamelessBoxModel", name := "sign", desc := "(I)I" } : Jvm.MethodName)) ∈ cx_G := cx_t7 47 (by decide +kernel) rfl
theorem hw_1488 : (Jvm.Cond.code ({ cls := "NamelessBoxModel", name := "sign", desc := "(I)I" } : Jvm.MethodName) prog_11_method_90_code (2 : Nat) (Option.some Jvm.ClassFile.FieldType.int)) ∈ cx_G := cx_t7 48 (by decide +kernel) rfl
theorem hw_1489 : (Jvm.Cond.methodLink "NamelessBoxModel" (328 : Nat) ({ cls := "NamelessBoxModel", name := "signNow", desc := "()I" } : Jvm.MethodName)) ∈ cx_G := cx_t7 49 (by decide +kernel) rfl
theorem hw_1491 : (Jvm.Cond.instanceMethod ({ cls := "NamelessBoxModel", name := "signNow", desc := "()I" } : Jvm.MethodName)) ∈ cx_G := cx_t7 51 (by decide +kernel) rfl
theorem hw_1492 : (Jvm.Cond.code ({ cls := "NamelessBoxModel", name := "signNow", desc := "()I" } : Jvm.MethodName) prog_11_method_89_code (1 : Nat) (Option.some Jvm.ClassFile.FieldType.int)) ∈ cx_G := cx_t7 52 (by decide +kernel) rfl
theorem hw_1493 : (Jvm.Cond.methodLink "NamelessBoxLaw" (157 : Nat) ({ cls := "NamelessBoxModel", name := "limb", desc := "(II)I" } : Jvm.MethodName)) ∈ cx_G := cx_t7 53 (by decide +kernel) rfl
theorem hw_1494 : (Jvm.Cond.instanceMethod ({ cls := "NamelessBoxModel", name := "limb", desc := "(II)I" } : Jvm.MethodName)) ∈ cx_G := cx_t7 54 (by decide +kernel) rfl
theorem hw_1495 : (Jvm.Cond.selects "NamelessBoxModel" ({ cls := "NamelessBoxModel", name := "limb", desc := "(II)I" } : Jvm.MethodName) ({ cls := "NamelessBoxModel", name := "limb", desc := "(II)I" } : Jvm.MethodName)) ∈ cx_G := cx_t7 55 (by decide +kernel) rfl
theorem hw_1496 : (Jvm.Cond.code ({ cls := "NamelessBoxModel", name := "limb", desc := "(II)I" } : Jvm.MethodName) prog_11_method_91_code (3 : Nat) (Option.some Jvm.ClassFile.FieldType.int)) ∈ cx_G := cx_t7 56 (by decide +kernel) rfl
theorem hw_1497 : (Jvm.Cond.methodLink "NamelessBoxLaw" (161 : Nat) ({ cls := "NamelessBoxModel", name := "image", desc := "(I)I" } : Jvm.MethodName)) ∈ cx_G := cx_t7 57 (by decide +kernel) rfl
theorem hw_1498 : (Jvm.Cond.instanceMethod ({ cls := "NamelessBoxModel", name := "image", desc := "(I)I" } : Jvm.MethodName)) ∈ cx_G := cx_t7 58 (by decide +kernel) rfl
theorem hw_1499 : (Jvm.Cond.selects "NamelessBoxModel" ({ cls := "NamelessBoxModel", name := "image", desc := "(I)I" } : Jvm.MethodName) ({ cls := "NamelessBoxModel", name := "image", desc := "(I)I" } : Jvm.MethodName)) ∈ cx_G := cx_t7 59 (by decide +kernel) rfl
theorem hw_1500 : (Jvm.Cond.code ({ cls := "NamelessBoxModel", name := "image", desc := "(I)I" } : Jvm.MethodName) prog_11_method_92_code (3 : Nat) (Option.some Jvm.ClassFile.FieldType.int)) ∈ cx_G := cx_t7 60 (by decide +kernel) rfl
theorem hw_1501 : (Jvm.Cond.methodLink "NamelessBoxLaw" (165 : Nat) ({ cls := "NamelessBoxModel", name := "from", desc := "(I)I" } : Jvm.MethodName)) ∈ cx_G := cx_t7 61 (by decide +kernel) rfl
theorem hw_1502 : (Jvm.Cond.instanceMethod ({ cls := "NamelessBoxModel", name := "from", desc := "(I)I" } : Jvm.MethodName)) ∈ cx_G := cx_t7 62 (by decide +kernel) rfl
theorem hw_1503 : (Jvm.Cond.selects "NamelessBoxModel" ({ cls := "NamelessBoxModel", name := "from", desc := "(I)I" } : Jvm.MethodName) ({ cls := "NamelessBoxModel", name := "from", desc := "(I)I" } : Jvm.MethodName)) ∈ cx_G := cx_t7 63 (by decide +kernel) rfl
theorem hw_1504 : (Jvm.Cond.code ({ cls := "NamelessBoxModel", name := "from", desc := "(I)I" } : Jvm.MethodName) prog_11_method_93_code (3 : Nat) (Option.some Jvm.ClassFile.FieldType.int)) ∈ cx_G := cx_t7 64 (by decide +kernel) rfl
theorem hw_1505 : (Jvm.Cond.methodLink "NamelessBoxLaw" (169 : Nat) ({ cls := "NamelessBoxModel", name := "status", desc := "(I)I" } : Jvm.MethodName)) ∈ cx_G := cx_t7 65 (by decide +kernel) rfl
theorem hw_1506 : (Jvm.Cond.instanceMethod ({ cls := "NamelessBoxModel", name := "status", desc := "(I)I" } : Jvm.MethodName)) ∈ cx_G := cx_t7 66 (by decide +kernel) rfl
theorem hw_1507 : (Jvm.Cond.selects "NamelessBoxModel" ({ cls := "NamelessBoxModel", name := "status", desc := "(I)I" } : Jvm.MethodName) ({ cls := "NamelessBoxModel", name := "status", desc := "(I)I" } : Jvm.MethodName)) ∈ cx_G := cx_t7 67 (by decide +kernel) rfl
theorem hw_1508 : (Jvm.Cond.code ({ cls := "NamelessBoxModel", name := "status", desc := "(I)I" } : Jvm.MethodName) prog_11_method_94_code (2 : Nat) (Option.some Jvm.ClassFile.FieldType.int)) ∈ cx_G := cx_t7 68 (by decide +kernel) rfl
theorem hw_1509 : (Jvm.Cond.constantLong "NamelessBoxModel" (331 : Nat) (2 : Int64)) ∈ cx_G := cx_t7 69 (by decide +kernel) rfl
theorem hw_1510 : (Jvm.Cond.methodLink "NamelessBoxLaw" (173 : Nat) ({ cls := "NamelessBoxModel", name := "count", desc := "(I)I" } : Jvm.MethodName)) ∈ cx_G := cx_t7 70 (by decide +kernel) rfl
theorem hw_1511 : (Jvm.Cond.instanceMethod ({ cls := "NamelessBoxModel", name := "count", desc := "(I)I" } : Jvm.MethodName)) ∈ cx_G := cx_t7 71 (by decide +kernel) rfl
theorem hw_1512 : (Jvm.Cond.selects "NamelessBoxModel" ({ cls := "NamelessBoxModel", name := "count", desc := "(I)I" } : Jvm.MethodName) ({ cls := "NamelessBoxModel", name := "count", desc := "(I)I" } : Jvm.MethodName)) ∈ cx_G := cx_t7 72 (by decide +kernel) rfl
theorem hw_1513 : (Jvm.Cond.code ({ cls := "NamelessBoxModel", name := "count", desc := "(I)I" } : Jvm.MethodName) prog_11_method_96_code (2 : Nat) (Option.some Jvm.ClassFile.FieldType.int)) ∈ cx_G := cx_t7 73 (by decide +kernel) rfl
theorem hw_1514 : (Jvm.Cond.methodLink "NamelessBoxModel" (333 : Nat) ({ cls := "NamelessBoxModel", name := "countOf", desc := "(I)I" } : Jvm.MethodName)) ∈ cx_G := cx_t7 74 (by decide +kernel) rfl
theorem hw_1516 : (Jvm.Cond.instanceMethod ({ cls := "NamelessBoxModel", name := "countOf", desc := "(I)I" } : Jvm.MethodName)) ∈ cx_G := cx_t7 76 (by decide +kernel) rfl
theorem hw_1517 : (Jvm.Cond.code ({ cls := "NamelessBoxModel", name := "countOf", desc := "(I)I" } : Jvm.MethodName) prog_11_method_95_code (2 : Nat) (Option.some Jvm.ClassFile.FieldType.int)) ∈ cx_G := cx_t7 77 (by decide +kernel) rfl
theorem hw_1518 : (Jvm.Cond.methodLink "NamelessBoxLaw" (178 : Nat) ({ cls := "NamelessBoxModel", name := "digest", desc := "()J" } : Jvm.MethodName)) ∈ cx_G := cx_t7 78 (by decide +kernel) rfl
theorem hw_1519 : (Jvm.Cond.instanceMethod ({ cls := "NamelessBoxModel", name := "digest", desc := "()J" } : Jvm.MethodName)) ∈ cx_G := cx_t7 79 (by decide +kernel) rfl
theorem hw_1520 : (Jvm.Cond.selects "NamelessBoxModel" ({ cls := "NamelessBoxModel", name := "digest", desc := "()J" } : Jvm.MethodName) ({ cls := "NamelessBoxModel", name := "digest", desc := "()J" } : Jvm.MethodName)) ∈ cx_G := cx_t7 80 (by decide +kernel) rfl
theorem hw_1521 : (Jvm.Cond.code ({ cls := "NamelessBoxModel", name := "digest", desc := "()J" } : Jvm.MethodName) prog_11_method_98_code (5 : Nat) (Option.some Jvm.ClassFile.FieldType.long)) ∈ cx_G := cx_t7 81 (by decide +kernel) rfl
theorem hw_1522 : (Jvm.Cond.constantLong "NamelessBoxModel" (338 : Nat) (661 : Int64)) ∈ cx_G := cx_t7 82 (by decide +kernel) rfl
theorem hw_1523 : (Jvm.Cond.constantLong "NamelessBoxModel" (336 : Nat) (31 : Int64)) ∈ cx_G := cx_t7 83 (by decide +kernel) rfl
theorem hw_1524 : (Jvm.Cond.methodLink "NamelessBoxModel" (340 : Nat) ({ cls := "NamelessBoxModel", name := "mixed", desc := "(JII)J" } : Jvm.MethodName)) ∈ cx_G := cx_t7 84 (by decide +kernel) rfl
theorem hw_1526 : (Jvm.Cond.instanceMethod ({ cls := "NamelessBoxModel", name := "mixed", desc := "(JII)J" } : Jvm.MethodName)) ∈ cx_G := cx_t7 86 (by decide +kernel) rfl
theorem hw_1527 : (Jvm.Cond.code ({ cls := "NamelessBoxModel", name := "mixed", desc := "(JII)J" } : Jvm.MethodName) prog_11_method_97_code (8 : Nat) (Option.some Jvm.ClassFile.FieldType.long)) ∈ cx_G := cx_t7 87 (by decide +kernel) rfl
theorem hw_1528 : (Jvm.Cond.constantLong "NamelessBoxLaw" (62 : Nat) (4294967295 : Int64)) ∈ cx_G := cx_t7 88 (by decide +kernel) rfl
theorem hw_1529 : (Jvm.Cond.fieldLink "java/lang/String" (9 : Nat) "java/lang/String" "value" "[B") ∈ cx_G := cx_t7 89 (by decide +kernel) rfl
theorem hw_1530 : (Jvm.Cond.fieldLink "java/lang/String" (15 : Nat) "java/lang/String" "coder" "B") ∈ cx_G := cx_t7 90 (by decide +kernel) rfl
end
section
section CXB
variable {p : Program} {l : Launch} {e : Env} {R : Room} {s : State} {m : MethodId} {args : Array Value} {below : List Frame} {meth : Method} {c : Code} {A : Nat → Prop} {D : va_G} {nL cells slots : Nat} {Q : State → Prop} {pc : Nat} {lv : List (Nat × Value)} {st : List Value} {ws : va_W}
theorem cx_lv {lv' : List (Nat × Value)} (ks : List Nat) (hp : lv_pick lv ks = lv') (h : cx_S p l e R s m args below meth c A D nL cells slots Q pc lv' st ws) : cx_S p l e R s m args below meth c A D nL cells slots Q pc lv st ws := fun H locs ls hP hD hS hl => h H locs ls hP hD hS (lv_sub hl ks hp)
theorem cx_topi {x : Int32} (h : ∀ y : Int32, y = x → cx_S p l e R s m args below meth c A D nL cells slots Q pc lv (.int y :: st) ws) : cx_S p l e R s m args below meth c A D nL cells slots Q pc lv (.int x :: st) ws := h x rfl
theorem cx_topl {x : Int64} (h : ∀ y : Int64, y = x → cx_S p l e R s m args below meth c A D nL cells slots Q pc lv (.long y :: st) ws) : cx_S p l e R s m args below meth c A D nL cells slots Q pc lv (.long x :: st) ws := h x rfl
end CXB
theorem cx_nz {v : Int32} (h : v = 0 ∨ v = 1) : narrow .boolean (.int v) = .int v ∧ fits .boolean (.int v) = true := by
  rcases h with rfl | rfl <;> decide
theorem iX0 : ∀ w ∈ u_ws RX0 TX0 8, w ∈ cx_G := by decide +kernel
theorem iX1 : ∀ w ∈ u_ws RX1 TX1 6, w ∈ cx_G := by decide +kernel
theorem iX2 : ∀ w ∈ u_ws RX2 TX2 4, w ∈ cx_G := by decide +kernel
theorem iX4 : ∀ w ∈ u_ws RX4 TX4 4, w ∈ cx_G := by decide +kernel
theorem iX5 : ∀ w ∈ u_ws RX5 TX5 11, w ∈ cx_G := by decide +kernel
theorem iX6 : ∀ w ∈ u_ws RX6 TX6 6, w ∈ cx_G := by decide +kernel
theorem iX7 : ∀ w ∈ u_ws RX7 TX7 19, w ∈ cx_G := by decide +kernel
theorem iX8 : ∀ w ∈ u_ws RX8 TX8 12, w ∈ cx_G := by decide +kernel
theorem iX9 : ∀ w ∈ u_ws RX9 TX9 24, w ∈ cx_G := by decide +kernel
abbrev wd_LA (k : Nat → ClassId) (a : Nat) (n : Nat) (c_x : Nat → Int64) : va_W := [(a, .inl (k 1, n, .inr (.inl c_x)))]
abbrev wd_IA (k : Nat → ClassId) (a : Nat) (n : Nat) (c_x : Nat → Int32) : va_W := [(a, .inl (k 0, n, .inl c_x))]
abbrev wd_Rows (k : Nat → ClassId) (a0 : Nat) (a1 : Nat) (w : Int32) (lim : Int32) (n : Nat) (c_c : Nat → Int32) (c_z : Int32) : va_W := [(a0, .inr (3, [.int w, .int lim, .ref (a1), .int c_z])), (a1, .inl (k 0, n, .inl c_c))]
abbrev wd_Box (k : Nat → ClassId) (a : Nat → Nat) (c_c0 : Nat → Int32) (c_z0 : Int32) (c_c1 : Nat → Int32) (c_z1 : Int32) (c_c2 : Nat → Int32) (c_z2 : Int32) (c_c3 : Nat → Int32) (c_z3 : Int32) (c_c4 : Nat → Int32) (c_z4 : Int32) (c_sg : Int32) : va_W := [(a 0, .inr (1, [.ref (a 1), .ref (a 3), .ref (a 5), .ref (a 7), .ref (a 9), .int c_sg])), (a 1, .inr (3, [.int 6, .int 5, .ref (a 2), .int c_z0])), (a 2, .inl (k 0, 30, .inl c_c0)), (a 3, .inr (3, [.int 2, .int 4, .ref (a 4), .int c_z1])), (a 4, .inl (k 0, 8, .inl c_c1)), (a 5, .inr (3, [.int 5, .int 6, .ref (a 6), .int c_z2])), (a 6, .inl (k 0, 30, .inl c_c2)), (a 7, .inr (3, [.int 4, .int 4, .ref (a 8), .int c_z3])), (a 8, .inl (k 0, 16, .inl c_c3)), (a 9, .inr (3, [.int 3, .int 4, .ref (a 10), .int c_z4])), (a 10, .inl (k 0, 12, .inl c_c4))]
abbrev wd_Text (k : Nat → ClassId) (a : Nat → Nat) (c_bytes : Nat → Int32) (c_length : Int32) (c_start : Int32) (c_end : Int32) (c_item : Int32) (c_numbers : Nat → Int32) : va_W := [(a 0, .inr (5, [.ref (a 1), .int c_length, .int c_start, .int c_end, .int c_item, .ref (a 2)])), (a 1, .inl (k 2, 300, .inl c_bytes)), (a 2, .inl (k 0, 5, .inl c_numbers))]
abbrev wd_Frac (k : Nat → ClassId) (a : Nat → Nat) (c_above : Nat → Int64) (c_below : Nat → Int64) (c_one : Nat → Int64) (c_other : Nat → Int64) : va_W := [(a 0, .inr (2, [.ref (a 1), .ref (a 2), .ref (a 3), .ref (a 4)])), (a 1, .inl (k 1, 4, .inr (.inl c_above))), (a 2, .inl (k 1, 4, .inr (.inl c_below))), (a 3, .inl (k 1, 4, .inr (.inl c_one))), (a 4, .inl (k 1, 4, .inr (.inl c_other)))]
abbrev wd_Sums (k : Nat → ClassId) (a : Nat → Nat) (np : Nat) (c_total : Nat → Int64) (c_shares : Nat → Int64) (c_pairs : Nat → Int64) (c_crowds : Nat → Int64) (c_bestWay : Nat → Int32) (c_bestWeight : Nat → Int64) (c_answer : Nat → Int64) (c_mine : Nat → Int64) (c_theirs : Nat → Int64) (c_people : Int32) (c_heads : Int32) : va_W := [(a 0, .inr (4, [.ref (a 1), .ref (a 2), .ref (a 3), .ref (a 4), .ref (a 5), .ref (a 6), .ref (a 7), .ref (a 8), .ref (a 9), .int c_people, .int c_heads])), (a 1, .inl (k 1, 4, .inr (.inl c_total))), (a 2, .inl (k 1, 144, .inr (.inl c_shares))), (a 3, .inl (k 1, np, .inr (.inl c_pairs))), (a 4, .inl (k 1, 128, .inr (.inl c_crowds))), (a 5, .inl (k 0, 6, .inl c_bestWay)), (a 6, .inl (k 1, 4, .inr (.inl c_bestWeight))), (a 7, .inl (k 1, 4, .inr (.inl c_answer))), (a 8, .inl (k 1, 4, .inr (.inl c_mine))), (a 9, .inl (k 1, 4, .inr (.inl c_theirs)))]
abbrev wd_Ways (k : Nat → ClassId) (a : Nat → Nat) (ab : Nat → Nat) (as_ : Nat → Nat) (c_detail : Int32) (c_skipped : Int32) (c_early : Int32) (c_late : Int32) (c_firstOnly : Int32) (c_firstYear : Nat → Int32) (c_years : Nat → Int32) (c_place : Nat → Int32) (c_before : Nat → Int32) (c_closing : Nat → Int32) (c_likes : Nat → Int32) (c_likeSums : Nat → Int32) (c_namings : Nat → Int32) (c_products : Nat → Int64) (c_weights : Nat → Int64) (c_subtotals : Nat → Int64) (c_way : Nat → Int32) : va_W := [(a 0, .inr (6, [.ref (as_ 0), .ref (ab 0), .int c_detail, .int c_skipped, .int c_early, .int c_late, .int c_firstOnly, .ref (a 1), .ref (a 2), .ref (a 3), .ref (a 4), .ref (a 5), .ref (a 6), .ref (a 7), .ref (a 8), .ref (a 9), .ref (a 10), .ref (a 11), .ref (a 12)])), (a 1, .inl (k 0, 4, .inl c_firstYear)), (a 2, .inl (k 0, 4, .inl c_years)), (a 3, .inl (k 0, 6, .inl c_place)), (a 4, .inl (k 0, 6, .inl c_before)), (a 5, .inl (k 0, 4, .inl c_closing)), (a 6, .inl (k 0, 432, .inl c_likes)), (a 7, .inl (k 0, 36, .inl c_likeSums)), (a 8, .inl (k 0, 36, .inl c_namings)), (a 9, .inl (k 1, 84, .inr (.inl c_products))), (a 10, .inl (k 1, 28, .inr (.inl c_weights))), (a 11, .inl (k 1, 28, .inr (.inl c_subtotals))), (a 12, .inl (k 0, 6, .inl c_way))]
abbrev wd_Aunt (k : Nat → ClassId) (a : Nat → Nat) (ab : Nat → Nat) (as_ : Nat → Nat) (c_worth : Nat → Int64) (c_dearest : Nat → Int64) (c_unit : Nat → Int64) (c_wrongly : Nat → Int64) (c_guess : Nat → Int64) (c_most : Nat → Int64) : va_W := [(a 0, .inr (0, [.ref (a 1), .ref (a 2), .ref (a 3), .ref (ab 0), .ref (as_ 0), .ref (a 4), .ref (a 5), .ref (a 6)])), (a 1, .inl (k 1, 4, .inr (.inl c_worth))), (a 2, .inl (k 1, 4, .inr (.inl c_dearest))), (a 3, .inl (k 1, 4, .inr (.inl c_unit))), (a 4, .inl (k 1, 24, .inr (.inl c_wrongly))), (a 5, .inl (k 1, 4, .inr (.inl c_guess))), (a 6, .inl (k 1, 4, .inr (.inl c_most)))]
abbrev wd_NB (k : Nat → ClassId) (a : Nat → Nat) (af : Nat → Nat) (at_ : Nat → Nat) (au : Nat → Nat) (av_ : Nat → Nat) (aw : Nat → Nat) (b0 : Nat → Nat) (b1 : Nat → Nat) (b2 : Nat → Nat) (b3 : Nat → Nat) (c_kept : Nat → Int32) (c_refusals : Nat → Int32) (c_summed : Int32) : va_W := [(a 0, .inr (7, [.ref (b0 0), .ref (b1 0), .ref (b2 0), .ref (b3 0), .ref (a 1), .ref (at_ 0), .ref (af 0), .ref (a 2), .ref (aw 0), .ref (av_ 0), .ref (au 0), .int c_summed])), (a 1, .inl (k 3, 2, .inl c_kept)), (a 2, .inl (k 0, 3, .inl c_refusals))]
abbrev wd_Model (k : Nat → ClassId) (a : Nat → Nat) (c_limbs : Nat → Int32) (c_wide : Nat → Int32) (c_book : Nat → Int32) (c_images : Nat → Int32) (c_kept : Nat → Int32) (c_before : Nat → Int32) (c_refused : Nat → Int32) (c_quiet : Int32) (c_text : Nat → Int32) (c_typed : Int32) (c_at : Int32) (c_start : Int32) (c_token : Int32) (c_value : Int32) (c_items : Nat → Int32) (c_many : Int32) (c_is : Nat → Int32) (c_likes : Nat → Int32) (c_without : Int32) (c_onePicture : Int32) (c_oneYear : Int32) (c_first : Int32) (c_second : Int32) (c_names : Nat → Int32) : va_W := [(a 0, .inr (8, [.ref (a 1), .ref (a 2), .ref (a 3), .ref (a 4), .ref (a 5), .ref (a 6), .ref (a 7), .int c_quiet, .ref (a 8), .int c_typed, .int c_at, .int c_start, .int c_token, .int c_value, .ref (a 9), .int c_many, .ref (a 10), .ref (a 11), .int c_without, .int c_onePicture, .int c_oneYear, .int c_first, .int c_second, .ref (a 12)])), (a 1, .inl (k 0, 4320, .inl c_limbs)), (a 2, .inl (k 0, 270, .inl c_wide)), (a 3, .inl (k 0, 140, .inl c_book)), (a 4, .inl (k 0, 280, .inl c_images)), (a 5, .inl (k 3, 2, .inl c_kept)), (a 6, .inl (k 0, 140, .inl c_before)), (a 7, .inl (k 0, 3, .inl c_refused)), (a 8, .inl (k 0, 300, .inl c_text)), (a 9, .inl (k 0, 900, .inl c_items)), (a 10, .inl (k 0, 6, .inl c_is)), (a 11, .inl (k 0, 432, .inl c_likes)), (a 12, .inl (k 0, 6, .inl c_names))]
end
section
theorem dX8_within_0 : decode cX8_within 0 = .ok (.iload_n 0, 1) := by decide +kernel
theorem dX8_within_1 : decode cX8_within 1 = .ok (.iload_n 1, 1) := by decide +kernel
theorem dX8_within_2 : decode cX8_within 2 = .ok (.if_icmp .lt 12, 3) := by decide +kernel
theorem dX8_within_5 : decode cX8_within 5 = .ok (.iload_n 0, 1) := by decide +kernel
theorem dX8_within_6 : decode cX8_within 6 = .ok (.iload_n 2, 1) := by decide +kernel
theorem dX8_within_7 : decode cX8_within 7 = .ok (.if_icmp .gt 7, 3) := by decide +kernel
theorem dX8_within_10 : decode cX8_within 10 = .ok (.iconst 1, 1) := by decide +kernel
theorem dX8_within_11 : decode cX8_within 11 = .ok (.goto 4, 3) := by decide +kernel
theorem dX8_within_14 : decode cX8_within 14 = .ok (.iconst 0, 1) := by decide +kernel
theorem dX8_within_15 : decode cX8_within 15 = .ok (.ireturn, 1) := by decide +kernel
theorem me_X8_within : cx_Ms yX8_within cX8_within 3 (some .boolean) 3 := ⟨⟨⟨by decide +kernel, by decide +kernel, by decide +kernel⟩, hw_1, hw_337⟩, hw_336⟩
noncomputable def f_X8_within (p0 : Int32) (p1 : Int32) (p2 : Int32) : Option Int32 := if p0 < p1 then (some 0) else (if p2 < p0 then (some 0) else (some 1))
set_option maxHeartbeats 4000000 in
set_option maxRecDepth 100000 in
theorem c_X8_within (l : Launch) (D : va_G) (k : Nat → ClassId) (p0 : Int32) (p1 : Int32) (p2 : Int32) (y : Int32) (hf : f_X8_within p0 p1 p2 = some y) : cx_M l yX8_within cX8_within 3 (some .boolean) 1 D k [.int p0, .int p1, .int p2] ([] : va_W) (fun sz => cx_Qi D y ([] : va_W) ([] : va_W) sz) := by
  refine cx_met (own := "NamelessBox") (by decide) rfl (Nat.le_of_ble_eq_true rfl) ?_
  intro p e s m args below meth c A Q C hA hQ hr hlk
  refine cx_lv (lv' := [(0, .int p0), (1, .int p1), (2, .int p2)]) [0, 1, 2] rfl ?_
  unfold f_X8_within at hf
  refine cx_iload_n C dX8_within_0 0 rfl ?_
  refine cx_iload_n C dX8_within_1 1 rfl ?_
  refine cx_icmp_lt (tgt := 14) C dX8_within_2 (by decide) (fun c1 => ?_) (fun c1 => ?_)
  · have hf := cx_if_t hf c1
    clear c1
    refine cx_iconst (v := 0) C dX8_within_14 (by decide) ?_
    obtain rfl := Option.some.inj hf
    exact cx_zret C hA hQ hr hlk dX8_within_15 rfl rfl rfl
  · have hf := cx_if_f hf c1
    clear c1
    refine cx_iload_n C dX8_within_5 0 rfl ?_
    refine cx_iload_n C dX8_within_6 2 rfl ?_
    refine cx_icmp_gt (tgt := 14) C dX8_within_7 (by decide) (fun c2 => ?_) (fun c2 => ?_)
    · have hf := cx_if_t hf c2
      clear c2
      refine cx_iconst (v := 0) C dX8_within_14 (by decide) ?_
      obtain rfl := Option.some.inj hf
      exact cx_zret C hA hQ hr hlk dX8_within_15 rfl rfl rfl
    · have hf := cx_if_f hf c2
      clear c2
      refine cx_iconst (v := 1) C dX8_within_10 (by decide) ?_
      refine cx_goto (tgt := 15) C dX8_within_11 (by decide) ?_
      obtain rfl := Option.some.inj hf
      exact cx_zret C hA hQ hr hlk dX8_within_15 rfl rfl rfl
theorem dX4_at_0 : decode cX4_at 0 = .ok (.iload_n 1, 1) := by decide +kernel
theorem dX4_at_1 : decode cX4_at 1 = .ok (.ifCond .lt 39, 3) := by decide +kernel
theorem dX4_at_4 : decode cX4_at 4 = .ok (.iload_n 1, 1) := by decide +kernel
theorem dX4_at_5 : decode cX4_at 5 = .ok (.aload_n 0, 1) := by decide +kernel
theorem dX4_at_6 : decode cX4_at 6 = .ok (.getfield 9, 3) := by decide +kernel
theorem dX4_at_9 : decode cX4_at 9 = .ok (.if_icmp .ge 31, 3) := by decide +kernel
theorem dX4_at_12 : decode cX4_at 12 = .ok (.iload_n 2, 1) := by decide +kernel
theorem dX4_at_13 : decode cX4_at 13 = .ok (.ifCond .lt 27, 3) := by decide +kernel
theorem dX4_at_16 : decode cX4_at 16 = .ok (.iload_n 2, 1) := by decide +kernel
theorem dX4_at_17 : decode cX4_at 17 = .ok (.aload_n 0, 1) := by decide +kernel
theorem dX4_at_18 : decode cX4_at 18 = .ok (.getfield 15, 3) := by decide +kernel
theorem dX4_at_21 : decode cX4_at 21 = .ok (.if_icmp .ge 19, 3) := by decide +kernel
theorem dX4_at_24 : decode cX4_at 24 = .ok (.aload_n 0, 1) := by decide +kernel
theorem dX4_at_25 : decode cX4_at 25 = .ok (.getfield 27, 3) := by decide +kernel
theorem dX4_at_28 : decode cX4_at 28 = .ok (.iload_n 1, 1) := by decide +kernel
theorem dX4_at_29 : decode cX4_at 29 = .ok (.aload_n 0, 1) := by decide +kernel
theorem dX4_at_30 : decode cX4_at 30 = .ok (.getfield 15, 3) := by decide +kernel
theorem dX4_at_33 : decode cX4_at 33 = .ok (.imul, 1) := by decide +kernel
theorem dX4_at_34 : decode cX4_at 34 = .ok (.iload_n 2, 1) := by decide +kernel
theorem dX4_at_35 : decode cX4_at 35 = .ok (.iadd, 1) := by decide +kernel
theorem dX4_at_36 : decode cX4_at 36 = .ok (.iaload, 1) := by decide +kernel
theorem dX4_at_37 : decode cX4_at 37 = .ok (.goto 4, 3) := by decide +kernel
theorem dX4_at_40 : decode cX4_at 40 = .ok (.iconst (-1), 1) := by decide +kernel
theorem dX4_at_41 : decode cX4_at 41 = .ok (.ireturn, 1) := by decide +kernel
theorem me_X4_at : cx_Mv yX4_at cX4_at 3 (some .int) 2 := ⟨⟨⟨by decide +kernel, by decide +kernel, by decide +kernel⟩, hw_3, hw_380⟩, hw_378, hw_379⟩
noncomputable def f_X4_at (r_w : Int32) (r_n : Nat) (r_c : Nat → Int32) (r_z : Int32) (p1 : Int32) (p2 : Int32) : Option Int32 := if p1 < 0 then (some ((-1))) else (if r_z ≤ p1 then (some ((-1))) else (if p2 < 0 then (some ((-1))) else (if r_w ≤ p2 then (some ((-1))) else (cx_gd (cx_ib ((p1 * r_w) + p2) r_n) (some (r_c (cx_ix ((p1 * r_w) + p2))))))))
set_option maxHeartbeats 4000000 in
set_option maxRecDepth 100000 in
theorem c_X4_at (l : Launch) (D : va_G) (k : Nat → ClassId) (r_a0 : Nat) (r_a1 : Nat) (r_w : Int32) (r_lim : Int32) (r_n : Nat) (r_c : Nat → Int32) (r_z : Int32) (p1 : Int32) (p2 : Int32) (y : Int32) (hf : f_X4_at r_w r_n r_c r_z p1 p2 = some y) : cx_M l yX4_at cX4_at 3 (some .int) 1 D k [.ref r_a0, .int p1, .int p2] (wd_Rows k r_a0 r_a1 r_w r_lim r_n r_c r_z) (fun sz => cx_Qi D y (wd_Rows k r_a0 r_a1 r_w r_lim r_n r_c r_z) (wd_Rows k r_a0 r_a1 r_w r_lim r_n r_c r_z) sz) := by
  refine cx_met (own := "NamelessBox$Rows") (by decide) rfl (Nat.le_of_ble_eq_true rfl) ?_
  intro p e s m args below meth c A Q C hA hQ hr hlk
  refine cx_lv (lv' := [(0, .ref r_a0), (1, .int p1), (2, .int p2)]) [0, 1, 2] rfl ?_
  unfold f_X4_at at hf
  refine cx_iload_n C dX4_at_0 1 rfl ?_
  refine cx_if_lt (tgt := 40) C dX4_at_1 (by decide) (fun c1 => ?_) (fun c1 => ?_)
  · have hf := cx_if_t hf c1
    clear c1
    refine cx_iconst (v := (-1)) C dX4_at_40 (by decide) ?_
    obtain rfl := Option.some.inj hf
    exact cx_iret C hA hQ hr hlk dX4_at_41 rfl rfl
  · have hf := cx_if_f hf c1
    clear c1
    refine cx_iload_n C dX4_at_4 1 rfl ?_
    refine cx_aload_n C dX4_at_5 0 rfl ?_
    refine cx_get (v := .int r_z) (ci := 3) C iX4 dX4_at_6 0 rfl rfl 3 (by decide) hw_45 rfl ?_
    refine cx_icmp_ge (tgt := 40) C dX4_at_9 (by decide) (fun c2 => ?_) (fun c2 => ?_)
    · have hf := cx_if_t hf c2
      clear c2
      refine cx_iconst (v := (-1)) C dX4_at_40 (by decide) ?_
      obtain rfl := Option.some.inj hf
      exact cx_iret C hA hQ hr hlk dX4_at_41 rfl rfl
    · have hf := cx_if_f hf c2
      clear c2
      refine cx_iload_n C dX4_at_12 2 rfl ?_
      refine cx_if_lt (tgt := 40) C dX4_at_13 (by decide) (fun c3 => ?_) (fun c3 => ?_)
      · have hf := cx_if_t hf c3
        clear c3
        refine cx_iconst (v := (-1)) C dX4_at_40 (by decide) ?_
        obtain rfl := Option.some.inj hf
        exact cx_iret C hA hQ hr hlk dX4_at_41 rfl rfl
      · have hf := cx_if_f hf c3
        clear c3
        refine cx_iload_n C dX4_at_16 2 rfl ?_
        refine cx_aload_n C dX4_at_17 0 rfl ?_
        refine cx_get (v := .int r_w) (ci := 3) C iX4 dX4_at_18 0 rfl rfl 0 (by decide) hw_42 rfl ?_
        refine cx_icmp_ge (tgt := 40) C dX4_at_21 (by decide) (fun c4 => ?_) (fun c4 => ?_)
        · have hf := cx_if_t hf c4
          clear c4
          refine cx_iconst (v := (-1)) C dX4_at_40 (by decide) ?_
          obtain rfl := Option.some.inj hf
          exact cx_iret C hA hQ hr hlk dX4_at_41 rfl rfl
        · have hf := cx_if_f hf c4
          clear c4
          refine cx_aload_n C dX4_at_24 0 rfl ?_
          refine cx_get (v := .ref r_a1) (ci := 3) C iX4 dX4_at_25 0 rfl rfl 2 (by decide) hw_44 rfl ?_
          refine cx_iload_n C dX4_at_28 1 rfl ?_
          refine cx_aload_n C dX4_at_29 0 rfl ?_
          refine cx_get (v := .int r_w) (ci := 3) C iX4 dX4_at_30 0 rfl rfl 0 (by decide) hw_42 rfl ?_
          refine cx_imul C dX4_at_33 ?_
          refine cx_iload_n C dX4_at_34 2 rfl ?_
          refine cx_iadd C dX4_at_35 ?_
          obtain ⟨g5, hf⟩ := cx_gd_at hf
          refine cx_iald C dX4_at_36 1 rfl (cx_ib_in g5) ?_
          clear g5
          refine cx_goto (tgt := 41) C dX4_at_37 (by decide) ?_
          obtain rfl := Option.some.inj hf
          exact cx_iret C hA hQ hr hlk dX4_at_41 rfl rfl
theorem dX4_has_0 : decode cX4_has 0 = .ok (.iload_n 1, 1) := by decide +kernel
theorem dX4_has_1 : decode cX4_has 1 = .ok (.ifCond .lt 15, 3) := by decide +kernel
theorem dX4_has_4 : decode cX4_has 4 = .ok (.iload_n 1, 1) := by decide +kernel
theorem dX4_has_5 : decode cX4_has 5 = .ok (.aload_n 0, 1) := by decide +kernel
theorem dX4_has_6 : decode cX4_has 6 = .ok (.getfield 9, 3) := by decide +kernel
theorem dX4_has_9 : decode cX4_has 9 = .ok (.if_icmp .ge 7, 3) := by decide +kernel
theorem dX4_has_12 : decode cX4_has 12 = .ok (.iconst 1, 1) := by decide +kernel
theorem dX4_has_13 : decode cX4_has 13 = .ok (.goto 4, 3) := by decide +kernel
theorem dX4_has_16 : decode cX4_has 16 = .ok (.iconst 0, 1) := by decide +kernel
theorem dX4_has_17 : decode cX4_has 17 = .ok (.ireturn, 1) := by decide +kernel
theorem me_X4_has : cx_Mv yX4_has cX4_has 2 (some .boolean) 1 := ⟨⟨⟨by decide +kernel, by decide +kernel, by decide +kernel⟩, hw_3, hw_354⟩, hw_352, hw_353⟩
noncomputable def f_X4_has (r_z : Int32) (p1 : Int32) : Option Int32 := if p1 < 0 then (some 0) else (if r_z ≤ p1 then (some 0) else (some 1))
set_option maxHeartbeats 4000000 in
set_option maxRecDepth 100000 in
theorem c_X4_has (l : Launch) (D : va_G) (k : Nat → ClassId) (r_a0 : Nat) (r_a1 : Nat) (r_w : Int32) (r_lim : Int32) (r_n : Nat) (r_c : Nat → Int32) (r_z : Int32) (p1 : Int32) (y : Int32) (hf : f_X4_has r_z p1 = some y) : cx_M l yX4_has cX4_has 2 (some .boolean) 1 D k [.ref r_a0, .int p1] (wd_Rows k r_a0 r_a1 r_w r_lim r_n r_c r_z) (fun sz => cx_Qi D y (wd_Rows k r_a0 r_a1 r_w r_lim r_n r_c r_z) (wd_Rows k r_a0 r_a1 r_w r_lim r_n r_c r_z) sz) := by
  refine cx_met (own := "NamelessBox$Rows") (by decide) rfl (Nat.le_of_ble_eq_true rfl) ?_
  intro p e s m args below meth c A Q C hA hQ hr hlk
  refine cx_lv (lv' := [(0, .ref r_a0), (1, .int p1)]) [0, 1] rfl ?_
  unfold f_X4_has at hf
  refine cx_iload_n C dX4_has_0 1 rfl ?_
  refine cx_if_lt (tgt := 16) C dX4_has_1 (by decide) (fun c1 => ?_) (fun c1 => ?_)
  · have hf := cx_if_t hf c1
    clear c1
    refine cx_iconst (v := 0) C dX4_has_16 (by decide) ?_
    obtain rfl := Option.some.inj hf
    exact cx_zret C hA hQ hr hlk dX4_has_17 rfl rfl rfl
  · have hf := cx_if_f hf c1
    clear c1
    refine cx_iload_n C dX4_has_4 1 rfl ?_
    refine cx_aload_n C dX4_has_5 0 rfl ?_
    refine cx_get (v := .int r_z) (ci := 3) C iX4 dX4_has_6 0 rfl rfl 3 (by decide) hw_45 rfl ?_
    refine cx_icmp_ge (tgt := 16) C dX4_has_9 (by decide) (fun c2 => ?_) (fun c2 => ?_)
    · have hf := cx_if_t hf c2
      clear c2
      refine cx_iconst (v := 0) C dX4_has_16 (by decide) ?_
      obtain rfl := Option.some.inj hf
      exact cx_zret C hA hQ hr hlk dX4_has_17 rfl rfl rfl
    · have hf := cx_if_f hf c2
      clear c2
      refine cx_iconst (v := 1) C dX4_has_12 (by decide) ?_
      refine cx_goto (tgt := 17) C dX4_has_13 (by decide) ?_
      obtain rfl := Option.some.inj hf
      exact cx_zret C hA hQ hr hlk dX4_has_17 rfl rfl rfl
theorem dX4_put_0 : decode cX4_put 0 = .ok (.aload_n 0, 1) := by decide +kernel
theorem dX4_put_1 : decode cX4_put 1 = .ok (.iload_n 1, 1) := by decide +kernel
theorem dX4_put_2 : decode cX4_put 2 = .ok (.invokevirtual 31, 3) := by decide +kernel
theorem dX4_put_5 : decode cX4_put 5 = .ok (.ifCond .eq 31, 3) := by decide +kernel
theorem dX4_put_8 : decode cX4_put 8 = .ok (.iload_n 2, 1) := by decide +kernel
theorem dX4_put_9 : decode cX4_put 9 = .ok (.iconst 0, 1) := by decide +kernel
theorem dX4_put_10 : decode cX4_put 10 = .ok (.aload_n 0, 1) := by decide +kernel
theorem dX4_put_11 : decode cX4_put 11 = .ok (.getfield 15, 3) := by decide +kernel
theorem dX4_put_14 : decode cX4_put 14 = .ok (.iconst 1, 1) := by decide +kernel
theorem dX4_put_15 : decode cX4_put 15 = .ok (.isub, 1) := by decide +kernel
theorem dX4_put_16 : decode cX4_put 16 = .ok (.invokestatic 35, 3) := by decide +kernel
theorem dX4_put_19 : decode cX4_put 19 = .ok (.ifCond .eq 17, 3) := by decide +kernel
theorem dX4_put_22 : decode cX4_put 22 = .ok (.aload_n 0, 1) := by decide +kernel
theorem dX4_put_23 : decode cX4_put 23 = .ok (.getfield 27, 3) := by decide +kernel
theorem dX4_put_26 : decode cX4_put 26 = .ok (.iload_n 1, 1) := by decide +kernel
theorem dX4_put_27 : decode cX4_put 27 = .ok (.aload_n 0, 1) := by decide +kernel
theorem dX4_put_28 : decode cX4_put 28 = .ok (.getfield 15, 3) := by decide +kernel
theorem dX4_put_31 : decode cX4_put 31 = .ok (.imul, 1) := by decide +kernel
theorem dX4_put_32 : decode cX4_put 32 = .ok (.iload_n 2, 1) := by decide +kernel
theorem dX4_put_33 : decode cX4_put 33 = .ok (.iadd, 1) := by decide +kernel
theorem dX4_put_34 : decode cX4_put 34 = .ok (.iload_n 3, 1) := by decide +kernel
theorem dX4_put_35 : decode cX4_put 35 = .ok (.iastore, 1) := by decide +kernel
theorem dX4_put_36 : decode cX4_put 36 = .ok (.return_, 1) := by decide +kernel
theorem me_X4_put : cx_Mv yX4_put cX4_put 4 none 3 := ⟨⟨⟨by decide +kernel, by decide +kernel, by decide +kernel⟩, hw_3, hw_350⟩, hw_348, hw_349⟩
noncomputable def f_X4_put (r_w : Int32) (r_n : Nat) (r_c : Nat → Int32) (r_z : Int32) (p1 : Int32) (p2 : Int32) (p3 : Int32) : Option (Nat → Int32) := Option.bind (f_X4_has r_z p1) (fun u1 => if u1 = 0 then (some r_c) else (Option.bind (f_X8_within p2 0 (r_w - 1)) (fun u4 => if u4 = 0 then (some r_c) else (cx_gd (cx_ib ((p1 * r_w) + p2) r_n) (cx_let (upd r_c (cx_ix ((p1 * r_w) + p2)) p3) (fun a8 => some a8))))))
set_option maxHeartbeats 4000000 in
set_option maxRecDepth 100000 in
theorem c_X4_put (l : Launch) (D : va_G) (k : Nat → ClassId) (r_a0 : Nat) (r_a1 : Nat) (r_w : Int32) (r_lim : Int32) (r_n : Nat) (r_c : Nat → Int32) (r_z : Int32) (p1 : Int32) (p2 : Int32) (p3 : Int32) (y : Nat → Int32) (hf : f_X4_put r_w r_n r_c r_z p1 p2 p3 = some y) : cx_M l yX4_put cX4_put 4 none 2 D k [.ref r_a0, .int p1, .int p2, .int p3] (wd_Rows k r_a0 r_a1 r_w r_lim r_n r_c r_z) (fun sz => cx_Qv D (wd_Rows k r_a0 r_a1 r_w r_lim r_n r_c r_z) (wd_Rows k r_a0 r_a1 r_w r_lim r_n y r_z) sz) := by
  refine cx_met (own := "NamelessBox$Rows") (by decide) rfl (Nat.le_of_ble_eq_true rfl) ?_
  intro p e s m args below meth c A Q C hA hQ hr hlk
  refine cx_lv (lv' := [(0, .ref r_a0), (1, .int p1), (2, .int p2), (3, .int p3)]) [0, 1, 2, 3] rfl ?_
  unfold f_X4_put at hf
  refine cx_aload_n C dX4_put_0 0 rfl ?_
  refine cx_iload_n C dX4_put_1 1 rfl ?_
  obtain ⟨u1, e2, hf⟩ := cx_bd_at hf
  refine cx_cvi (q := (RX4, TX4, 4)) (As := [.int p1]) (rest := []) (ws' := (wd_Rows k r_a0 r_a1 r_w r_lim r_n r_c r_z)) hA C me_X4_has hw_351 (c_X4_has l D k r_a0 r_a1 r_w r_lim r_n r_c r_z p1 u1 e2) dX4_put_2 ⟨Nat.le_of_ble_eq_true rfl, Nat.le_of_ble_eq_true rfl⟩ ⟨Nat.zero_le _, Nat.zero_le _⟩ rfl rfl (Nat.le_of_ble_eq_true rfl) rfl rfl [0, 1] rfl (by decide) rfl rfl ?_
  clear e2
  refine cx_if_eq (tgt := 36) C dX4_put_5 (by decide) (fun c3 => ?_) (fun c3 => ?_)
  · have hf := cx_if_t hf c3
    clear c3
    obtain rfl := Option.some.inj hf
    exact cx_vret C hA hQ hr hlk dX4_put_36 rfl
  · have hf := cx_if_f hf c3
    clear c3
    refine cx_iload_n C dX4_put_8 2 rfl ?_
    refine cx_iconst (v := 0) C dX4_put_9 (by decide) ?_
    refine cx_aload_n C dX4_put_10 0 rfl ?_
    refine cx_get (v := .int r_w) (ci := 3) C iX4 dX4_put_11 0 rfl rfl 0 (by decide) hw_42 rfl ?_
    refine cx_iconst (v := 1) C dX4_put_14 (by decide) ?_
    refine cx_isub C dX4_put_15 ?_
    obtain ⟨u4, e5, hf⟩ := cx_bd_at hf
    refine cx_cni (As := [.int p2, .int 0, .int (r_w - 1)]) (rest := []) (ws' := (wd_Rows k r_a0 r_a1 r_w r_lim r_n r_c r_z)) hA C me_X8_within (fun h => h.2.2.2.1) (c_X8_within l D k p2 0 (r_w - 1) u4 e5) dX4_put_16 ⟨Nat.le_of_ble_eq_true rfl, Nat.le_of_ble_eq_true rfl⟩ ⟨Nat.zero_le _, Nat.zero_le _⟩ rfl rfl (Nat.le_of_ble_eq_true rfl) [] rfl (by decide) rfl rfl ?_
    clear e5
    refine cx_if_eq (tgt := 36) C dX4_put_19 (by decide) (fun c6 => ?_) (fun c6 => ?_)
    · have hf := cx_if_t hf c6
      clear c6
      obtain rfl := Option.some.inj hf
      exact cx_vret C hA hQ hr hlk dX4_put_36 rfl
    · have hf := cx_if_f hf c6
      clear c6
      refine cx_aload_n C dX4_put_22 0 rfl ?_
      refine cx_get (v := .ref r_a1) (ci := 3) C iX4 dX4_put_23 0 rfl rfl 2 (by decide) hw_44 rfl ?_
      refine cx_iload_n C dX4_put_26 1 rfl ?_
      refine cx_aload_n C dX4_put_27 0 rfl ?_
      refine cx_get (v := .int r_w) (ci := 3) C iX4 dX4_put_28 0 rfl rfl 0 (by decide) hw_42 rfl ?_
      refine cx_imul C dX4_put_31 ?_
      refine cx_iload_n C dX4_put_32 2 rfl ?_
      refine cx_iadd C dX4_put_33 ?_
      refine cx_iload_n C dX4_put_34 3 rfl ?_
      obtain ⟨g7, hf⟩ := cx_gd_at hf
      obtain ⟨a8, ea8⟩ : ∃ z, z = upd r_c (cx_ix ((p1 * r_w) + p2)) p3 := ⟨_, rfl⟩
      have hf := cx_let_at hf ea8
      refine cx_iast (ws' := (wd_Rows k r_a0 r_a1 r_w r_lim r_n a8 r_z)) C dX4_put_35 1 rfl (cx_ib_in g7) (by rw [ea8]; rfl) ?_
      clear ea8 g7
      obtain rfl := Option.some.inj hf
      exact cx_vret C hA hQ hr hlk dX4_put_36 rfl
theorem dX4_isFull_0 : decode cX4_isFull 0 = .ok (.aload_n 0, 1) := by decide +kernel
theorem dX4_isFull_1 : decode cX4_isFull 1 = .ok (.getfield 9, 3) := by decide +kernel
theorem dX4_isFull_4 : decode cX4_isFull 4 = .ok (.aload_n 0, 1) := by decide +kernel
theorem dX4_isFull_5 : decode cX4_isFull 5 = .ok (.getfield 18, 3) := by decide +kernel
theorem dX4_isFull_8 : decode cX4_isFull 8 = .ok (.if_icmp .lt 7, 3) := by decide +kernel
theorem dX4_isFull_11 : decode cX4_isFull 11 = .ok (.iconst 1, 1) := by decide +kernel
theorem dX4_isFull_12 : decode cX4_isFull 12 = .ok (.goto 4, 3) := by decide +kernel
theorem dX4_isFull_15 : decode cX4_isFull 15 = .ok (.iconst 0, 1) := by decide +kernel
theorem dX4_isFull_16 : decode cX4_isFull 16 = .ok (.ireturn, 1) := by decide +kernel
theorem me_X4_isFull : cx_Mv yX4_isFull cX4_isFull 1 (some .boolean) 0 := ⟨⟨⟨by decide +kernel, by decide +kernel, by decide +kernel⟩, hw_3, hw_341⟩, hw_339, hw_340⟩
noncomputable def f_X4_isFull (r_lim : Int32) (r_z : Int32) : Option Int32 := if r_z < r_lim then (some 0) else (some 1)
set_option maxHeartbeats 4000000 in
set_option maxRecDepth 100000 in
theorem c_X4_isFull (l : Launch) (D : va_G) (k : Nat → ClassId) (r_a0 : Nat) (r_a1 : Nat) (r_w : Int32) (r_lim : Int32) (r_n : Nat) (r_c : Nat → Int32) (r_z : Int32) (y : Int32) (hf : f_X4_isFull r_lim r_z = some y) : cx_M l yX4_isFull cX4_isFull 1 (some .boolean) 1 D k [.ref r_a0] (wd_Rows k r_a0 r_a1 r_w r_lim r_n r_c r_z) (fun sz => cx_Qi D y (wd_Rows k r_a0 r_a1 r_w r_lim r_n r_c r_z) (wd_Rows k r_a0 r_a1 r_w r_lim r_n r_c r_z) sz) := by
  refine cx_met (own := "NamelessBox$Rows") (by decide) rfl (Nat.le_of_ble_eq_true rfl) ?_
  intro p e s m args below meth c A Q C hA hQ hr hlk
  refine cx_lv (lv' := [(0, .ref r_a0)]) [0] rfl ?_
  unfold f_X4_isFull at hf
  refine cx_aload_n C dX4_isFull_0 0 rfl ?_
  refine cx_get (v := .int r_z) (ci := 3) C iX4 dX4_isFull_1 0 rfl rfl 3 (by decide) hw_45 rfl ?_
  refine cx_aload_n C dX4_isFull_4 0 rfl ?_
  refine cx_get (v := .int r_lim) (ci := 3) C iX4 dX4_isFull_5 0 rfl rfl 1 (by decide) hw_43 rfl ?_
  refine cx_icmp_lt (tgt := 15) C dX4_isFull_8 (by decide) (fun c1 => ?_) (fun c1 => ?_)
  · have hf := cx_if_t hf c1
    clear c1
    refine cx_iconst (v := 0) C dX4_isFull_15 (by decide) ?_
    obtain rfl := Option.some.inj hf
    exact cx_zret C hA hQ hr hlk dX4_isFull_16 rfl rfl rfl
  · have hf := cx_if_f hf c1
    clear c1
    refine cx_iconst (v := 1) C dX4_isFull_11 (by decide) ?_
    refine cx_goto (tgt := 16) C dX4_isFull_12 (by decide) ?_
    obtain rfl := Option.some.inj hf
    exact cx_zret C hA hQ hr hlk dX4_isFull_16 rfl rfl rfl
theorem dX4_grow_0 : decode cX4_grow 0 = .ok (.aload_n 0, 1) := by decide +kernel
theorem dX4_grow_1 : decode cX4_grow 1 = .ok (.invokevirtual 39, 3) := by decide +kernel
theorem dX4_grow_4 : decode cX4_grow 4 = .ok (.ifCond .ne 13, 3) := by decide +kernel
theorem dX4_grow_7 : decode cX4_grow 7 = .ok (.aload_n 0, 1) := by decide +kernel
theorem dX4_grow_8 : decode cX4_grow 8 = .ok (.dup, 1) := by decide +kernel
theorem dX4_grow_9 : decode cX4_grow 9 = .ok (.getfield 9, 3) := by decide +kernel
theorem dX4_grow_12 : decode cX4_grow 12 = .ok (.iconst 1, 1) := by decide +kernel
theorem dX4_grow_13 : decode cX4_grow 13 = .ok (.iadd, 1) := by decide +kernel
theorem dX4_grow_14 : decode cX4_grow 14 = .ok (.putfield 9, 3) := by decide +kernel
theorem dX4_grow_17 : decode cX4_grow 17 = .ok (.aload_n 0, 1) := by decide +kernel
theorem dX4_grow_18 : decode cX4_grow 18 = .ok (.getfield 9, 3) := by decide +kernel
theorem dX4_grow_21 : decode cX4_grow 21 = .ok (.iconst 1, 1) := by decide +kernel
theorem dX4_grow_22 : decode cX4_grow 22 = .ok (.isub, 1) := by decide +kernel
theorem dX4_grow_23 : decode cX4_grow 23 = .ok (.ireturn, 1) := by decide +kernel
theorem me_X4_grow : cx_Mv yX4_grow cX4_grow 1 (some .int) 0 := ⟨⟨⟨by decide +kernel, by decide +kernel, by decide +kernel⟩, hw_3, hw_345⟩, hw_343, hw_344⟩
noncomputable def f_X4_grow_J17 (h_4 : Int32) : Option (Int32 × Int32) := some ((h_4 - 1, h_4))
noncomputable def f_X4_grow (r_lim : Int32) (r_z : Int32) : Option (Int32 × Int32) := Option.bind (f_X4_isFull r_lim r_z) (fun u1 => if u1 = 0 then (f_X4_grow_J17 (r_z + 1)) else (f_X4_grow_J17 r_z))
set_option maxHeartbeats 4000000 in
set_option maxRecDepth 100000 in
theorem c_X4_grow (l : Launch) (D : va_G) (k : Nat → ClassId) (r_a0 : Nat) (r_a1 : Nat) (r_w : Int32) (r_lim : Int32) (r_n : Nat) (r_c : Nat → Int32) (r_z : Int32) (y : Int32 × Int32) (hf : f_X4_grow r_lim r_z = some y) : cx_M l yX4_grow cX4_grow 1 (some .int) 2 D k [.ref r_a0] (wd_Rows k r_a0 r_a1 r_w r_lim r_n r_c r_z) (fun sz => cx_Qi D y.1 (wd_Rows k r_a0 r_a1 r_w r_lim r_n r_c r_z) (wd_Rows k r_a0 r_a1 r_w r_lim r_n r_c y.2) sz) := by
  refine cx_met (own := "NamelessBox$Rows") (by decide) rfl (Nat.le_of_ble_eq_true rfl) ?_
  intro p e s m args below meth c A Q C hA hQ hr hlk
  refine cx_lv (lv' := [(0, .ref r_a0)]) [0] rfl ?_
  have J17 : ∀ (h_4 : Int32), f_X4_grow_J17 h_4 = some y → cx_S p l e (cx_rm 2) s m args below meth c A D 1 0 0 Q 17 [(0, .ref r_a0)] [] (wd_Rows k r_a0 r_a1 r_w r_lim r_n r_c h_4) := by
    intro h_4 hf
    unfold f_X4_grow_J17 at hf
    refine cx_aload_n C dX4_grow_17 0 rfl ?_
    refine cx_get (v := .int h_4) (ci := 3) C iX4 dX4_grow_18 0 rfl rfl 3 (by decide) hw_45 rfl ?_
    refine cx_iconst (v := 1) C dX4_grow_21 (by decide) ?_
    refine cx_isub C dX4_grow_22 ?_
    obtain rfl := Option.some.inj hf
    exact cx_iret C hA hQ hr hlk dX4_grow_23 rfl rfl
  unfold f_X4_grow at hf
  refine cx_aload_n C dX4_grow_0 0 rfl ?_
  obtain ⟨u1, e2, hf⟩ := cx_bd_at hf
  refine cx_cvi (q := (RX4, TX4, 4)) (As := []) (rest := []) (ws' := (wd_Rows k r_a0 r_a1 r_w r_lim r_n r_c r_z)) hA C me_X4_isFull hw_346 (c_X4_isFull l D k r_a0 r_a1 r_w r_lim r_n r_c r_z u1 e2) dX4_grow_1 ⟨Nat.le_of_ble_eq_true rfl, Nat.le_of_ble_eq_true rfl⟩ ⟨Nat.zero_le _, Nat.zero_le _⟩ rfl rfl (Nat.le_of_ble_eq_true rfl) rfl rfl [0, 1] rfl (by decide) rfl rfl ?_
  clear e2
  refine cx_if_ne (tgt := 17) C dX4_grow_4 (by decide) (fun c3 => ?_) (fun c3 => ?_)
  · have hf := cx_if_f hf c3
    clear c3
    exact J17 r_z hf
  · have hf := cx_if_t hf c3
    clear c3
    refine cx_aload_n C dX4_grow_7 0 rfl ?_
    refine cx_dup C dX4_grow_8 rfl ?_
    refine cx_get (v := .int r_z) (ci := 3) C iX4 dX4_grow_9 0 rfl rfl 3 (by decide) hw_45 rfl ?_
    refine cx_iconst (v := 1) C dX4_grow_12 (by decide) ?_
    refine cx_iadd C dX4_grow_13 ?_
    refine cx_putf (v := .int (r_z + 1)) (ty := .int) (ci := 3) (ws' := (wd_Rows k r_a0 r_a1 r_w r_lim r_n r_c (r_z + 1))) C iX4 tyX4 tyX4_ok nmX4 dX4_grow_14 0 rfl rfl 3 (by decide) hw_45 rfl (by decide +kernel) rfl rfl (Nat.le_of_ble_eq_true rfl) rfl ?_
    exact J17 (r_z + 1) hf
theorem dX4_take_0 : decode cX4_take 0 = .ok (.aload_n 1, 1) := by decide +kernel
theorem dX4_take_1 : decode cX4_take 1 = .ok (.getfield 27, 3) := by decide +kernel
theorem dX4_take_4 : decode cX4_take 4 = .ok (.iconst 0, 1) := by decide +kernel
theorem dX4_take_5 : decode cX4_take 5 = .ok (.aload_n 0, 1) := by decide +kernel
theorem dX4_take_6 : decode cX4_take 6 = .ok (.getfield 27, 3) := by decide +kernel
theorem dX4_take_9 : decode cX4_take 9 = .ok (.iconst 0, 1) := by decide +kernel
theorem dX4_take_10 : decode cX4_take 10 = .ok (.aload_n 0, 1) := by decide +kernel
theorem dX4_take_11 : decode cX4_take 11 = .ok (.getfield 27, 3) := by decide +kernel
theorem dX4_take_14 : decode cX4_take 14 = .ok (.arraylength, 1) := by decide +kernel
theorem dX4_take_15 : decode cX4_take 15 = .ok (.aload_n 1, 1) := by decide +kernel
theorem dX4_take_16 : decode cX4_take 16 = .ok (.getfield 27, 3) := by decide +kernel
theorem dX4_take_19 : decode cX4_take 19 = .ok (.arraylength, 1) := by decide +kernel
theorem dX4_take_20 : decode cX4_take 20 = .ok (.invokestatic 43, 3) := by decide +kernel
theorem dX4_take_23 : decode cX4_take 23 = .ok (.invokestatic 46, 3) := by decide +kernel
theorem dX4_take_26 : decode cX4_take 26 = .ok (.aload_n 0, 1) := by decide +kernel
theorem dX4_take_27 : decode cX4_take 27 = .ok (.aload_n 1, 1) := by decide +kernel
theorem dX4_take_28 : decode cX4_take 28 = .ok (.getfield 9, 3) := by decide +kernel
theorem dX4_take_31 : decode cX4_take 31 = .ok (.aload_n 0, 1) := by decide +kernel
theorem dX4_take_32 : decode cX4_take 32 = .ok (.getfield 18, 3) := by decide +kernel
theorem dX4_take_35 : decode cX4_take 35 = .ok (.invokestatic 43, 3) := by decide +kernel
theorem dX4_take_38 : decode cX4_take 38 = .ok (.putfield 9, 3) := by decide +kernel
theorem dX4_take_41 : decode cX4_take 41 = .ok (.return_, 1) := by decide +kernel
theorem me_X4_take : cx_Mv yX4_take cX4_take 2 none 1 := ⟨⟨⟨by decide +kernel, by decide +kernel, by decide +kernel⟩, hw_3, hw_610⟩, hw_608, hw_609⟩
noncomputable def f_X4_take (r_lim : Int32) (r_n : Nat) (r_c : Nat → Int32) (e1_n : Nat) (e1_c : Nat → Int32) (e1_z : Int32) : Option (Int32 × (Nat → Int32)) := cx_gd (cx_cb 0 0 (if (Int32.ofNat e1_n) < (Int32.ofNat r_n) then (Int32.ofNat e1_n) else (Int32.ofNat r_n)) e1_n r_n) (cx_let (va_cpy e1_c r_c (cx_ix 0) (cx_ix 0) (cx_ix (if (Int32.ofNat e1_n) < (Int32.ofNat r_n) then (Int32.ofNat e1_n) else (Int32.ofNat r_n)))) (fun a2 => some ((if r_lim < e1_z then r_lim else e1_z, a2))))
set_option maxHeartbeats 4000000 in
set_option maxRecDepth 100000 in
theorem c_X4_take (l : Launch) (D : va_G) (k : Nat → ClassId) (r_a0 : Nat) (r_a1 : Nat) (e1_a0 : Nat) (e1_a1 : Nat) (r_w : Int32) (r_lim : Int32) (r_n : Nat) (r_c : Nat → Int32) (r_z : Int32) (e1_w : Int32) (e1_lim : Int32) (e1_n : Nat) (e1_c : Nat → Int32) (e1_z : Int32) (y : Int32 × (Nat → Int32)) (hf : f_X4_take r_lim r_n r_c e1_n e1_c e1_z = some y) : cx_M l yX4_take cX4_take 2 none 1 D k [.ref r_a0, .ref e1_a0] (wd_Rows k r_a0 r_a1 r_w r_lim r_n r_c r_z ++ (wd_Rows k e1_a0 e1_a1 e1_w e1_lim e1_n e1_c e1_z)) (fun sz => cx_Qv D (wd_Rows k r_a0 r_a1 r_w r_lim r_n r_c r_z ++ (wd_Rows k e1_a0 e1_a1 e1_w e1_lim e1_n e1_c e1_z)) (wd_Rows k r_a0 r_a1 r_w r_lim r_n y.2 y.1 ++ (wd_Rows k e1_a0 e1_a1 e1_w e1_lim e1_n e1_c e1_z)) sz) := by
  refine cx_met (own := "NamelessBox$Rows") (by decide) rfl (Nat.le_of_ble_eq_true rfl) ?_
  intro p e s m args below meth c A Q C hA hQ hr hlk
  refine cx_lv (lv' := [(0, .ref r_a0), (1, .ref e1_a0)]) [0, 1] rfl ?_
  unfold f_X4_take at hf
  refine cx_aload_n C dX4_take_0 1 rfl ?_
  refine cx_get (v := .ref e1_a1) (ci := 3) C iX4 dX4_take_1 2 rfl rfl 2 (by decide) hw_44 rfl ?_
  refine cx_iconst (v := 0) C dX4_take_4 (by decide) ?_
  refine cx_aload_n C dX4_take_5 0 rfl ?_
  refine cx_get (v := .ref r_a1) (ci := 3) C iX4 dX4_take_6 0 rfl rfl 2 (by decide) hw_44 rfl ?_
  refine cx_iconst (v := 0) C dX4_take_9 (by decide) ?_
  refine cx_aload_n C dX4_take_10 0 rfl ?_
  refine cx_get (v := .ref r_a1) (ci := 3) C iX4 dX4_take_11 0 rfl rfl 2 (by decide) hw_44 rfl ?_
  refine cx_alen (v := Int32.ofNat r_n) C dX4_take_14 1 0 rfl rfl rfl ?_
  refine cx_aload_n C dX4_take_15 1 rfl ?_
  refine cx_get (v := .ref e1_a1) (ci := 3) C iX4 dX4_take_16 2 rfl rfl 2 (by decide) hw_44 rfl ?_
  refine cx_alen (v := Int32.ofNat e1_n) C dX4_take_19 3 0 rfl rfl rfl ?_
  refine cx_mmin C dX4_take_20 hw_611 hw_612 hw_4 hw_613 (Nat.le_of_ble_eq_true rfl) (Nat.le_of_ble_eq_true rfl) ⟨Nat.zero_le _, Nat.zero_le _⟩ ?_
  obtain ⟨g1, hf⟩ := cx_gd_at hf
  obtain ⟨a2, ea2⟩ : ∃ z, z = va_cpy e1_c r_c (cx_ix 0) (cx_ix 0) (cx_ix (if (Int32.ofNat e1_n) < (Int32.ofNat r_n) then (Int32.ofNat e1_n) else (Int32.ofNat r_n))) := ⟨_, rfl⟩
  have hf := cx_let_at hf ea2
  refine cx_copyi (ws' := (wd_Rows k r_a0 r_a1 r_w r_lim r_n a2 r_z ++ (wd_Rows k e1_a0 e1_a1 e1_w e1_lim e1_n e1_c e1_z))) C dX4_take_23 hw_614 hw_616 hw_615 hw_16 3 1 rfl rfl g1 (fun _ => rfl) (Nat.le_of_ble_eq_true rfl) (Nat.le_of_ble_eq_true rfl) (by rw [ea2]; rfl) ?_
  clear ea2 g1
  refine cx_aload_n C dX4_take_26 0 rfl ?_
  refine cx_aload_n C dX4_take_27 1 rfl ?_
  refine cx_get (v := .int e1_z) (ci := 3) C iX4 dX4_take_28 2 rfl rfl 3 (by decide) hw_45 rfl ?_
  refine cx_aload_n C dX4_take_31 0 rfl ?_
  refine cx_get (v := .int r_lim) (ci := 3) C iX4 dX4_take_32 0 rfl rfl 1 (by decide) hw_43 rfl ?_
  refine cx_mmin C dX4_take_35 hw_611 hw_612 hw_4 hw_613 (Nat.le_of_ble_eq_true rfl) (Nat.le_of_ble_eq_true rfl) ⟨Nat.zero_le _, Nat.zero_le _⟩ ?_
  refine cx_putf (v := .int (if r_lim < e1_z then r_lim else e1_z)) (ty := .int) (ci := 3) (ws' := (wd_Rows k r_a0 r_a1 r_w r_lim r_n a2 (if r_lim < e1_z then r_lim else e1_z) ++ (wd_Rows k e1_a0 e1_a1 e1_w e1_lim e1_n e1_c e1_z))) C iX4 tyX4 tyX4_ok nmX4 dX4_take_38 0 rfl rfl 3 (by decide) hw_45 rfl (by decide +kernel) rfl rfl (Nat.le_of_ble_eq_true rfl) rfl ?_
  obtain rfl := Option.some.inj hf
  exact cx_vret C hA hQ hr hlk dX4_take_41 rfl
theorem dX4_mixInto_0 : decode cX4_mixInto 0 = .ok (.lload_n 1, 1) := by decide +kernel
theorem dX4_mixInto_1 : decode cX4_mixInto 1 = .ok (.lstore_n 3, 1) := by decide +kernel
theorem dX4_mixInto_2 : decode cX4_mixInto 2 = .ok (.iconst 0, 1) := by decide +kernel
theorem dX4_mixInto_3 : decode cX4_mixInto 3 = .ok (.istore 5, 2) := by decide +kernel
theorem dX4_mixInto_5 : decode cX4_mixInto 5 = .ok (.iload 5, 2) := by decide +kernel
theorem dX4_mixInto_7 : decode cX4_mixInto 7 = .ok (.aload_n 0, 1) := by decide +kernel
theorem dX4_mixInto_8 : decode cX4_mixInto 8 = .ok (.getfield 9, 3) := by decide +kernel
theorem dX4_mixInto_11 : decode cX4_mixInto 11 = .ok (.aload_n 0, 1) := by decide +kernel
theorem dX4_mixInto_12 : decode cX4_mixInto 12 = .ok (.getfield 15, 3) := by decide +kernel
theorem dX4_mixInto_15 : decode cX4_mixInto 15 = .ok (.imul, 1) := by decide +kernel
theorem dX4_mixInto_16 : decode cX4_mixInto 16 = .ok (.if_icmp .ge 24, 3) := by decide +kernel
theorem dX4_mixInto_19 : decode cX4_mixInto 19 = .ok (.ldc2_w 52, 3) := by decide +kernel
theorem dX4_mixInto_22 : decode cX4_mixInto 22 = .ok (.lload_n 3, 1) := by decide +kernel
theorem dX4_mixInto_23 : decode cX4_mixInto 23 = .ok (.lmul, 1) := by decide +kernel
theorem dX4_mixInto_24 : decode cX4_mixInto 24 = .ok (.aload_n 0, 1) := by decide +kernel
theorem dX4_mixInto_25 : decode cX4_mixInto 25 = .ok (.getfield 27, 3) := by decide +kernel
theorem dX4_mixInto_28 : decode cX4_mixInto 28 = .ok (.iload 5, 2) := by decide +kernel
theorem dX4_mixInto_30 : decode cX4_mixInto 30 = .ok (.iaload, 1) := by decide +kernel
theorem dX4_mixInto_31 : decode cX4_mixInto 31 = .ok (.i2l, 1) := by decide +kernel
theorem dX4_mixInto_32 : decode cX4_mixInto 32 = .ok (.ladd, 1) := by decide +kernel
theorem dX4_mixInto_33 : decode cX4_mixInto 33 = .ok (.lstore_n 3, 1) := by decide +kernel
theorem dX4_mixInto_34 : decode cX4_mixInto 34 = .ok (.iinc 5 1, 3) := by decide +kernel
theorem dX4_mixInto_37 : decode cX4_mixInto 37 = .ok (.goto (-32), 3) := by decide +kernel
theorem dX4_mixInto_40 : decode cX4_mixInto 40 = .ok (.lload_n 3, 1) := by decide +kernel
theorem dX4_mixInto_41 : decode cX4_mixInto 41 = .ok (.lreturn, 1) := by decide +kernel
theorem me_X4_mixInto : cx_Mv yX4_mixInto cX4_mixInto 6 (some .long) 1 := ⟨⟨⟨by decide +kernel, by decide +kernel, by decide +kernel⟩, hw_3, hw_1031⟩, hw_1029, hw_1030⟩
noncomputable def f_X4_mixInto_L5 (r_w : Int32) (r_n : Nat) (r_c : Nat → Int32) (r_z : Int32) (rc5 : Int64 → Int32 → Option Int64) (x3_1 : Int64) (x5_2 : Int32) : Option Int64 := if (r_z * r_w) ≤ x5_2 then (some x3_1) else (cx_gd (cx_ib x5_2 r_n) (cx_let ((31 * x3_1) + (Int32.toInt64 (r_c (cx_ix x5_2)))) (fun v5 => rc5 v5 (x5_2 + 1))))
noncomputable def f_X4_mixInto_L5w (r_w : Int32) (r_n : Nat) (r_c : Nat → Int32) (r_z : Int32) (n : Nat) : Int64 → Int32 → Option Int64 := Nat.rec (fun _ _ => none) (fun _ r => f_X4_mixInto_L5 r_w r_n r_c r_z r) n
noncomputable def f_X4_mixInto (r_w : Int32) (r_n : Nat) (r_c : Nat → Int32) (r_z : Int32) (p1 : Int64) : Option Int64 := f_X4_mixInto_L5w r_w r_n r_c r_z cx_N0 p1 0
set_option maxHeartbeats 4000000 in
set_option maxRecDepth 100000 in
theorem c_X4_mixInto (l : Launch) (D : va_G) (k : Nat → ClassId) (r_a0 : Nat) (r_a1 : Nat) (r_w : Int32) (r_lim : Int32) (r_n : Nat) (r_c : Nat → Int32) (r_z : Int32) (p1 : Int64) (y : Int64) (hf : f_X4_mixInto r_w r_n r_c r_z p1 = some y) : cx_M l yX4_mixInto cX4_mixInto 6 (some .long) 1 D k [.ref r_a0, .long p1] (wd_Rows k r_a0 r_a1 r_w r_lim r_n r_c r_z) (fun sz => cx_Ql D y (wd_Rows k r_a0 r_a1 r_w r_lim r_n r_c r_z) (wd_Rows k r_a0 r_a1 r_w r_lim r_n r_c r_z) sz) := by
  refine cx_met (own := "NamelessBox$Rows") (by decide) rfl (Nat.le_of_ble_eq_true rfl) ?_
  intro p e s m args below meth c A Q C hA hQ hr hlk
  refine cx_lv (lv' := [(0, .ref r_a0), (1, .long p1)]) [0, 1] rfl ?_
  have L5 : ∀ (n : Nat) (x3_1 : Int64) (x5_2 : Int32), f_X4_mixInto_L5w r_w r_n r_c r_z n x3_1 x5_2 = some y → cx_S p l e (cx_rm 1) s m args below meth c A D 6 0 0 Q 5 [(0, .ref r_a0), (3, .long x3_1), (5, .int x5_2)] [] (wd_Rows k r_a0 r_a1 r_w r_lim r_n r_c r_z) := by
    intro  n
    induction n with
    | zero =>
      intro x3_1 x5_2 hf
      exact absurd (show (none : Option Int64) = some y from hf) (fun h => by cases h)
    | succ n ih5 =>
      intro x3_1 x5_2 hf
      have hf : f_X4_mixInto_L5 r_w r_n r_c r_z (f_X4_mixInto_L5w r_w r_n r_c r_z n) x3_1 x5_2 = some y := hf
      unfold f_X4_mixInto_L5 at hf
      refine cx_iload C dX4_mixInto_5 2 rfl ?_
      refine cx_aload_n C dX4_mixInto_7 0 rfl ?_
      refine cx_get (v := .int r_z) (ci := 3) C iX4 dX4_mixInto_8 0 rfl rfl 3 (by decide) hw_45 rfl ?_
      refine cx_aload_n C dX4_mixInto_11 0 rfl ?_
      refine cx_get (v := .int r_w) (ci := 3) C iX4 dX4_mixInto_12 0 rfl rfl 0 (by decide) hw_42 rfl ?_
      refine cx_imul C dX4_mixInto_15 ?_
      refine cx_icmp_ge (tgt := 40) C dX4_mixInto_16 (by decide) (fun c3 => ?_) (fun c3 => ?_)
      · have hf := cx_if_t hf c3
        clear c3
        refine cx_lload_n C dX4_mixInto_40 1 rfl ?_
        obtain rfl := Option.some.inj hf
        exact cx_lret C hA hQ hr hlk dX4_mixInto_41 rfl rfl
      · have hf := cx_if_f hf c3
        clear c3
        refine cx_ldc2 (v := 31) C dX4_mixInto_19 hw_1032 ?_
        refine cx_lload_n C dX4_mixInto_22 1 rfl ?_
        refine cx_lmul C dX4_mixInto_23 ?_
        refine cx_aload_n C dX4_mixInto_24 0 rfl ?_
        refine cx_get (v := .ref r_a1) (ci := 3) C iX4 dX4_mixInto_25 0 rfl rfl 2 (by decide) hw_44 rfl ?_
        refine cx_iload C dX4_mixInto_28 2 rfl ?_
        obtain ⟨g4, hf⟩ := cx_gd_at hf
        refine cx_iald C dX4_mixInto_30 1 rfl (cx_ib_in g4) ?_
        clear g4
        refine cx_i2l C dX4_mixInto_31 ?_
        refine cx_ladd C dX4_mixInto_32 ?_
        refine cx_topl (fun v5 ev5 => ?_)
        have hf := cx_let_at hf ev5
        clear ev5
        refine cx_lstore_n (lv' := [(3, .long v5), (0, .ref r_a0), (5, .int x5_2)]) C dX4_mixInto_33 rfl (by decide) rfl ?_
        refine cx_iinc (v := x5_2 + 1) (lv' := [(5, .int (x5_2 + 1)), (3, .long v5), (0, .ref r_a0)]) C dX4_mixInto_34 2 rfl rfl (by decide) rfl ?_
        refine cx_goto (tgt := 5) C dX4_mixInto_37 (by decide) ?_
        refine cx_lv [2, 1, 0] rfl ?_
        exact ih5 v5 (x5_2 + 1) hf
  unfold f_X4_mixInto at hf
  refine cx_lload_n C dX4_mixInto_0 1 rfl ?_
  refine cx_lstore_n (lv' := [(3, .long p1), (0, .ref r_a0), (1, .long p1)]) C dX4_mixInto_1 rfl (by decide) rfl ?_
  refine cx_iconst (v := 0) C dX4_mixInto_2 (by decide) ?_
  refine cx_istore (lv' := [(5, .int 0), (3, .long p1), (0, .ref r_a0), (1, .long p1)]) C dX4_mixInto_3 (by decide) rfl ?_
  refine cx_lv [2, 1, 0] rfl ?_
  exact L5 cx_N0 p1 0 hf
theorem dX8_whoIs_0 : decode cX8_whoIs 0 = .ok (.iload_n 0, 1) := by decide +kernel
theorem dX8_whoIs_1 : decode cX8_whoIs 1 = .ok (.iconst (-1), 1) := by decide +kernel
theorem dX8_whoIs_2 : decode cX8_whoIs 2 = .ok (.if_icmp .ne 7, 3) := by decide +kernel
theorem dX8_whoIs_5 : decode cX8_whoIs 5 = .ok (.iconst 5, 1) := by decide +kernel
theorem dX8_whoIs_6 : decode cX8_whoIs 6 = .ok (.goto 4, 3) := by decide +kernel
theorem dX8_whoIs_9 : decode cX8_whoIs 9 = .ok (.iload_n 0, 1) := by decide +kernel
theorem dX8_whoIs_10 : decode cX8_whoIs 10 = .ok (.ireturn, 1) := by decide +kernel
theorem me_X8_whoIs : cx_Ms yX8_whoIs cX8_whoIs 1 (some .int) 1 := ⟨⟨⟨by decide +kernel, by decide +kernel, by decide +kernel⟩, hw_1, hw_449⟩, hw_448⟩
noncomputable def f_X8_whoIs (p0 : Int32) : Option Int32 := if p0 = ((-1)) then (some 5) else (some p0)
set_option maxHeartbeats 4000000 in
set_option maxRecDepth 100000 in
theorem c_X8_whoIs (l : Launch) (D : va_G) (k : Nat → ClassId) (p0 : Int32) (y : Int32) (hf : f_X8_whoIs p0 = some y) : cx_M l yX8_whoIs cX8_whoIs 1 (some .int) 1 D k [.int p0] ([] : va_W) (fun sz => cx_Qi D y ([] : va_W) ([] : va_W) sz) := by
  refine cx_met (own := "NamelessBox") (by decide) rfl (Nat.le_of_ble_eq_true rfl) ?_
  intro p e s m args below meth c A Q C hA hQ hr hlk
  refine cx_lv (lv' := [(0, .int p0)]) [0] rfl ?_
  unfold f_X8_whoIs at hf
  refine cx_iload_n C dX8_whoIs_0 0 rfl ?_
  refine cx_iconst (v := (-1)) C dX8_whoIs_1 (by decide) ?_
  refine cx_icmp_ne (tgt := 9) C dX8_whoIs_2 (by decide) (fun c1 => ?_) (fun c1 => ?_)
  · have hf := cx_if_f hf c1
    clear c1
    refine cx_iload_n C dX8_whoIs_9 0 rfl ?_
    obtain rfl := Option.some.inj hf
    exact cx_iret C hA hQ hr hlk dX8_whoIs_10 rfl rfl
  · have hf := cx_if_t hf c1
    clear c1
    refine cx_iconst (v := 5) C dX8_whoIs_5 (by decide) ?_
    refine cx_goto (tgt := 10) C dX8_whoIs_6 (by decide) ?_
    obtain rfl := Option.some.inj hf
    exact cx_iret C hA hQ hr hlk dX8_whoIs_10 rfl rfl
theorem dX8_whoAt_0 : decode cX8_whoAt 0 = .ok (.iload_n 0, 1) := by decide +kernel
theorem dX8_whoAt_1 : decode cX8_whoAt 1 = .ok (.iload_n 1, 1) := by decide +kernel
theorem dX8_whoAt_2 : decode cX8_whoAt 2 = .ok (.if_icmp .ge 7, 3) := by decide +kernel
theorem dX8_whoAt_5 : decode cX8_whoAt 5 = .ok (.iload_n 0, 1) := by decide +kernel
theorem dX8_whoAt_6 : decode cX8_whoAt 6 = .ok (.goto 4, 3) := by decide +kernel
theorem dX8_whoAt_9 : decode cX8_whoAt 9 = .ok (.iconst 5, 1) := by decide +kernel
theorem dX8_whoAt_10 : decode cX8_whoAt 10 = .ok (.ireturn, 1) := by decide +kernel
theorem me_X8_whoAt : cx_Ms yX8_whoAt cX8_whoAt 2 (some .int) 2 := ⟨⟨⟨by decide +kernel, by decide +kernel, by decide +kernel⟩, hw_1, hw_653⟩, hw_652⟩
noncomputable def f_X8_whoAt (p0 : Int32) (p1 : Int32) : Option Int32 := if p1 ≤ p0 then (some 5) else (some p0)
set_option maxHeartbeats 4000000 in
set_option maxRecDepth 100000 in
theorem c_X8_whoAt (l : Launch) (D : va_G) (k : Nat → ClassId) (p0 : Int32) (p1 : Int32) (y : Int32) (hf : f_X8_whoAt p0 p1 = some y) : cx_M l yX8_whoAt cX8_whoAt 2 (some .int) 1 D k [.int p0, .int p1] ([] : va_W) (fun sz => cx_Qi D y ([] : va_W) ([] : va_W) sz) := by
  refine cx_met (own := "NamelessBox") (by decide) rfl (Nat.le_of_ble_eq_true rfl) ?_
  intro p e s m args below meth c A Q C hA hQ hr hlk
  refine cx_lv (lv' := [(0, .int p0), (1, .int p1)]) [0, 1] rfl ?_
  unfold f_X8_whoAt at hf
  refine cx_iload_n C dX8_whoAt_0 0 rfl ?_
  refine cx_iload_n C dX8_whoAt_1 1 rfl ?_
  refine cx_icmp_ge (tgt := 9) C dX8_whoAt_2 (by decide) (fun c1 => ?_) (fun c1 => ?_)
  · have hf := cx_if_t hf c1
    clear c1
    refine cx_iconst (v := 5) C dX8_whoAt_9 (by decide) ?_
    obtain rfl := Option.some.inj hf
    exact cx_iret C hA hQ hr hlk dX8_whoAt_10 rfl rfl
  · have hf := cx_if_f hf c1
    clear c1
    refine cx_iload_n C dX8_whoAt_5 0 rfl ?_
    refine cx_goto (tgt := 10) C dX8_whoAt_6 (by decide) ?_
    obtain rfl := Option.some.inj hf
    exact cx_iret C hA hQ hr hlk dX8_whoAt_10 rfl rfl
theorem dJ13_compare_74951_0 : decode cJ13_compare_74951 0 = .ok (.lload_n 0, 1) := by decide +kernel
theorem dJ13_compare_74951_1 : decode cJ13_compare_74951 1 = .ok (.lload_n 2, 1) := by decide +kernel
theorem dJ13_compare_74951_2 : decode cJ13_compare_74951 2 = .ok (.lcmp, 1) := by decide +kernel
theorem dJ13_compare_74951_3 : decode cJ13_compare_74951 3 = .ok (.ifCond .ge 7, 3) := by decide +kernel
theorem dJ13_compare_74951_6 : decode cJ13_compare_74951 6 = .ok (.iconst (-1), 1) := by decide +kernel
theorem dJ13_compare_74951_7 : decode cJ13_compare_74951 7 = .ok (.goto 14, 3) := by decide +kernel
theorem dJ13_compare_74951_10 : decode cJ13_compare_74951 10 = .ok (.lload_n 0, 1) := by decide +kernel
theorem dJ13_compare_74951_11 : decode cJ13_compare_74951 11 = .ok (.lload_n 2, 1) := by decide +kernel
theorem dJ13_compare_74951_12 : decode cJ13_compare_74951 12 = .ok (.lcmp, 1) := by decide +kernel
theorem dJ13_compare_74951_13 : decode cJ13_compare_74951 13 = .ok (.ifCond .ne 7, 3) := by decide +kernel
theorem dJ13_compare_74951_16 : decode cJ13_compare_74951 16 = .ok (.iconst 0, 1) := by decide +kernel
theorem dJ13_compare_74951_17 : decode cJ13_compare_74951 17 = .ok (.goto 4, 3) := by decide +kernel
theorem dJ13_compare_74951_20 : decode cJ13_compare_74951 20 = .ok (.iconst 1, 1) := by decide +kernel
theorem dJ13_compare_74951_21 : decode cJ13_compare_74951 21 = .ok (.ireturn, 1) := by decide +kernel
theorem me_J13_compare_74951 : cx_Ms yJ13_compare_74951 cJ13_compare_74951 4 (some .int) 2 := ⟨⟨⟨by decide +kernel, by decide +kernel, by decide +kernel⟩, hw_18, hw_705⟩, hw_704⟩
noncomputable def f_J13_compare_74951 (p0 : Int64) (p2 : Int64) : Option Int32 := if 0 ≤ (lg_cmp p0 p2) then (if (lg_cmp p0 p2) = 0 then (some 0) else (some 1)) else (some ((-1)))
set_option maxHeartbeats 4000000 in
set_option maxRecDepth 100000 in
theorem c_J13_compare_74951 (l : Launch) (D : va_G) (k : Nat → ClassId) (p0 : Int64) (p2 : Int64) (y : Int32) (hf : f_J13_compare_74951 p0 p2 = some y) : cx_M l yJ13_compare_74951 cJ13_compare_74951 4 (some .int) 1 D k [.long p0, .long p2] ([] : va_W) (fun sz => cx_Qi D y ([] : va_W) ([] : va_W) sz) := by
  refine cx_met (own := "java/lang/Long") (by decide) rfl (Nat.le_of_ble_eq_true rfl) ?_
  intro p e s m args below meth c A Q C hA hQ hr hlk
  refine cx_lv (lv' := [(0, .long p0), (2, .long p2)]) [0, 1] rfl ?_
  unfold f_J13_compare_74951 at hf
  refine cx_lload_n C dJ13_compare_74951_0 0 rfl ?_
  refine cx_lload_n C dJ13_compare_74951_1 1 rfl ?_
  refine cx_lcmp C dJ13_compare_74951_2 ?_
  refine cx_if_ge (tgt := 10) C dJ13_compare_74951_3 (by decide) (fun c1 => ?_) (fun c1 => ?_)
  · have hf := cx_if_t hf c1
    clear c1
    refine cx_lload_n C dJ13_compare_74951_10 0 rfl ?_
    refine cx_lload_n C dJ13_compare_74951_11 1 rfl ?_
    refine cx_lcmp C dJ13_compare_74951_12 ?_
    refine cx_if_ne (tgt := 20) C dJ13_compare_74951_13 (by decide) (fun c2 => ?_) (fun c2 => ?_)
    · have hf := cx_if_f hf c2
      clear c2
      refine cx_iconst (v := 1) C dJ13_compare_74951_20 (by decide) ?_
      obtain rfl := Option.some.inj hf
      exact cx_iret C hA hQ hr hlk dJ13_compare_74951_21 rfl rfl
    · have hf := cx_if_t hf c2
      clear c2
      refine cx_iconst (v := 0) C dJ13_compare_74951_16 (by decide) ?_
      refine cx_goto (tgt := 21) C dJ13_compare_74951_17 (by decide) ?_
      obtain rfl := Option.some.inj hf
      exact cx_iret C hA hQ hr hlk dJ13_compare_74951_21 rfl rfl
  · have hf := cx_if_f hf c1
    clear c1
    refine cx_iconst (v := (-1)) C dJ13_compare_74951_6 (by decide) ?_
    refine cx_goto (tgt := 21) C dJ13_compare_74951_7 (by decide) ?_
    obtain rfl := Option.some.inj hf
    exact cx_iret C hA hQ hr hlk dJ13_compare_74951_21 rfl rfl
theorem dJ7_fill_d0a16_0 : decode cJ7_fill_d0a16 0 = .ok (.iconst 0, 1) := by decide +kernel
theorem dJ7_fill_d0a16_1 : decode cJ7_fill_d0a16 1 = .ok (.istore_n 3, 1) := by decide +kernel
theorem dJ7_fill_d0a16_2 : decode cJ7_fill_d0a16 2 = .ok (.aload_n 0, 1) := by decide +kernel
theorem dJ7_fill_d0a16_3 : decode cJ7_fill_d0a16 3 = .ok (.arraylength, 1) := by decide +kernel
theorem dJ7_fill_d0a16_4 : decode cJ7_fill_d0a16 4 = .ok (.istore 4, 2) := by decide +kernel
theorem dJ7_fill_d0a16_6 : decode cJ7_fill_d0a16 6 = .ok (.iload_n 3, 1) := by decide +kernel
theorem dJ7_fill_d0a16_7 : decode cJ7_fill_d0a16 7 = .ok (.iload 4, 2) := by decide +kernel
theorem dJ7_fill_d0a16_9 : decode cJ7_fill_d0a16 9 = .ok (.if_icmp .ge 13, 3) := by decide +kernel
theorem dJ7_fill_d0a16_12 : decode cJ7_fill_d0a16 12 = .ok (.aload_n 0, 1) := by decide +kernel
theorem dJ7_fill_d0a16_13 : decode cJ7_fill_d0a16 13 = .ok (.iload_n 3, 1) := by decide +kernel
theorem dJ7_fill_d0a16_14 : decode cJ7_fill_d0a16 14 = .ok (.lload_n 1, 1) := by decide +kernel
theorem dJ7_fill_d0a16_15 : decode cJ7_fill_d0a16 15 = .ok (.lastore, 1) := by decide +kernel
theorem dJ7_fill_d0a16_16 : decode cJ7_fill_d0a16 16 = .ok (.iinc 3 1, 3) := by decide +kernel
theorem dJ7_fill_d0a16_19 : decode cJ7_fill_d0a16 19 = .ok (.goto (-13), 3) := by decide +kernel
theorem dJ7_fill_d0a16_22 : decode cJ7_fill_d0a16 22 = .ok (.return_, 1) := by decide +kernel
theorem me_J7_fill_d0a16 : cx_Ms yJ7_fill_d0a16 cJ7_fill_d0a16 5 none 2 := ⟨⟨⟨by decide +kernel, by decide +kernel, by decide +kernel⟩, hw_9, hw_196⟩, hw_195⟩
noncomputable def f_J7_fill_d0a16_L6 (e0_n : Nat) (p1 : Int64) (x4_3 : Int32) (rc6 : (Nat → Int64) → Int32 → Option (Nat → Int64)) (a_1 : Nat → Int64) (x3_2 : Int32) : Option (Nat → Int64) := if x4_3 ≤ x3_2 then (some a_1) else (cx_gd (cx_ib x3_2 e0_n) (cx_let (vp_updL a_1 (cx_ix x3_2) p1) (fun a6 => rc6 a6 (x3_2 + 1))))
noncomputable def f_J7_fill_d0a16_L6w (e0_n : Nat) (p1 : Int64) (x4_3 : Int32) (n : Nat) : (Nat → Int64) → Int32 → Option (Nat → Int64) := Nat.rec (fun _ _ => none) (fun _ r => f_J7_fill_d0a16_L6 e0_n p1 x4_3 r) n
noncomputable def f_J7_fill_d0a16 (e0_n : Nat) (e0_x : Nat → Int64) (p1 : Int64) : Option (Nat → Int64) := f_J7_fill_d0a16_L6w e0_n p1 (Int32.ofNat e0_n) cx_N0 e0_x 0
set_option maxHeartbeats 4000000 in
set_option maxRecDepth 100000 in
theorem c_J7_fill_d0a16 (l : Launch) (D : va_G) (k : Nat → ClassId) (e0_a : Nat) (e0_n : Nat) (e0_x : Nat → Int64) (p1 : Int64) (y : Nat → Int64) (hf : f_J7_fill_d0a16 e0_n e0_x p1 = some y) : cx_M l yJ7_fill_d0a16 cJ7_fill_d0a16 5 none 1 D k [.ref e0_a, .long p1] (wd_LA k e0_a e0_n e0_x) (fun sz => cx_Qv D (wd_LA k e0_a e0_n e0_x) (wd_LA k e0_a e0_n y) sz) := by
  refine cx_met (own := "java/util/Arrays") (by decide) rfl (Nat.le_of_ble_eq_true rfl) ?_
  intro p e s m args below meth c A Q C hA hQ hr hlk
  refine cx_lv (lv' := [(0, .ref e0_a), (1, .long p1)]) [0, 1] rfl ?_
  have L6 : ∀ (x4_3 : Int32) (n : Nat) (a_1 : Nat → Int64) (x3_2 : Int32), f_J7_fill_d0a16_L6w e0_n p1 x4_3 n a_1 x3_2 = some y → cx_S p l e (cx_rm 1) s m args below meth c A D 5 0 0 Q 6 [(0, .ref e0_a), (1, .long p1), (3, .int x3_2), (4, .int x4_3)] [] (wd_LA k e0_a e0_n a_1) := by
    intro x4_3 n
    induction n with
    | zero =>
      intro a_1 x3_2 hf
      exact absurd (show (none : Option (Nat → Int64)) = some y from hf) (fun h => by cases h)
    | succ n ih6 =>
      intro a_1 x3_2 hf
      have hf : f_J7_fill_d0a16_L6 e0_n p1 x4_3 (f_J7_fill_d0a16_L6w e0_n p1 x4_3 n) a_1 x3_2 = some y := hf
      unfold f_J7_fill_d0a16_L6 at hf
      refine cx_iload_n C dJ7_fill_d0a16_6 2 rfl ?_
      refine cx_iload C dJ7_fill_d0a16_7 3 rfl ?_
      refine cx_icmp_ge (tgt := 22) C dJ7_fill_d0a16_9 (by decide) (fun c4 => ?_) (fun c4 => ?_)
      · have hf := cx_if_t hf c4
        clear c4
        obtain rfl := Option.some.inj hf
        exact cx_vret C hA hQ hr hlk dJ7_fill_d0a16_22 rfl
      · have hf := cx_if_f hf c4
        clear c4
        refine cx_aload_n C dJ7_fill_d0a16_12 0 rfl ?_
        refine cx_iload_n C dJ7_fill_d0a16_13 2 rfl ?_
        refine cx_lload_n C dJ7_fill_d0a16_14 1 rfl ?_
        obtain ⟨g5, hf⟩ := cx_gd_at hf
        obtain ⟨a6, ea6⟩ : ∃ z, z = vp_updL a_1 (cx_ix x3_2) p1 := ⟨_, rfl⟩
        have hf := cx_let_at hf ea6
        refine cx_last (ws' := (wd_LA k e0_a e0_n a6)) C dJ7_fill_d0a16_15 0 rfl (cx_ib_in g5) (by rw [ea6]; rfl) ?_
        clear ea6 g5
        refine cx_iinc (v := x3_2 + 1) (lv' := [(3, .int (x3_2 + 1)), (0, .ref e0_a), (1, .long p1), (4, .int x4_3)]) C dJ7_fill_d0a16_16 2 rfl rfl (by decide) rfl ?_
        refine cx_goto (tgt := 6) C dJ7_fill_d0a16_19 (by decide) ?_
        refine cx_lv [1, 2, 0, 3] rfl ?_
        exact ih6 a6 (x3_2 + 1) hf
  unfold f_J7_fill_d0a16 at hf
  refine cx_iconst (v := 0) C dJ7_fill_d0a16_0 (by decide) ?_
  refine cx_istore_n (lv' := [(3, .int 0), (0, .ref e0_a), (1, .long p1)]) C dJ7_fill_d0a16_1 rfl (by decide) rfl ?_
  refine cx_aload_n C dJ7_fill_d0a16_2 1 rfl ?_
  refine cx_alen (v := Int32.ofNat e0_n) C dJ7_fill_d0a16_3 0 1 rfl rfl rfl ?_
  refine cx_istore (lv' := [(4, .int (Int32.ofNat e0_n)), (3, .int 0), (0, .ref e0_a), (1, .long p1)]) C dJ7_fill_d0a16_4 (by decide) rfl ?_
  refine cx_lv [2, 3, 1, 0] rfl ?_
  exact L6 (Int32.ofNat e0_n) cx_N0 e0_x 0 hf
theorem dJ7_fill_53178_0 : decode cJ7_fill_53178 0 = .ok (.iconst 0, 1) := by decide +kernel
theorem dJ7_fill_53178_1 : decode cJ7_fill_53178 1 = .ok (.istore_n 2, 1) := by decide +kernel
theorem dJ7_fill_53178_2 : decode cJ7_fill_53178 2 = .ok (.aload_n 0, 1) := by decide +kernel
theorem dJ7_fill_53178_3 : decode cJ7_fill_53178 3 = .ok (.arraylength, 1) := by decide +kernel
theorem dJ7_fill_53178_4 : decode cJ7_fill_53178 4 = .ok (.istore_n 3, 1) := by decide +kernel
theorem dJ7_fill_53178_5 : decode cJ7_fill_53178 5 = .ok (.iload_n 2, 1) := by decide +kernel
theorem dJ7_fill_53178_6 : decode cJ7_fill_53178 6 = .ok (.iload_n 3, 1) := by decide +kernel
theorem dJ7_fill_53178_7 : decode cJ7_fill_53178 7 = .ok (.if_icmp .ge 13, 3) := by decide +kernel
theorem dJ7_fill_53178_10 : decode cJ7_fill_53178 10 = .ok (.aload_n 0, 1) := by decide +kernel
theorem dJ7_fill_53178_11 : decode cJ7_fill_53178 11 = .ok (.iload_n 2, 1) := by decide +kernel
theorem dJ7_fill_53178_12 : decode cJ7_fill_53178 12 = .ok (.iload_n 1, 1) := by decide +kernel
theorem dJ7_fill_53178_13 : decode cJ7_fill_53178 13 = .ok (.iastore, 1) := by decide +kernel
theorem dJ7_fill_53178_14 : decode cJ7_fill_53178 14 = .ok (.iinc 2 1, 3) := by decide +kernel
theorem dJ7_fill_53178_17 : decode cJ7_fill_53178 17 = .ok (.goto (-12), 3) := by decide +kernel
theorem dJ7_fill_53178_20 : decode cJ7_fill_53178 20 = .ok (.return_, 1) := by decide +kernel
theorem me_J7_fill_53178 : cx_Ms yJ7_fill_53178 cJ7_fill_53178 4 none 2 := ⟨⟨⟨by decide +kernel, by decide +kernel, by decide +kernel⟩, hw_9, hw_650⟩, hw_649⟩
noncomputable def f_J7_fill_53178_L5 (e0_n : Nat) (p1 : Int32) (x3_3 : Int32) (rc5 : (Nat → Int32) → Int32 → Option (Nat → Int32)) (a_1 : Nat → Int32) (x2_2 : Int32) : Option (Nat → Int32) := if x3_3 ≤ x2_2 then (some a_1) else (cx_gd (cx_ib x2_2 e0_n) (cx_let (upd a_1 (cx_ix x2_2) p1) (fun a6 => rc5 a6 (x2_2 + 1))))
noncomputable def f_J7_fill_53178_L5w (e0_n : Nat) (p1 : Int32) (x3_3 : Int32) (n : Nat) : (Nat → Int32) → Int32 → Option (Nat → Int32) := Nat.rec (fun _ _ => none) (fun _ r => f_J7_fill_53178_L5 e0_n p1 x3_3 r) n
noncomputable def f_J7_fill_53178 (e0_n : Nat) (e0_x : Nat → Int32) (p1 : Int32) : Option (Nat → Int32) := f_J7_fill_53178_L5w e0_n p1 (Int32.ofNat e0_n) cx_N0 e0_x 0
set_option maxHeartbeats 4000000 in
set_option maxRecDepth 100000 in
theorem c_J7_fill_53178 (l : Launch) (D : va_G) (k : Nat → ClassId) (e0_a : Nat) (e0_n : Nat) (e0_x : Nat → Int32) (p1 : Int32) (y : Nat → Int32) (hf : f_J7_fill_53178 e0_n e0_x p1 = some y) : cx_M l yJ7_fill_53178 cJ7_fill_53178 4 none 1 D k [.ref e0_a, .int p1] (wd_IA k e0_a e0_n e0_x) (fun sz => cx_Qv D (wd_IA k e0_a e0_n e0_x) (wd_IA k e0_a e0_n y) sz) := by
  refine cx_met (own := "java/util/Arrays") (by decide) rfl (Nat.le_of_ble_eq_true rfl) ?_
  intro p e s m args below meth c A Q C hA hQ hr hlk
  refine cx_lv (lv' := [(0, .ref e0_a), (1, .int p1)]) [0, 1] rfl ?_
  have L5 : ∀ (x3_3 : Int32) (n : Nat) (a_1 : Nat → Int32) (x2_2 : Int32), f_J7_fill_53178_L5w e0_n p1 x3_3 n a_1 x2_2 = some y → cx_S p l e (cx_rm 1) s m args below meth c A D 4 0 0 Q 5 [(0, .ref e0_a), (1, .int p1), (2, .int x2_2), (3, .int x3_3)] [] (wd_IA k e0_a e0_n a_1) := by
    intro x3_3 n
    induction n with
    | zero =>
      intro a_1 x2_2 hf
      exact absurd (show (none : Option (Nat → Int32)) = some y from hf) (fun h => by cases h)
    | succ n ih5 =>
      intro a_1 x2_2 hf
      have hf : f_J7_fill_53178_L5 e0_n p1 x3_3 (f_J7_fill_53178_L5w e0_n p1 x3_3 n) a_1 x2_2 = some y := hf
      unfold f_J7_fill_53178_L5 at hf
      refine cx_iload_n C dJ7_fill_53178_5 2 rfl ?_
      refine cx_iload_n C dJ7_fill_53178_6 3 rfl ?_
      refine cx_icmp_ge (tgt := 20) C dJ7_fill_53178_7 (by decide) (fun c4 => ?_) (fun c4 => ?_)
      · have hf := cx_if_t hf c4
        clear c4
        obtain rfl := Option.some.inj hf
        exact cx_vret C hA hQ hr hlk dJ7_fill_53178_20 rfl
      · have hf := cx_if_f hf c4
        clear c4
        refine cx_aload_n C dJ7_fill_53178_10 0 rfl ?_
        refine cx_iload_n C dJ7_fill_53178_11 2 rfl ?_
        refine cx_iload_n C dJ7_fill_53178_12 1 rfl ?_
        obtain ⟨g5, hf⟩ := cx_gd_at hf
        obtain ⟨a6, ea6⟩ : ∃ z, z = upd a_1 (cx_ix x2_2) p1 := ⟨_, rfl⟩
        have hf := cx_let_at hf ea6
        refine cx_iast (ws' := (wd_IA k e0_a e0_n a6)) C dJ7_fill_53178_13 0 rfl (cx_ib_in g5) (by rw [ea6]; rfl) ?_
        clear ea6 g5
        refine cx_iinc (v := x2_2 + 1) (lv' := [(2, .int (x2_2 + 1)), (0, .ref e0_a), (1, .int p1), (3, .int x3_3)]) C dJ7_fill_53178_14 2 rfl rfl (by decide) rfl ?_
        refine cx_goto (tgt := 5) C dJ7_fill_53178_17 (by decide) ?_
        refine cx_lv [1, 2, 0, 3] rfl ?_
        exact ih5 a6 (x2_2 + 1) hf
  unfold f_J7_fill_53178 at hf
  refine cx_iconst (v := 0) C dJ7_fill_53178_0 (by decide) ?_
  refine cx_istore_n (lv' := [(2, .int 0), (0, .ref e0_a), (1, .int p1)]) C dJ7_fill_53178_1 rfl (by decide) rfl ?_
  refine cx_aload_n C dJ7_fill_53178_2 1 rfl ?_
  refine cx_alen (v := Int32.ofNat e0_n) C dJ7_fill_53178_3 0 0 rfl rfl rfl ?_
  refine cx_istore_n (lv' := [(3, .int (Int32.ofNat e0_n)), (2, .int 0), (0, .ref e0_a), (1, .int p1)]) C dJ7_fill_53178_4 rfl (by decide) rfl ?_
  refine cx_lv [2, 3, 1, 0] rfl ?_
  exact L5 (Int32.ofNat e0_n) cx_N0 e0_x 0 hf
end
