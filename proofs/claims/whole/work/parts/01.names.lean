/-- a private method of a class that the tables say can be made, by its rows of tables_1 -/
def lw_okq (q : MethodName × Nat) : Prop := (q.1.cls ≠ "java/lang/invoke/MethodHandle" ∧ q.1.cls ≠ "java/lang/invoke/VarHandle") ∧ Cond.instantiable q.1.cls q.2 ∈ tables_1 ∧ Cond.privateMethod q.1 ∈ tables_1 ∧ Cond.instanceMethod q.1 ∈ tables_1
theorem lw_p0 : lw_okq (⟨"PoleNave", "rowAt", "(I)LPoleNave$Row;"⟩, 16) := ⟨⟨by decide +kernel, by decide +kernel⟩, List.mem_of_getElem? (i := 14) (by decide +kernel), List.mem_of_getElem? (i := 278) (by decide +kernel), List.mem_of_getElem? (i := 279) (by decide +kernel)⟩
theorem lw_p1 : lw_okq (⟨"PoleNave", "begin", "(LPoleNave$Row;III)I"⟩, 16) := ⟨⟨by decide +kernel, by decide +kernel⟩, List.mem_of_getElem? (i := 14) (by decide +kernel), List.mem_of_getElem? (i := 282) (by decide +kernel), List.mem_of_getElem? (i := 283) (by decide +kernel)⟩
theorem lw_p2 : lw_okq (⟨"PoleNave", "found", "(I)I"⟩, 16) := ⟨⟨by decide +kernel, by decide +kernel⟩, List.mem_of_getElem? (i := 14) (by decide +kernel), List.mem_of_getElem? (i := 286) (by decide +kernel), List.mem_of_getElem? (i := 287) (by decide +kernel)⟩
theorem lw_p3 : lw_okq (⟨"PoleNave", "tell", "(I)I"⟩, 16) := ⟨⟨by decide +kernel, by decide +kernel⟩, List.mem_of_getElem? (i := 14) (by decide +kernel), List.mem_of_getElem? (i := 321) (by decide +kernel), List.mem_of_getElem? (i := 322) (by decide +kernel)⟩
theorem lw_p4 : lw_okq (⟨"PoleNave", "textAt", "(I)LPoleNave$Row;"⟩, 16) := ⟨⟨by decide +kernel, by decide +kernel⟩, List.mem_of_getElem? (i := 14) (by decide +kernel), List.mem_of_getElem? (i := 353) (by decide +kernel), List.mem_of_getElem? (i := 354) (by decide +kernel)⟩
theorem lw_p5 : lw_okq (⟨"PoleNave$Plan", "readOne", "(LPoleNave$Row;I)I"⟩, 7) := ⟨⟨by decide +kernel, by decide +kernel⟩, List.mem_of_getElem? (i := 24) (by decide +kernel), List.mem_of_getElem? (i := 370) (by decide +kernel), List.mem_of_getElem? (i := 371) (by decide +kernel)⟩
theorem lw_p6 : lw_okq (⟨"PoleNave$Plan", "readPole", "(LPoleNave$Row;II)I"⟩, 7) := ⟨⟨by decide +kernel, by decide +kernel⟩, List.mem_of_getElem? (i := 24) (by decide +kernel), List.mem_of_getElem? (i := 382) (by decide +kernel), List.mem_of_getElem? (i := 383) (by decide +kernel)⟩
theorem lw_p7 : lw_okq (⟨"PoleNave$Scaffold", "seatedOn", "(I)I"⟩, 6) := ⟨⟨by decide +kernel, by decide +kernel⟩, List.mem_of_getElem? (i := 70) (by decide +kernel), List.mem_of_getElem? (i := 433) (by decide +kernel), List.mem_of_getElem? (i := 434) (by decide +kernel)⟩
theorem lw_p8 : lw_okq (⟨"PoleNave", "perform", "(I)I"⟩, 16) := ⟨⟨by decide +kernel, by decide +kernel⟩, List.mem_of_getElem? (i := 14) (by decide +kernel), List.mem_of_getElem? (i := 485) (by decide +kernel), List.mem_of_getElem? (i := 486) (by decide +kernel)⟩
theorem lw_p9 : lw_okq (⟨"PoleNave$Scaffold", "goUp", "(II)I"⟩, 6) := ⟨⟨by decide +kernel, by decide +kernel⟩, List.mem_of_getElem? (i := 70) (by decide +kernel), List.mem_of_getElem? (i := 497) (by decide +kernel), List.mem_of_getElem? (i := 498) (by decide +kernel)⟩
theorem lw_p10 : lw_okq (⟨"PoleNave$Scaffold", "comeDown", "(I)I"⟩, 6) := ⟨⟨by decide +kernel, by decide +kernel⟩, List.mem_of_getElem? (i := 70) (by decide +kernel), List.mem_of_getElem? (i := 501) (by decide +kernel), List.mem_of_getElem? (i := 502) (by decide +kernel)⟩
theorem lw_p11 : lw_okq (⟨"PoleNave$Scaffold", "renew", "(I)I"⟩, 6) := ⟨⟨by decide +kernel, by decide +kernel⟩, List.mem_of_getElem? (i := 70) (by decide +kernel), List.mem_of_getElem? (i := 505) (by decide +kernel), List.mem_of_getElem? (i := 506) (by decide +kernel)⟩
theorem lw_p12 : lw_okq (⟨"PoleNave", "keptAt", "(I)LPoleNave$Deeds;"⟩, 16) := ⟨⟨by decide +kernel, by decide +kernel⟩, List.mem_of_getElem? (i := 14) (by decide +kernel), List.mem_of_getElem? (i := 553) (by decide +kernel), List.mem_of_getElem? (i := 554) (by decide +kernel)⟩
theorem lw_p13 : lw_okq (⟨"PoleNave$Seating", "offer", "(I)V"⟩, 7) := ⟨⟨by decide +kernel, by decide +kernel⟩, List.mem_of_getElem? (i := 119) (by decide +kernel), List.mem_of_getElem? (i := 632) (by decide +kernel), List.mem_of_getElem? (i := 633) (by decide +kernel)⟩
theorem lw_p14 : lw_okq (⟨"PoleNave$Lacings", "holdsOut", "(II)Z"⟩, 8) := ⟨⟨by decide +kernel, by decide +kernel⟩, List.mem_of_getElem? (i := 150) (by decide +kernel), List.mem_of_getElem? (i := 661) (by decide +kernel), List.mem_of_getElem? (i := 662) (by decide +kernel)⟩
theorem lw_p15 : lw_okq (⟨"PoleNave", "kindsBy", "(LPoleNave$Row;I)I"⟩, 16) := ⟨⟨by decide +kernel, by decide +kernel⟩, List.mem_of_getElem? (i := 14) (by decide +kernel), List.mem_of_getElem? (i := 686) (by decide +kernel), List.mem_of_getElem? (i := 687) (by decide +kernel)⟩
def lw_privs_1 : List (MethodName × Nat) := [(⟨"PoleNave", "rowAt", "(I)LPoleNave$Row;"⟩, 16), (⟨"PoleNave", "begin", "(LPoleNave$Row;III)I"⟩, 16), (⟨"PoleNave", "found", "(I)I"⟩, 16), (⟨"PoleNave", "tell", "(I)I"⟩, 16), (⟨"PoleNave", "textAt", "(I)LPoleNave$Row;"⟩, 16), (⟨"PoleNave$Plan", "readOne", "(LPoleNave$Row;I)I"⟩, 7), (⟨"PoleNave$Plan", "readPole", "(LPoleNave$Row;II)I"⟩, 7), (⟨"PoleNave$Scaffold", "seatedOn", "(I)I"⟩, 6), (⟨"PoleNave", "perform", "(I)I"⟩, 16), (⟨"PoleNave$Scaffold", "goUp", "(II)I"⟩, 6), (⟨"PoleNave$Scaffold", "comeDown", "(I)I"⟩, 6), (⟨"PoleNave$Scaffold", "renew", "(I)I"⟩, 6), (⟨"PoleNave", "keptAt", "(I)LPoleNave$Deeds;"⟩, 16), (⟨"PoleNave$Seating", "offer", "(I)V"⟩, 7), (⟨"PoleNave$Lacings", "holdsOut", "(II)Z"⟩, 8), (⟨"PoleNave", "kindsBy", "(LPoleNave$Row;I)I"⟩, 16)]
theorem lw_r1 : ∀ q ∈ lw_privs_1, lw_okq q := List.forall_mem_cons.mpr ⟨lw_p0, List.forall_mem_cons.mpr ⟨lw_p1, List.forall_mem_cons.mpr ⟨lw_p2, List.forall_mem_cons.mpr ⟨lw_p3, List.forall_mem_cons.mpr ⟨lw_p4, List.forall_mem_cons.mpr ⟨lw_p5, List.forall_mem_cons.mpr ⟨lw_p6, List.forall_mem_cons.mpr ⟨lw_p7, List.forall_mem_cons.mpr ⟨lw_p8, List.forall_mem_cons.mpr ⟨lw_p9, List.forall_mem_cons.mpr ⟨lw_p10, List.forall_mem_cons.mpr ⟨lw_p11, List.forall_mem_cons.mpr ⟨lw_p12, List.forall_mem_cons.mpr ⟨lw_p13, List.forall_mem_cons.mpr ⟨lw_p14, List.forall_mem_cons.mpr ⟨lw_p15, fun _ h => absurd h List.not_mem_nil⟩⟩⟩⟩⟩⟩⟩⟩⟩⟩⟩⟩⟩⟩⟩⟩
theorem lw_p16 : lw_okq (⟨"PoleNave$Schools", "seat", "(II)V"⟩, 6) := ⟨⟨by decide +kernel, by decide +kernel⟩, List.mem_of_getElem? (i := 185) (by decide +kernel), List.mem_of_getElem? (i := 709) (by decide +kernel), List.mem_of_getElem? (i := 710) (by decide +kernel)⟩
theorem lw_p17 : lw_okq (⟨"PoleNave$Schools", "worth", "()I"⟩, 6) := ⟨⟨by decide +kernel, by decide +kernel⟩, List.mem_of_getElem? (i := 185) (by decide +kernel), List.mem_of_getElem? (i := 720) (by decide +kernel), List.mem_of_getElem? (i := 721) (by decide +kernel)⟩
theorem lw_p18 : lw_okq (⟨"PoleNave$Schools", "unseat", "(I)I"⟩, 6) := ⟨⟨by decide +kernel, by decide +kernel⟩, List.mem_of_getElem? (i := 185) (by decide +kernel), List.mem_of_getElem? (i := 728) (by decide +kernel), List.mem_of_getElem? (i := 729) (by decide +kernel)⟩
theorem lw_p19 : lw_okq (⟨"PoleNave", "tellTwelfths", "(I)I"⟩, 16) := ⟨⟨by decide +kernel, by decide +kernel⟩, List.mem_of_getElem? (i := 14) (by decide +kernel), List.mem_of_getElem? (i := 739) (by decide +kernel), List.mem_of_getElem? (i := 740) (by decide +kernel)⟩
theorem lw_p20 : lw_okq (⟨"PoleNave", "deedByLot", "(I)I"⟩, 16) := ⟨⟨by decide +kernel, by decide +kernel⟩, List.mem_of_getElem? (i := 14) (by decide +kernel), List.mem_of_getElem? (i := 758) (by decide +kernel), List.mem_of_getElem? (i := 759) (by decide +kernel)⟩
theorem lw_p21 : lw_okq (⟨"PoleNave", "tally", "(I)I"⟩, 16) := ⟨⟨by decide +kernel, by decide +kernel⟩, List.mem_of_getElem? (i := 14) (by decide +kernel), List.mem_of_getElem? (i := 778) (by decide +kernel), List.mem_of_getElem? (i := 779) (by decide +kernel)⟩
theorem lw_p22 : lw_okq (⟨"PoleNave", "howManyKept", "()I"⟩, 16) := ⟨⟨by decide +kernel, by decide +kernel⟩, List.mem_of_getElem? (i := 14) (by decide +kernel), List.mem_of_getElem? (i := 789) (by decide +kernel), List.mem_of_getElem? (i := 790) (by decide +kernel)⟩
theorem lw_p23 : lw_okq (⟨"PoleNaveModel", "begins", "()V"⟩, 35) := ⟨⟨by decide +kernel, by decide +kernel⟩, List.mem_of_getElem? (i := 815) (by decide +kernel), List.mem_of_getElem? (i := 821) (by decide +kernel), List.mem_of_getElem? (i := 822) (by decide +kernel)⟩
theorem lw_p24 : lw_okq (⟨"PoleNaveModel", "found", "(I)I"⟩, 35) := ⟨⟨by decide +kernel, by decide +kernel⟩, List.mem_of_getElem? (i := 815) (by decide +kernel), List.mem_of_getElem? (i := 943) (by decide +kernel), List.mem_of_getElem? (i := 944) (by decide +kernel)⟩
theorem lw_p25 : lw_okq (⟨"PoleNaveModel", "tell", "(I)I"⟩, 35) := ⟨⟨by decide +kernel, by decide +kernel⟩, List.mem_of_getElem? (i := 815) (by decide +kernel), List.mem_of_getElem? (i := 951) (by decide +kernel), List.mem_of_getElem? (i := 952) (by decide +kernel)⟩
theorem lw_p26 : lw_okq (⟨"PoleNaveModel", "reads", "(I)I"⟩, 35) := ⟨⟨by decide +kernel, by decide +kernel⟩, List.mem_of_getElem? (i := 815) (by decide +kernel), List.mem_of_getElem? (i := 987) (by decide +kernel), List.mem_of_getElem? (i := 988) (by decide +kernel)⟩
theorem lw_p27 : lw_okq (⟨"PoleNaveModel", "here", "()I"⟩, 35) := ⟨⟨by decide +kernel, by decide +kernel⟩, List.mem_of_getElem? (i := 815) (by decide +kernel), List.mem_of_getElem? (i := 991) (by decide +kernel), List.mem_of_getElem? (i := 992) (by decide +kernel)⟩
theorem lw_p28 : lw_okq (⟨"PoleNaveModel", "readsOne", "()Z"⟩, 35) := ⟨⟨by decide +kernel, by decide +kernel⟩, List.mem_of_getElem? (i := 815) (by decide +kernel), List.mem_of_getElem? (i := 995) (by decide +kernel), List.mem_of_getElem? (i := 996) (by decide +kernel)⟩
theorem lw_p29 : lw_okq (⟨"PoleNaveModel", "isFigure", "(I)Z"⟩, 35) := ⟨⟨by decide +kernel, by decide +kernel⟩, List.mem_of_getElem? (i := 815) (by decide +kernel), List.mem_of_getElem? (i := 999) (by decide +kernel), List.mem_of_getElem? (i := 1000) (by decide +kernel)⟩
theorem lw_p30 : lw_okq (⟨"PoleNaveModel", "last", "()I"⟩, 35) := ⟨⟨by decide +kernel, by decide +kernel⟩, List.mem_of_getElem? (i := 815) (by decide +kernel), List.mem_of_getElem? (i := 1004) (by decide +kernel), List.mem_of_getElem? (i := 1005) (by decide +kernel)⟩
theorem lw_p31 : lw_okq (⟨"PoleNaveModel", "readsPole", "()Z"⟩, 35) := ⟨⟨by decide +kernel, by decide +kernel⟩, List.mem_of_getElem? (i := 815) (by decide +kernel), List.mem_of_getElem? (i := 1011) (by decide +kernel), List.mem_of_getElem? (i := 1012) (by decide +kernel)⟩
def lw_privs_2 : List (MethodName × Nat) := [(⟨"PoleNave$Schools", "seat", "(II)V"⟩, 6), (⟨"PoleNave$Schools", "worth", "()I"⟩, 6), (⟨"PoleNave$Schools", "unseat", "(I)I"⟩, 6), (⟨"PoleNave", "tellTwelfths", "(I)I"⟩, 16), (⟨"PoleNave", "deedByLot", "(I)I"⟩, 16), (⟨"PoleNave", "tally", "(I)I"⟩, 16), (⟨"PoleNave", "howManyKept", "()I"⟩, 16), (⟨"PoleNaveModel", "begins", "()V"⟩, 35), (⟨"PoleNaveModel", "found", "(I)I"⟩, 35), (⟨"PoleNaveModel", "tell", "(I)I"⟩, 35), (⟨"PoleNaveModel", "reads", "(I)I"⟩, 35), (⟨"PoleNaveModel", "here", "()I"⟩, 35), (⟨"PoleNaveModel", "readsOne", "()Z"⟩, 35), (⟨"PoleNaveModel", "isFigure", "(I)Z"⟩, 35), (⟨"PoleNaveModel", "last", "()I"⟩, 35), (⟨"PoleNaveModel", "readsPole", "()Z"⟩, 35)]
theorem lw_r2 : ∀ q ∈ lw_privs_2, lw_okq q := List.forall_mem_cons.mpr ⟨lw_p16, List.forall_mem_cons.mpr ⟨lw_p17, List.forall_mem_cons.mpr ⟨lw_p18, List.forall_mem_cons.mpr ⟨lw_p19, List.forall_mem_cons.mpr ⟨lw_p20, List.forall_mem_cons.mpr ⟨lw_p21, List.forall_mem_cons.mpr ⟨lw_p22, List.forall_mem_cons.mpr ⟨lw_p23, List.forall_mem_cons.mpr ⟨lw_p24, List.forall_mem_cons.mpr ⟨lw_p25, List.forall_mem_cons.mpr ⟨lw_p26, List.forall_mem_cons.mpr ⟨lw_p27, List.forall_mem_cons.mpr ⟨lw_p28, List.forall_mem_cons.mpr ⟨lw_p29, List.forall_mem_cons.mpr ⟨lw_p30, List.forall_mem_cons.mpr ⟨lw_p31, fun _ h => absurd h List.not_mem_nil⟩⟩⟩⟩⟩⟩⟩⟩⟩⟩⟩⟩⟩⟩⟩⟩
theorem lw_p32 : lw_okq (⟨"PoleNaveModel", "isStrength", "()Z"⟩, 35) := ⟨⟨by decide +kernel, by decide +kernel⟩, List.mem_of_getElem? (i := 815) (by decide +kernel), List.mem_of_getElem? (i := 1015) (by decide +kernel), List.mem_of_getElem? (i := 1016) (by decide +kernel)⟩
theorem lw_p33 : lw_okq (⟨"PoleNaveModel", "isPole", "(I)Z"⟩, 35) := ⟨⟨by decide +kernel, by decide +kernel⟩, List.mem_of_getElem? (i := 815) (by decide +kernel), List.mem_of_getElem? (i := 1027) (by decide +kernel), List.mem_of_getElem? (i := 1028) (by decide +kernel)⟩
theorem lw_p34 : lw_okq (⟨"PoleNaveModel", "bearsOn", "([II)I"⟩, 35) := ⟨⟨by decide +kernel, by decide +kernel⟩, List.mem_of_getElem? (i := 815) (by decide +kernel), List.mem_of_getElem? (i := 1031) (by decide +kernel), List.mem_of_getElem? (i := 1032) (by decide +kernel)⟩
theorem lw_p35 : lw_okq (⟨"PoleNaveModel", "bearsAs", "(III)I"⟩, 35) := ⟨⟨by decide +kernel, by decide +kernel⟩, List.mem_of_getElem? (i := 815) (by decide +kernel), List.mem_of_getElem? (i := 1035) (by decide +kernel), List.mem_of_getElem? (i := 1036) (by decide +kernel)⟩
theorem lw_p36 : lw_okq (⟨"PoleNaveModel", "loadOn", "([II)I"⟩, 35) := ⟨⟨by decide +kernel, by decide +kernel⟩, List.mem_of_getElem? (i := 815) (by decide +kernel), List.mem_of_getElem? (i := 1042) (by decide +kernel), List.mem_of_getElem? (i := 1043) (by decide +kernel)⟩
theorem lw_p37 : lw_okq (⟨"PoleNaveModel", "highOn", "(II)I"⟩, 35) := ⟨⟨by decide +kernel, by decide +kernel⟩, List.mem_of_getElem? (i := 815) (by decide +kernel), List.mem_of_getElem? (i := 1046) (by decide +kernel), List.mem_of_getElem? (i := 1047) (by decide +kernel)⟩
theorem lw_p38 : lw_okq (⟨"PoleNaveModel", "sittersOn", "([II)I"⟩, 35) := ⟨⟨by decide +kernel, by decide +kernel⟩, List.mem_of_getElem? (i := 815) (by decide +kernel), List.mem_of_getElem? (i := 1050) (by decide +kernel), List.mem_of_getElem? (i := 1051) (by decide +kernel)⟩
theorem lw_p39 : lw_okq (⟨"PoleNaveModel", "isOne", "(I)Z"⟩, 35) := ⟨⟨by decide +kernel, by decide +kernel⟩, List.mem_of_getElem? (i := 815) (by decide +kernel), List.mem_of_getElem? (i := 1058) (by decide +kernel), List.mem_of_getElem? (i := 1059) (by decide +kernel)⟩
theorem lw_p40 : lw_okq (⟨"PoleNaveModel", "remember", "()V"⟩, 35) := ⟨⟨by decide +kernel, by decide +kernel⟩, List.mem_of_getElem? (i := 815) (by decide +kernel), List.mem_of_getElem? (i := 1084) (by decide +kernel), List.mem_of_getElem? (i := 1085) (by decide +kernel)⟩
theorem lw_p41 : lw_okq (⟨"PoleNaveModel", "refuses", "(I)I"⟩, 35) := ⟨⟨by decide +kernel, by decide +kernel⟩, List.mem_of_getElem? (i := 815) (by decide +kernel), List.mem_of_getElem? (i := 1103) (by decide +kernel), List.mem_of_getElem? (i := 1104) (by decide +kernel)⟩
theorem lw_p42 : lw_okq (⟨"PoleNaveModel", "yearGoes", "([I)I"⟩, 35) := ⟨⟨by decide +kernel, by decide +kernel⟩, List.mem_of_getElem? (i := 815) (by decide +kernel), List.mem_of_getElem? (i := 1111) (by decide +kernel), List.mem_of_getElem? (i := 1112) (by decide +kernel)⟩
theorem lw_p43 : lw_okq (⟨"PoleNaveModel", "holdsOn", "([II)Z"⟩, 35) := ⟨⟨by decide +kernel, by decide +kernel⟩, List.mem_of_getElem? (i := 815) (by decide +kernel), List.mem_of_getElem? (i := 1115) (by decide +kernel), List.mem_of_getElem? (i := 1116) (by decide +kernel)⟩
theorem lw_p44 : lw_okq (⟨"PoleNaveModel", "answer", "(II)I"⟩, 35) := ⟨⟨by decide +kernel, by decide +kernel⟩, List.mem_of_getElem? (i := 815) (by decide +kernel), List.mem_of_getElem? (i := 1136) (by decide +kernel), List.mem_of_getElem? (i := 1137) (by decide +kernel)⟩
theorem lw_p45 : lw_okq (⟨"PoleNaveModel", "layAside", "()V"⟩, 35) := ⟨⟨by decide +kernel, by decide +kernel⟩, List.mem_of_getElem? (i := 815) (by decide +kernel), List.mem_of_getElem? (i := 1144) (by decide +kernel), List.mem_of_getElem? (i := 1145) (by decide +kernel)⟩
theorem lw_p46 : lw_okq (⟨"PoleNaveModel", "highAll", "([I)I"⟩, 35) := ⟨⟨by decide +kernel, by decide +kernel⟩, List.mem_of_getElem? (i := 815) (by decide +kernel), List.mem_of_getElem? (i := 1153) (by decide +kernel), List.mem_of_getElem? (i := 1154) (by decide +kernel)⟩
theorem lw_p47 : lw_okq (⟨"PoleNaveModel", "layRow", "(II)V"⟩, 35) := ⟨⟨by decide +kernel, by decide +kernel⟩, List.mem_of_getElem? (i := 815) (by decide +kernel), List.mem_of_getElem? (i := 1161) (by decide +kernel), List.mem_of_getElem? (i := 1162) (by decide +kernel)⟩
def lw_privs_3 : List (MethodName × Nat) := [(⟨"PoleNaveModel", "isStrength", "()Z"⟩, 35), (⟨"PoleNaveModel", "isPole", "(I)Z"⟩, 35), (⟨"PoleNaveModel", "bearsOn", "([II)I"⟩, 35), (⟨"PoleNaveModel", "bearsAs", "(III)I"⟩, 35), (⟨"PoleNaveModel", "loadOn", "([II)I"⟩, 35), (⟨"PoleNaveModel", "highOn", "(II)I"⟩, 35), (⟨"PoleNaveModel", "sittersOn", "([II)I"⟩, 35), (⟨"PoleNaveModel", "isOne", "(I)Z"⟩, 35), (⟨"PoleNaveModel", "remember", "()V"⟩, 35), (⟨"PoleNaveModel", "refuses", "(I)I"⟩, 35), (⟨"PoleNaveModel", "yearGoes", "([I)I"⟩, 35), (⟨"PoleNaveModel", "holdsOn", "([II)Z"⟩, 35), (⟨"PoleNaveModel", "answer", "(II)I"⟩, 35), (⟨"PoleNaveModel", "layAside", "()V"⟩, 35), (⟨"PoleNaveModel", "highAll", "([I)I"⟩, 35), (⟨"PoleNaveModel", "layRow", "(II)V"⟩, 35)]
theorem lw_r3 : ∀ q ∈ lw_privs_3, lw_okq q := List.forall_mem_cons.mpr ⟨lw_p32, List.forall_mem_cons.mpr ⟨lw_p33, List.forall_mem_cons.mpr ⟨lw_p34, List.forall_mem_cons.mpr ⟨lw_p35, List.forall_mem_cons.mpr ⟨lw_p36, List.forall_mem_cons.mpr ⟨lw_p37, List.forall_mem_cons.mpr ⟨lw_p38, List.forall_mem_cons.mpr ⟨lw_p39, List.forall_mem_cons.mpr ⟨lw_p40, List.forall_mem_cons.mpr ⟨lw_p41, List.forall_mem_cons.mpr ⟨lw_p42, List.forall_mem_cons.mpr ⟨lw_p43, List.forall_mem_cons.mpr ⟨lw_p44, List.forall_mem_cons.mpr ⟨lw_p45, List.forall_mem_cons.mpr ⟨lw_p46, List.forall_mem_cons.mpr ⟨lw_p47, fun _ h => absurd h List.not_mem_nil⟩⟩⟩⟩⟩⟩⟩⟩⟩⟩⟩⟩⟩⟩⟩⟩
theorem lw_p48 : lw_okq (⟨"PoleNaveModel", "laySeating", "(IZ)Z"⟩, 35) := ⟨⟨by decide +kernel, by decide +kernel⟩, List.mem_of_getElem? (i := 815) (by decide +kernel), List.mem_of_getElem? (i := 1168) (by decide +kernel), List.mem_of_getElem? (i := 1169) (by decide +kernel)⟩
theorem lw_p49 : lw_okq (⟨"PoleNaveModel", "failing", "()I"⟩, 35) := ⟨⟨by decide +kernel, by decide +kernel⟩, List.mem_of_getElem? (i := 815) (by decide +kernel), List.mem_of_getElem? (i := 1172) (by decide +kernel), List.mem_of_getElem? (i := 1173) (by decide +kernel)⟩
theorem lw_p50 : lw_okq (⟨"PoleNaveModel", "lacingsBy", "(II)I"⟩, 35) := ⟨⟨by decide +kernel, by decide +kernel⟩, List.mem_of_getElem? (i := 815) (by decide +kernel), List.mem_of_getElem? (i := 1192) (by decide +kernel), List.mem_of_getElem? (i := 1193) (by decide +kernel)⟩
theorem lw_p51 : lw_okq (⟨"PoleNaveModel", "refusesTriples", "(I)I"⟩, 35) := ⟨⟨by decide +kernel, by decide +kernel⟩, List.mem_of_getElem? (i := 815) (by decide +kernel), List.mem_of_getElem? (i := 1200) (by decide +kernel), List.mem_of_getElem? (i := 1201) (by decide +kernel)⟩
theorem lw_p52 : lw_okq (⟨"PoleNaveModel", "fits", "(IIII)Z"⟩, 35) := ⟨⟨by decide +kernel, by decide +kernel⟩, List.mem_of_getElem? (i := 815) (by decide +kernel), List.mem_of_getElem? (i := 1205) (by decide +kernel), List.mem_of_getElem? (i := 1206) (by decide +kernel)⟩
theorem lw_p53 : lw_okq (⟨"PoleNaveModel", "kindsBy", "(II)I"⟩, 35) := ⟨⟨by decide +kernel, by decide +kernel⟩, List.mem_of_getElem? (i := 815) (by decide +kernel), List.mem_of_getElem? (i := 1213) (by decide +kernel), List.mem_of_getElem? (i := 1214) (by decide +kernel)⟩
theorem lw_p54 : lw_okq (⟨"PoleNaveModel", "opens", "(I)V"⟩, 35) := ⟨⟨by decide +kernel, by decide +kernel⟩, List.mem_of_getElem? (i := 815) (by decide +kernel), List.mem_of_getElem? (i := 1226) (by decide +kernel), List.mem_of_getElem? (i := 1227) (by decide +kernel)⟩
theorem lw_p55 : lw_okq (⟨"PoleNaveModel", "nextMove", "(I)Z"⟩, 35) := ⟨⟨by decide +kernel, by decide +kernel⟩, List.mem_of_getElem? (i := 815) (by decide +kernel), List.mem_of_getElem? (i := 1231) (by decide +kernel), List.mem_of_getElem? (i := 1232) (by decide +kernel)⟩
theorem lw_p56 : lw_okq (⟨"PoleNaveModel", "moves", "(I)Z"⟩, 35) := ⟨⟨by decide +kernel, by decide +kernel⟩, List.mem_of_getElem? (i := 815) (by decide +kernel), List.mem_of_getElem? (i := 1235) (by decide +kernel), List.mem_of_getElem? (i := 1236) (by decide +kernel)⟩
theorem lw_p57 : lw_okq (⟨"PoleNaveModel", "whoMoves", "(I)I"⟩, 35) := ⟨⟨by decide +kernel, by decide +kernel⟩, List.mem_of_getElem? (i := 815) (by decide +kernel), List.mem_of_getElem? (i := 1239) (by decide +kernel), List.mem_of_getElem? (i := 1240) (by decide +kernel)⟩
theorem lw_p58 : lw_okq (⟨"PoleNaveModel", "worth", "()I"⟩, 35) := ⟨⟨by decide +kernel, by decide +kernel⟩, List.mem_of_getElem? (i := 815) (by decide +kernel), List.mem_of_getElem? (i := 1243) (by decide +kernel), List.mem_of_getElem? (i := 1244) (by decide +kernel)⟩
theorem lw_p59 : lw_okq (⟨"PoleNaveModel", "weighs", "(II)V"⟩, 35) := ⟨⟨by decide +kernel, by decide +kernel⟩, List.mem_of_getElem? (i := 815) (by decide +kernel), List.mem_of_getElem? (i := 1247) (by decide +kernel), List.mem_of_getElem? (i := 1248) (by decide +kernel)⟩
theorem lw_p60 : lw_okq (⟨"PoleNaveModel", "fraction", "(II)I"⟩, 35) := ⟨⟨by decide +kernel, by decide +kernel⟩, List.mem_of_getElem? (i := 815) (by decide +kernel), List.mem_of_getElem? (i := 1256) (by decide +kernel), List.mem_of_getElem? (i := 1257) (by decide +kernel)⟩
theorem lw_p61 : lw_okq (⟨"PoleNaveModel", "lot", "(I)V"⟩, 35) := ⟨⟨by decide +kernel, by decide +kernel⟩, List.mem_of_getElem? (i := 815) (by decide +kernel), List.mem_of_getElem? (i := 1271) (by decide +kernel), List.mem_of_getElem? (i := 1272) (by decide +kernel)⟩
theorem lw_p62 : lw_okq (⟨"PoleNaveModel", "whoAreUp", "()I"⟩, 35) := ⟨⟨by decide +kernel, by decide +kernel⟩, List.mem_of_getElem? (i := 815) (by decide +kernel), List.mem_of_getElem? (i := 1291) (by decide +kernel), List.mem_of_getElem? (i := 1292) (by decide +kernel)⟩
theorem lw_p63 : lw_okq (⟨"PoleNaveModel", "laced", "()I"⟩, 35) := ⟨⟨by decide +kernel, by decide +kernel⟩, List.mem_of_getElem? (i := 815) (by decide +kernel), List.mem_of_getElem? (i := 1298) (by decide +kernel), List.mem_of_getElem? (i := 1299) (by decide +kernel)⟩
def lw_privs_4 : List (MethodName × Nat) := [(⟨"PoleNaveModel", "laySeating", "(IZ)Z"⟩, 35), (⟨"PoleNaveModel", "failing", "()I"⟩, 35), (⟨"PoleNaveModel", "lacingsBy", "(II)I"⟩, 35), (⟨"PoleNaveModel", "refusesTriples", "(I)I"⟩, 35), (⟨"PoleNaveModel", "fits", "(IIII)Z"⟩, 35), (⟨"PoleNaveModel", "kindsBy", "(II)I"⟩, 35), (⟨"PoleNaveModel", "opens", "(I)V"⟩, 35), (⟨"PoleNaveModel", "nextMove", "(I)Z"⟩, 35), (⟨"PoleNaveModel", "moves", "(I)Z"⟩, 35), (⟨"PoleNaveModel", "whoMoves", "(I)I"⟩, 35), (⟨"PoleNaveModel", "worth", "()I"⟩, 35), (⟨"PoleNaveModel", "weighs", "(II)V"⟩, 35), (⟨"PoleNaveModel", "fraction", "(II)I"⟩, 35), (⟨"PoleNaveModel", "lot", "(I)V"⟩, 35), (⟨"PoleNaveModel", "whoAreUp", "()I"⟩, 35), (⟨"PoleNaveModel", "laced", "()I"⟩, 35)]
theorem lw_r4 : ∀ q ∈ lw_privs_4, lw_okq q := List.forall_mem_cons.mpr ⟨lw_p48, List.forall_mem_cons.mpr ⟨lw_p49, List.forall_mem_cons.mpr ⟨lw_p50, List.forall_mem_cons.mpr ⟨lw_p51, List.forall_mem_cons.mpr ⟨lw_p52, List.forall_mem_cons.mpr ⟨lw_p53, List.forall_mem_cons.mpr ⟨lw_p54, List.forall_mem_cons.mpr ⟨lw_p55, List.forall_mem_cons.mpr ⟨lw_p56, List.forall_mem_cons.mpr ⟨lw_p57, List.forall_mem_cons.mpr ⟨lw_p58, List.forall_mem_cons.mpr ⟨lw_p59, List.forall_mem_cons.mpr ⟨lw_p60, List.forall_mem_cons.mpr ⟨lw_p61, List.forall_mem_cons.mpr ⟨lw_p62, List.forall_mem_cons.mpr ⟨lw_p63, fun _ h => absurd h List.not_mem_nil⟩⟩⟩⟩⟩⟩⟩⟩⟩⟩⟩⟩⟩⟩⟩⟩
def lw_privs : List (MethodName × Nat) := lw_privs_1 ++ (lw_privs_2 ++ (lw_privs_3 ++ (lw_privs_4)))
def lw_tbl : List Cond := k2_sels lw_privs ++ tables_1
theorem lw_privs_ok : ∀ q ∈ lw_privs, lw_okq q := by
  show ∀ q ∈ lw_privs_1 ++ (lw_privs_2 ++ (lw_privs_3 ++ (lw_privs_4))), lw_okq q
  exact List.forall_mem_append.mpr ⟨lw_r1, List.forall_mem_append.mpr ⟨lw_r2, List.forall_mem_append.mpr ⟨lw_r3, lw_r4⟩⟩⟩
def RX0 : String := "PoleNave$Deeds"
def TX0 : u_T := fun k => match k with
  | 0 => ("PoleNave$Deeds", "codes", "[I", true)
  | _ => ("PoleNave$Deeds", "size", "I", false)
def tyX0 : Nat → FieldType := fun k => match k with
  | 0 => .array .int
  | _ => .int
abbrev wsX00 : List Cond := u_ws RX0 TX0 2
theorem nmX0 : ∀ a, a < 2 → ∀ b, b < 2 → a ≠ b → (TX0 a).2.1 ≠ (TX0 b).2.1 := by decide +kernel
theorem tyX0_ok : ∀ k, k < 2 → parseFieldDescriptor (TX0 k).2.2.1 = some (tyX0 k) := by decide +kernel
abbrev cX0_init : ByteArray := prog_2_method_1_code
def yX0_init : MethodName := ⟨RX0, "<init>", "()V"⟩
abbrev cX0_add : ByteArray := prog_2_method_2_code
def yX0_add : MethodName := ⟨RX0, "add", "(I)V"⟩
abbrev cX0_take : ByteArray := prog_2_method_3_code
def yX0_take : MethodName := ⟨RX0, "take", "(LPoleNave$Deeds;)V"⟩
def RX1 : String := "PoleNave$Lacings"
def TX1 : u_T := fun k => match k with
  | 0 => ("PoleNave$Lacings", "plan", "LPoleNave$Plan;", true)
  | 1 => ("PoleNave$Lacings", "wear", "[[I", true)
  | 2 => ("PoleNave$Lacings", "loads", "[I", true)
  | 3 => ("PoleNave$Lacings", "laced", "[I", true)
  | 4 => ("PoleNave$Lacings", "first", "[I", true)
  | 5 => ("PoleNave$Lacings", "up", "I", false)
  | 6 => ("PoleNave$Lacings", "years", "I", false)
  | _ => ("PoleNave$Lacings", "fewestLaced", "I", false)
def tyX1 : Nat → FieldType := fun k => match k with
  | 0 => .object "PoleNave$Plan"
  | 1 => .array (.array .int)
  | 2 => .array .int
  | 3 => .array .int
  | 4 => .array .int
  | 5 => .int
  | 6 => .int
  | _ => .int
abbrev wsX10 : List Cond := u_ws RX1 TX1 8
theorem nmX1 : ∀ a, a < 8 → ∀ b, b < 8 → a ≠ b → (TX1 a).2.1 ≠ (TX1 b).2.1 := by decide +kernel
theorem tyX1_ok : ∀ k, k < 8 → parseFieldDescriptor (TX1 k).2.2.1 = some (tyX1 k) := by decide +kernel
abbrev cX1_init : ByteArray := prog_3_method_1_code
def yX1_init : MethodName := ⟨RX1, "<init>", "(LPoleNave$Plan;)V"⟩
abbrev cX1_begin : ByteArray := prog_3_method_2_code
def yX1_begin : MethodName := ⟨RX1, "begin", "(LPoleNave$Scaffold;I)V"⟩
abbrev cX1_laceOn : ByteArray := prog_3_method_3_code
def yX1_laceOn : MethodName := ⟨RX1, "laceOn", "(LPoleNave$Lacings;II)V"⟩
abbrev cX1_holdsOut : ByteArray := prog_3_method_4_code
def yX1_holdsOut : MethodName := ⟨RX1, "holdsOut", "(II)Z"⟩
def RX2 : String := "PoleNave$Plan"
def TX2 : u_T := fun k => match k with
  | 0 => ("PoleNave$Plan", "kinds", "[I", true)
  | 1 => ("PoleNave$Plan", "talls", "[I", true)
  | 2 => ("PoleNave$Plan", "strongs", "[I", true)
  | 3 => ("PoleNave$Plan", "weights", "[I", true)
  | 4 => ("PoleNave$Plan", "devouts", "[I", true)
  | 5 => ("PoleNave$Plan", "poles", "I", false)
  | _ => ("PoleNave$Plan", "people", "I", false)
def tyX2 : Nat → FieldType := fun k => match k with
  | 0 => .array .int
  | 1 => .array .int
  | 2 => .array .int
  | 3 => .array .int
  | 4 => .array .int
  | 5 => .int
  | _ => .int
abbrev wsX20 : List Cond := u_ws RX2 TX2 7
theorem nmX2 : ∀ a, a < 7 → ∀ b, b < 7 → a ≠ b → (TX2 a).2.1 ≠ (TX2 b).2.1 := by decide +kernel
theorem tyX2_ok : ∀ k, k < 7 → parseFieldDescriptor (TX2 k).2.2.1 = some (tyX2 k) := by decide +kernel
abbrev cX2_init : ByteArray := prog_4_method_1_code
def yX2_init : MethodName := ⟨RX2, "<init>", "()V"⟩
abbrev cX2_isEmpty : ByteArray := prog_4_method_2_code
def yX2_isEmpty : MethodName := ⟨RX2, "isEmpty", "()Z"⟩
abbrev cX2_isPole : ByteArray := prog_4_method_3_code
def yX2_isPole : MethodName := ⟨RX2, "isPole", "(I)Z"⟩
abbrev cX2_isOne : ByteArray := prog_4_method_4_code
def yX2_isOne : MethodName := ⟨RX2, "isOne", "(I)Z"⟩
abbrev cX2_read : ByteArray := prog_4_method_5_code
def yX2_read : MethodName := ⟨RX2, "read", "(LPoleNave$Row;)I"⟩
abbrev cX2_readPole : ByteArray := prog_4_method_6_code
def yX2_readPole : MethodName := ⟨RX2, "readPole", "(LPoleNave$Row;II)I"⟩
abbrev cX2_readOne : ByteArray := prog_4_method_7_code
def yX2_readOne : MethodName := ⟨RX2, "readOne", "(LPoleNave$Row;I)I"⟩
abbrev cX2_figure : ByteArray := prog_4_method_8_code
def yX2_figure : MethodName := ⟨RX2, "figure", "(LPoleNave$Row;I)I"⟩
abbrev cX2_kindOf : ByteArray := prog_4_method_9_code
def yX2_kindOf : MethodName := ⟨RX2, "kindOf", "(I)I"⟩
abbrev cX2_highOn : ByteArray := prog_4_method_10_code
def yX2_highOn : MethodName := ⟨RX2, "highOn", "(II)I"⟩
abbrev cX2_loadBy : ByteArray := prog_4_method_11_code
def yX2_loadBy : MethodName := ⟨RX2, "loadBy", "(II)I"⟩
abbrev cX2_bearsWith : ByteArray := prog_4_method_12_code
def yX2_bearsWith : MethodName := ⟨RX2, "bearsWith", "(II)I"⟩
abbrev cX2_howManyLaced : ByteArray := prog_4_method_13_code
def yX2_howManyLaced : MethodName := ⟨RX2, "howManyLaced", "()I"⟩
def RX3 : String := "PoleNave$Row"
def TX3 : u_T := fun k => match k with
  | 0 => ("PoleNave$Row", "places", "[I", true)
  | _ => ("PoleNave$Row", "size", "I", false)
def tyX3 : Nat → FieldType := fun k => match k with
  | 0 => .array .int
  | _ => .int
abbrev wsX30 : List Cond := u_ws RX3 TX3 2
theorem nmX3 : ∀ a, a < 2 → ∀ b, b < 2 → a ≠ b → (TX3 a).2.1 ≠ (TX3 b).2.1 := by decide +kernel
theorem tyX3_ok : ∀ k, k < 2 → parseFieldDescriptor (TX3 k).2.2.1 = some (tyX3 k) := by decide +kernel
abbrev cX3_init : ByteArray := prog_5_method_1_code
def yX3_init : MethodName := ⟨RX3, "<init>", "()V"⟩
abbrev cX3_isMissing : ByteArray := prog_5_method_2_code
def yX3_isMissing : MethodName := ⟨RX3, "isMissing", "()Z"⟩
abbrev cX3_has : ByteArray := prog_5_method_3_code
def yX3_has : MethodName := ⟨RX3, "has", "(I)Z"⟩
abbrev cX3_hasRun : ByteArray := prog_5_method_4_code
def yX3_hasRun : MethodName := ⟨RX3, "hasRun", "(II)Z"⟩
abbrev cX3_findingAt : ByteArray := prog_5_method_5_code
def yX3_findingAt : MethodName := ⟨RX3, "findingAt", "(I)I"⟩
abbrev cX3_get : ByteArray := prog_5_method_6_code
def yX3_get : MethodName := ⟨RX3, "get", "(I)I"⟩
abbrev cX3_set : ByteArray := prog_5_method_7_code
def yX3_set : MethodName := ⟨RX3, "set", "(II)V"⟩
abbrev cX3_fill : ByteArray := prog_5_method_8_code
def yX3_fill : MethodName := ⟨RX3, "fill", "(II)V"⟩
abbrev cX3_take : ByteArray := prog_5_method_9_code
def yX3_take : MethodName := ⟨RX3, "take", "([II)V"⟩
def RX4 : String := "PoleNave$Scaffold"
def TX4 : u_T := fun k => match k with
  | 0 => ("PoleNave$Scaffold", "plan", "LPoleNave$Plan;", true)
  | 1 => ("PoleNave$Scaffold", "wear", "[I", true)
  | 2 => ("PoleNave$Scaffold", "seats", "[I", true)
  | 3 => ("PoleNave$Scaffold", "fallen", "I", false)
  | 4 => ("PoleNave$Scaffold", "years", "I", false)
  | _ => ("PoleNave$Scaffold", "stones", "I", false)
def tyX4 : Nat → FieldType := fun k => match k with
  | 0 => .object "PoleNave$Plan"
  | 1 => .array .int
  | 2 => .array .int
  | 3 => .int
  | 4 => .int
  | _ => .int
abbrev wsX40 : List Cond := u_ws RX4 TX4 6
theorem nmX4 : ∀ a, a < 6 → ∀ b, b < 6 → a ≠ b → (TX4 a).2.1 ≠ (TX4 b).2.1 := by decide +kernel
theorem tyX4_ok : ∀ k, k < 6 → parseFieldDescriptor (TX4 k).2.2.1 = some (tyX4 k) := by decide +kernel
abbrev cX4_init : ByteArray := prog_6_method_1_code
def yX4_init : MethodName := ⟨RX4, "<init>", "(LPoleNave$Plan;)V"⟩
abbrev cX4_begin : ByteArray := prog_6_method_2_code
def yX4_begin : MethodName := ⟨RX4, "begin", "()V"⟩
abbrev cX4_take : ByteArray := prog_6_method_3_code
def yX4_take : MethodName := ⟨RX4, "take", "(LPoleNave$Scaffold;)V"⟩
abbrev cX4_replay : ByteArray := prog_6_method_4_code
def yX4_replay : MethodName := ⟨RX4, "replay", "(LPoleNave$Deeds;)V"⟩
abbrev cX4_apply : ByteArray := prog_6_method_5_code
def yX4_apply : MethodName := ⟨RX4, "apply", "(I)I"⟩
abbrev cX4_goUp : ByteArray := prog_6_method_6_code
def yX4_goUp : MethodName := ⟨RX4, "goUp", "(II)I"⟩
abbrev cX4_comeDown : ByteArray := prog_6_method_7_code
def yX4_comeDown : MethodName := ⟨RX4, "comeDown", "(I)I"⟩
abbrev cX4_renew : ByteArray := prog_6_method_8_code
def yX4_renew : MethodName := ⟨RX4, "renew", "(I)I"⟩
abbrev cX4_passYear : ByteArray := prog_6_method_9_code
def yX4_passYear : MethodName := ⟨RX4, "passYear", "()I"⟩
abbrev cX4_isUp : ByteArray := prog_6_method_10_code
def yX4_isUp : MethodName := ⟨RX4, "isUp", "(I)Z"⟩
abbrev cX4_isSeated : ByteArray := prog_6_method_11_code
def yX4_isSeated : MethodName := ⟨RX4, "isSeated", "(I)Z"⟩
abbrev cX4_stands : ByteArray := prog_6_method_12_code
def yX4_stands : MethodName := ⟨RX4, "stands", "(I)Z"⟩
abbrev cX4_up : ByteArray := prog_6_method_13_code
def yX4_up : MethodName := ⟨RX4, "up", "()I"⟩
abbrev cX4_standing : ByteArray := prog_6_method_14_code
def yX4_standing : MethodName := ⟨RX4, "standing", "()I"⟩
abbrev cX4_loadOn : ByteArray := prog_6_method_15_code
def yX4_loadOn : MethodName := ⟨RX4, "loadOn", "(I)I"⟩
abbrev cX4_bearsNow : ByteArray := prog_6_method_16_code
def yX4_bearsNow : MethodName := ⟨RX4, "bearsNow", "(I)I"⟩
abbrev cX4_bearsAs : ByteArray := prog_6_method_17_code
def yX4_bearsAs : MethodName := ⟨RX4, "bearsAs", "(II)I"⟩
abbrev cX4_howManyHold : ByteArray := prog_6_method_18_code
def yX4_howManyHold : MethodName := ⟨RX4, "howManyHold", "(III)I"⟩
abbrev cX4_seatedOn : ByteArray := prog_6_method_19_code
def yX4_seatedOn : MethodName := ⟨RX4, "seatedOn", "(I)I"⟩
abbrev cX4_seatedPeople : ByteArray := prog_6_method_20_code
def yX4_seatedPeople : MethodName := ⟨RX4, "seatedPeople", "()I"⟩
abbrev cX4_highOfAll : ByteArray := prog_6_method_21_code
def yX4_highOfAll : MethodName := ⟨RX4, "highOfAll", "()I"⟩
abbrev cX4_highOfStanding : ByteArray := prog_6_method_22_code
def yX4_highOfStanding : MethodName := ⟨RX4, "highOfStanding", "()I"⟩
abbrev cX4_ofPole : ByteArray := prog_6_method_23_code
def yX4_ofPole : MethodName := ⟨RX4, "ofPole", "(II)I"⟩
abbrev cX4_ofOne : ByteArray := prog_6_method_24_code
def yX4_ofOne : MethodName := ⟨RX4, "ofOne", "(II)I"⟩
def RX5 : String := "PoleNave$Schools"
def TX5 : u_T := fun k => match k with
  | 0 => ("PoleNave$Schools", "plan", "LPoleNave$Plan;", true)
  | 1 => ("PoleNave$Schools", "seats", "[I", true)
  | 2 => ("PoleNave$Schools", "loads", "[I", true)
  | 3 => ("PoleNave$Schools", "highs", "[I", true)
  | 4 => ("PoleNave$Schools", "bearing", "[I", true)
  | _ => ("PoleNave$Schools", "up", "I", false)
def tyX5 : Nat → FieldType := fun k => match k with
  | 0 => .object "PoleNave$Plan"
  | 1 => .array .int
  | 2 => .array .int
  | 3 => .array .int
  | 4 => .array .int
  | _ => .int
abbrev wsX50 : List Cond := u_ws RX5 TX5 6
theorem nmX5 : ∀ a, a < 6 → ∀ b, b < 6 → a ≠ b → (TX5 a).2.1 ≠ (TX5 b).2.1 := by decide +kernel
theorem tyX5_ok : ∀ k, k < 6 → parseFieldDescriptor (TX5 k).2.2.1 = some (tyX5 k) := by decide +kernel
abbrev cX5_init : ByteArray := prog_7_method_1_code
def yX5_init : MethodName := ⟨RX5, "<init>", "(LPoleNave$Plan;)V"⟩
abbrev cX5_begin : ByteArray := prog_7_method_2_code
def yX5_begin : MethodName := ⟨RX5, "begin", "(LPoleNave$Scaffold;)V"⟩
abbrev cX5_seat : ByteArray := prog_7_method_3_code
def yX5_seat : MethodName := ⟨RX5, "seat", "(II)V"⟩
abbrev cX5_unseat : ByteArray := prog_7_method_4_code
def yX5_unseat : MethodName := ⟨RX5, "unseat", "(I)I"⟩
abbrev cX5_worth : ByteArray := prog_7_method_5_code
def yX5_worth : MethodName := ⟨RX5, "worth", "()I"⟩
abbrev cX5_sendUp : ByteArray := prog_7_method_6_code
def yX5_sendUp : MethodName := ⟨RX5, "sendUp", "(LPoleNave$Schools;III)I"⟩
abbrev cX5_callDown : ByteArray := prog_7_method_7_code
def yX5_callDown : MethodName := ⟨RX5, "callDown", "(LPoleNave$Schools;III)I"⟩
def RX6 : String := "PoleNave$Seating"
def TX6 : u_T := fun k => match k with
  | 0 => ("PoleNave$Seating", "plan", "LPoleNave$Plan;", true)
  | 1 => ("PoleNave$Seating", "spare", "[I", true)
  | 2 => ("PoleNave$Seating", "hopes", "[I", true)
  | 3 => ("PoleNave$Seating", "seats", "[I", true)
  | 4 => ("PoleNave$Seating", "first", "[I", true)
  | 5 => ("PoleNave$Seating", "most", "I", false)
  | _ => ("PoleNave$Seating", "fewestUsed", "I", false)
def tyX6 : Nat → FieldType := fun k => match k with
  | 0 => .object "PoleNave$Plan"
  | 1 => .array .int
  | 2 => .array .int
  | 3 => .array .int
  | 4 => .array .int
  | 5 => .int
  | _ => .int
abbrev wsX60 : List Cond := u_ws RX6 TX6 7
theorem nmX6 : ∀ a, a < 7 → ∀ b, b < 7 → a ≠ b → (TX6 a).2.1 ≠ (TX6 b).2.1 := by decide +kernel
theorem tyX6_ok : ∀ k, k < 7 → parseFieldDescriptor (TX6 k).2.2.1 = some (tyX6 k) := by decide +kernel
abbrev cX6_init : ByteArray := prog_8_method_1_code
def yX6_init : MethodName := ⟨RX6, "<init>", "(LPoleNave$Plan;)V"⟩
abbrev cX6_begin : ByteArray := prog_8_method_2_code
def yX6_begin : MethodName := ⟨RX6, "begin", "(LPoleNave$Scaffold;)V"⟩
abbrev cX6_seatHighest : ByteArray := prog_8_method_3_code
def yX6_seatHighest : MethodName := ⟨RX6, "seatHighest", "(LPoleNave$Seating;II)V"⟩
abbrev cX6_seatAll : ByteArray := prog_8_method_4_code
def yX6_seatAll : MethodName := ⟨RX6, "seatAll", "(LPoleNave$Seating;II)V"⟩
abbrev cX6_offer : ByteArray := prog_8_method_5_code
def yX6_offer : MethodName := ⟨RX6, "offer", "(I)V"⟩
def RX7 : String := "PoleNave"
def TX7 : u_T := fun k => match k with
  | 0 => ("PoleNave", "rows", "[LPoleNave$Row;", true)
  | 1 => ("PoleNave", "texts", "[LPoleNave$Row;", true)
  | 2 => ("PoleNave", "plan", "LPoleNave$Plan;", true)
  | 3 => ("PoleNave", "draft", "LPoleNave$Plan;", true)
  | 4 => ("PoleNave", "now", "LPoleNave$Scaffold;", true)
  | 5 => ("PoleNave", "aside", "LPoleNave$Scaffold;", true)
  | 6 => ("PoleNave", "deeds", "LPoleNave$Deeds;", true)
  | 7 => ("PoleNave", "keptDeeds", "[LPoleNave$Deeds;", true)
  | 8 => ("PoleNave", "seating", "LPoleNave$Seating;", true)
  | 9 => ("PoleNave", "lacings", "LPoleNave$Lacings;", true)
  | 10 => ("PoleNave", "schools", "LPoleNave$Schools;", true)
  | 11 => ("PoleNave", "answered", "[I", true)
  | 12 => ("PoleNave", "latestFinding", "I", false)
  | 13 => ("PoleNave", "told", "I", false)
  | 14 => ("PoleNave", "toldUpper", "J", false)
  | _ => ("PoleNave", "toldLower", "J", false)
def tyX7 : Nat → FieldType := fun k => match k with
  | 0 => .array (.object "PoleNave$Row")
  | 1 => .array (.object "PoleNave$Row")
  | 2 => .object "PoleNave$Plan"
  | 3 => .object "PoleNave$Plan"
  | 4 => .object "PoleNave$Scaffold"
  | 5 => .object "PoleNave$Scaffold"
  | 6 => .object "PoleNave$Deeds"
  | 7 => .array (.object "PoleNave$Deeds")
  | 8 => .object "PoleNave$Seating"
  | 9 => .object "PoleNave$Lacings"
  | 10 => .object "PoleNave$Schools"
  | 11 => .array .int
  | 12 => .int
  | 13 => .int
  | 14 => .long
  | _ => .long
abbrev wsX70 : List Cond := u_ws RX7 TX7 16
theorem nmX7 : ∀ a, a < 16 → ∀ b, b < 16 → a ≠ b → (TX7 a).2.1 ≠ (TX7 b).2.1 := by decide +kernel
theorem tyX7_ok : ∀ k, k < 16 → parseFieldDescriptor (TX7 k).2.2.1 = some (tyX7 k) := by decide +kernel
abbrev cX7_init : ByteArray := prog_1_method_1_code
def yX7_init : MethodName := ⟨RX7, "<init>", "()V"⟩
abbrev cX7_row : ByteArray := prog_1_method_2_code
def yX7_row : MethodName := ⟨RX7, "row", "(II)I"⟩
abbrev cX7_lay : ByteArray := prog_1_method_3_code
def yX7_lay : MethodName := ⟨RX7, "lay", "(III)I"⟩
abbrev cX7_at : ByteArray := prog_1_method_4_code
def yX7_at : MethodName := ⟨RX7, "at", "(II)I"⟩
abbrev cX7_tear : ByteArray := prog_1_method_5_code
def yX7_tear : MethodName := ⟨RX7, "tear", "(I)I"⟩
abbrev cX7_copy : ByteArray := prog_1_method_6_code
def yX7_copy : MethodName := ⟨RX7, "copy", "(IIIII)I"⟩
abbrev cX7_mean : ByteArray := prog_1_method_7_code
def yX7_mean : MethodName := ⟨RX7, "mean", "(I)I"⟩
abbrev cX7_text : ByteArray := prog_1_method_8_code
def yX7_text : MethodName := ⟨RX7, "text", "(II)I"⟩
abbrev cX7_put : ByteArray := prog_1_method_9_code
def yX7_put : MethodName := ⟨RX7, "put", "(III)I"⟩
abbrev cX7_fault : ByteArray := prog_1_method_10_code
def yX7_fault : MethodName := ⟨RX7, "fault", "(I)I"⟩
abbrev cX7_nave : ByteArray := prog_1_method_11_code
def yX7_nave : MethodName := ⟨RX7, "nave", "(I)I"⟩
abbrev cX7_pole : ByteArray := prog_1_method_12_code
def yX7_pole : MethodName := ⟨RX7, "pole", "(II)I"⟩
abbrev cX7_one : ByteArray := prog_1_method_13_code
def yX7_one : MethodName := ⟨RX7, "one", "(II)I"⟩
abbrev cX7_mark : ByteArray := prog_1_method_14_code
def yX7_mark : MethodName := ⟨RX7, "mark", "(II)I"⟩
abbrev cX7_bears : ByteArray := prog_1_method_15_code
def yX7_bears : MethodName := ⟨RX7, "bears", "(II)I"⟩
abbrev cX7_sit : ByteArray := prog_1_method_16_code
def yX7_sit : MethodName := ⟨RX7, "sit", "(II)I"⟩
abbrev cX7_down : ByteArray := prog_1_method_17_code
def yX7_down : MethodName := ⟨RX7, "down", "(I)I"⟩
abbrev cX7_lace : ByteArray := prog_1_method_18_code
def yX7_lace : MethodName := ⟨RX7, "lace", "(I)I"⟩
abbrev cX7_stone : ByteArray := prog_1_method_19_code
def yX7_stone : MethodName := ⟨RX7, "stone", "()I"⟩
abbrev cX7_year : ByteArray := prog_1_method_20_code
def yX7_year : MethodName := ⟨RX7, "year", "()I"⟩
abbrev cX7_undo : ByteArray := prog_1_method_21_code
def yX7_undo : MethodName := ⟨RX7, "undo", "(I)I"⟩
abbrev cX7_keep : ByteArray := prog_1_method_22_code
def yX7_keep : MethodName := ⟨RX7, "keep", "(I)I"⟩
abbrev cX7_on : ByteArray := prog_1_method_23_code
def yX7_on : MethodName := ⟨RX7, "on", "(I)I"⟩
abbrev cX7_holds : ByteArray := prog_1_method_24_code
def yX7_holds : MethodName := ⟨RX7, "holds", "()I"⟩
abbrev cX7_gives : ByteArray := prog_1_method_25_code
def yX7_gives : MethodName := ⟨RX7, "gives", "(I)I"⟩
abbrev cX7_later : ByteArray := prog_1_method_26_code
def yX7_later : MethodName := ⟨RX7, "later", "(I)I"⟩
abbrev cX7_best : ByteArray := prog_1_method_27_code
def yX7_best : MethodName := ⟨RX7, "best", "(I)I"⟩
abbrev cX7_fewest : ByteArray := prog_1_method_28_code
def yX7_fewest : MethodName := ⟨RX7, "fewest", "()I"⟩
abbrev cX7_seated : ByteArray := prog_1_method_29_code
def yX7_seated : MethodName := ⟨RX7, "seated", "(I)I"⟩
abbrev cX7_laces : ByteArray := prog_1_method_30_code
def yX7_laces : MethodName := ⟨RX7, "laces", "(II)I"⟩
abbrev cX7_strengths : ByteArray := prog_1_method_31_code
def yX7_strengths : MethodName := ⟨RX7, "strengths", "(II)I"⟩
abbrev cX7_kinds : ByteArray := prog_1_method_32_code
def yX7_kinds : MethodName := ⟨RX7, "kinds", "(II)I"⟩
abbrev cX7_test : ByteArray := prog_1_method_33_code
def yX7_test : MethodName := ⟨RX7, "test", "(II)I"⟩
abbrev cX7_duel : ByteArray := prog_1_method_34_code
def yX7_duel : MethodName := ⟨RX7, "duel", "(I)I"⟩
abbrev cX7_odds : ByteArray := prog_1_method_35_code
def yX7_odds : MethodName := ⟨RX7, "odds", "(II)I"⟩
abbrev cX7_mid : ByteArray := prog_1_method_36_code
def yX7_mid : MethodName := ⟨RX7, "mid", "(I)I"⟩
abbrev cX7_lots : ByteArray := prog_1_method_37_code
def yX7_lots : MethodName := ⟨RX7, "lots", "(II)I"⟩
abbrev cX7_asked : ByteArray := prog_1_method_38_code
def yX7_asked : MethodName := ⟨RX7, "asked", "()I"⟩
abbrev cX7_upper : ByteArray := prog_1_method_39_code
def yX7_upper : MethodName := ⟨RX7, "upper", "()J"⟩
abbrev cX7_lower : ByteArray := prog_1_method_40_code
def yX7_lower : MethodName := ⟨RX7, "lower", "()J"⟩
abbrev cX7_count : ByteArray := prog_1_method_41_code
def yX7_count : MethodName := ⟨RX7, "count", "(I)I"⟩
abbrev cX7_finding : ByteArray := prog_1_method_42_code
def yX7_finding : MethodName := ⟨RX7, "finding", "()I"⟩
abbrev cX7_findings : ByteArray := prog_1_method_43_code
def yX7_findings : MethodName := ⟨RX7, "findings", "(I)I"⟩
abbrev cX7_digest : ByteArray := prog_1_method_44_code
def yX7_digest : MethodName := ⟨RX7, "digest", "()J"⟩
abbrev cX7_rowAt : ByteArray := prog_1_method_45_code
def yX7_rowAt : MethodName := ⟨RX7, "rowAt", "(I)LPoleNave$Row;"⟩
abbrev cX7_textAt : ByteArray := prog_1_method_46_code
def yX7_textAt : MethodName := ⟨RX7, "textAt", "(I)LPoleNave$Row;"⟩
abbrev cX7_keptAt : ByteArray := prog_1_method_47_code
def yX7_keptAt : MethodName := ⟨RX7, "keptAt", "(I)LPoleNave$Deeds;"⟩
abbrev cX7_begin : ByteArray := prog_1_method_48_code
def yX7_begin : MethodName := ⟨RX7, "begin", "(LPoleNave$Row;III)I"⟩
abbrev cX7_found : ByteArray := prog_1_method_49_code
def yX7_found : MethodName := ⟨RX7, "found", "(I)I"⟩
abbrev cX7_tell : ByteArray := prog_1_method_50_code
def yX7_tell : MethodName := ⟨RX7, "tell", "(I)I"⟩
abbrev cX7_tellTwelfths : ByteArray := prog_1_method_51_code
def yX7_tellTwelfths : MethodName := ⟨RX7, "tellTwelfths", "(I)I"⟩
abbrev cX7_tally : ByteArray := prog_1_method_52_code
def yX7_tally : MethodName := ⟨RX7, "tally", "(I)I"⟩
abbrev cX7_howManyKept : ByteArray := prog_1_method_53_code
def yX7_howManyKept : MethodName := ⟨RX7, "howManyKept", "()I"⟩
abbrev cX7_howManyThere : ByteArray := prog_1_method_54_code
def yX7_howManyThere : MethodName := ⟨RX7, "howManyThere", "([LPoleNave$Row;)I"⟩
abbrev cX7_digestRows : ByteArray := prog_1_method_55_code
def yX7_digestRows : MethodName := ⟨RX7, "digestRows", "(J[LPoleNave$Row;)J"⟩
abbrev cX7_deed : ByteArray := prog_1_method_56_code
def yX7_deed : MethodName := ⟨RX7, "deed", "(III)I"⟩
abbrev cX7_perform : ByteArray := prog_1_method_57_code
def yX7_perform : MethodName := ⟨RX7, "perform", "(I)I"⟩
abbrev cX7_deedByLot : ByteArray := prog_1_method_58_code
def yX7_deedByLot : MethodName := ⟨RX7, "deedByLot", "(I)I"⟩
abbrev cX7_isOfKind : ByteArray := prog_1_method_59_code
def yX7_isOfKind : MethodName := ⟨RX7, "isOfKind", "(II)Z"⟩
abbrev cX7_bearing : ByteArray := prog_1_method_60_code
def yX7_bearing : MethodName := ⟨RX7, "bearing", "(IIII)I"⟩
abbrev cX7_worn : ByteArray := prog_1_method_61_code
def yX7_worn : MethodName := ⟨RX7, "worn", "(IZ)I"⟩
abbrev cX7_findingOfTriples : ByteArray := prog_1_method_62_code
def yX7_findingOfTriples : MethodName := ⟨RX7, "findingOfTriples", "(LPoleNave$Row;)I"⟩
abbrev cX7_isWithin : ByteArray := prog_1_method_63_code
def yX7_isWithin : MethodName := ⟨RX7, "isWithin", "(II)Z"⟩
abbrev cX7_agrees : ByteArray := prog_1_method_64_code
def yX7_agrees : MethodName := ⟨RX7, "agrees", "(LPoleNave$Row;III)Z"⟩
abbrev cX7_kindsBy : ByteArray := prog_1_method_65_code
def yX7_kindsBy : MethodName := ⟨RX7, "kindsBy", "(LPoleNave$Row;I)I"⟩
def RX8 : String := "PoleNaveModel"
def TX8 : u_T := fun k => match k with
  | 0 => ("PoleNaveModel", "rows", "[I", true)
  | 1 => ("PoleNaveModel", "rowSizes", "[I", true)
  | 2 => ("PoleNaveModel", "texts", "[I", true)
  | 3 => ("PoleNaveModel", "textSizes", "[I", true)
  | 4 => ("PoleNaveModel", "asked", "I", false)
  | 5 => ("PoleNaveModel", "upper", "J", false)
  | 6 => ("PoleNaveModel", "lower", "J", false)
  | 7 => ("PoleNaveModel", "finding", "I", false)
  | 8 => ("PoleNaveModel", "findings", "[I", true)
  | 9 => ("PoleNaveModel", "poles", "I", false)
  | 10 => ("PoleNaveModel", "kinds", "[I", true)
  | 11 => ("PoleNaveModel", "talls", "[I", true)
  | 12 => ("PoleNaveModel", "strongs", "[I", true)
  | 13 => ("PoleNaveModel", "people", "I", false)
  | 14 => ("PoleNaveModel", "weights", "[I", true)
  | 15 => ("PoleNaveModel", "devouts", "[I", true)
  | 16 => ("PoleNaveModel", "now", "[I", true)
  | 17 => ("PoleNaveModel", "aside", "[I", true)
  | 18 => ("PoleNaveModel", "ahead", "[I", true)
  | 19 => ("PoleNaveModel", "deeds", "I", false)
  | 20 => ("PoleNaveModel", "kept", "[I", true)
  | 21 => ("PoleNaveModel", "at", "I", false)
  | 22 => ("PoleNaveModel", "size", "I", false)
  | 23 => ("PoleNaveModel", "which", "I", false)
  | 24 => ("PoleNaveModel", "readPoles", "I", false)
  | 25 => ("PoleNaveModel", "readKinds", "[I", true)
  | 26 => ("PoleNaveModel", "readTalls", "[I", true)
  | 27 => ("PoleNaveModel", "readStrongs", "[I", true)
  | 28 => ("PoleNaveModel", "readPeople", "I", false)
  | 29 => ("PoleNaveModel", "readWeights", "[I", true)
  | 30 => ("PoleNaveModel", "readDevouts", "[I", true)
  | 31 => ("PoleNaveModel", "lacing", "[I", true)
  | 32 => ("PoleNaveModel", "move", "[I", true)
  | 33 => ("PoleNaveModel", "value", "[I", true)
  | _ => ("PoleNaveModel", "sat", "[I", true)
def tyX8 : Nat → FieldType := fun k => match k with
  | 0 => .array .int
  | 1 => .array .int
  | 2 => .array .int
  | 3 => .array .int
  | 4 => .int
  | 5 => .long
  | 6 => .long
  | 7 => .int
  | 8 => .array .int
  | 9 => .int
  | 10 => .array .int
  | 11 => .array .int
  | 12 => .array .int
  | 13 => .int
  | 14 => .array .int
  | 15 => .array .int
  | 16 => .array .int
  | 17 => .array .int
  | 18 => .array .int
  | 19 => .int
  | 20 => .array .int
  | 21 => .int
  | 22 => .int
  | 23 => .int
  | 24 => .int
  | 25 => .array .int
  | 26 => .array .int
  | 27 => .array .int
  | 28 => .int
  | 29 => .array .int
  | 30 => .array .int
  | 31 => .array .int
  | 32 => .array .int
  | 33 => .array .int
  | _ => .array .int
abbrev wsX80 : List Cond := u_ws RX8 TX8 35
theorem nmX8 : ∀ a, a < 35 → ∀ b, b < 35 → a ≠ b → (TX8 a).2.1 ≠ (TX8 b).2.1 := by decide +kernel
theorem tyX8_ok : ∀ k, k < 35 → parseFieldDescriptor (TX8 k).2.2.1 = some (tyX8 k) := by decide +kernel
abbrev cX8_init : ByteArray := prog_10_method_1_code
def yX8_init : MethodName := ⟨RX8, "<init>", "()V"⟩
abbrev cX8_in : ByteArray := prog_10_method_3_code
def yX8_in : MethodName := ⟨RX8, "in", "(JJJ)Z"⟩
abbrev cX8_has : ByteArray := prog_10_method_4_code
def yX8_has : MethodName := ⟨RX8, "has", "(II)Z"⟩
abbrev cX8_bits : ByteArray := prog_10_method_5_code
def yX8_bits : MethodName := ⟨RX8, "bits", "(I)I"⟩
abbrev cX8_found : ByteArray := prog_10_method_6_code
def yX8_found : MethodName := ⟨RX8, "found", "(I)I"⟩
abbrev cX8_tell : ByteArray := prog_10_method_7_code
def yX8_tell : MethodName := ⟨RX8, "tell", "(I)I"⟩
abbrev cX8_answer : ByteArray := prog_10_method_8_code
def yX8_answer : MethodName := ⟨RX8, "answer", "(II)I"⟩
abbrev cX8_isRow : ByteArray := prog_10_method_9_code
def yX8_isRow : MethodName := ⟨RX8, "isRow", "(I)Z"⟩
abbrev cX8_isText : ByteArray := prog_10_method_10_code
def yX8_isText : MethodName := ⟨RX8, "isText", "(I)Z"⟩
abbrev cX8_row : ByteArray := prog_10_method_11_code
def yX8_row : MethodName := ⟨RX8, "row", "(II)I"⟩
abbrev cX8_lay : ByteArray := prog_10_method_12_code
def yX8_lay : MethodName := ⟨RX8, "lay", "(III)I"⟩
abbrev cX8_at : ByteArray := prog_10_method_13_code
def yX8_at : MethodName := ⟨RX8, "at", "(II)I"⟩
abbrev cX8_tear : ByteArray := prog_10_method_14_code
def yX8_tear : MethodName := ⟨RX8, "tear", "(I)I"⟩
abbrev cX8_copy : ByteArray := prog_10_method_15_code
def yX8_copy : MethodName := ⟨RX8, "copy", "(IIIII)I"⟩
abbrev cX8_mean : ByteArray := prog_10_method_16_code
def yX8_mean : MethodName := ⟨RX8, "mean", "(I)I"⟩
abbrev cX8_text : ByteArray := prog_10_method_17_code
def yX8_text : MethodName := ⟨RX8, "text", "(II)I"⟩
abbrev cX8_put : ByteArray := prog_10_method_18_code
def yX8_put : MethodName := ⟨RX8, "put", "(III)I"⟩
abbrev cX8_begins : ByteArray := prog_10_method_19_code
def yX8_begins : MethodName := ⟨RX8, "begins", "()V"⟩
abbrev cX8_here : ByteArray := prog_10_method_20_code
def yX8_here : MethodName := ⟨RX8, "here", "()I"⟩
abbrev cX8_kindOf : ByteArray := prog_10_method_21_code
def yX8_kindOf : MethodName := ⟨RX8, "kindOf", "(I)I"⟩
abbrev cX8_isFigure : ByteArray := prog_10_method_22_code
def yX8_isFigure : MethodName := ⟨RX8, "isFigure", "(I)Z"⟩
abbrev cX8_last : ByteArray := prog_10_method_23_code
def yX8_last : MethodName := ⟨RX8, "last", "()I"⟩
abbrev cX8_isStrength : ByteArray := prog_10_method_24_code
def yX8_isStrength : MethodName := ⟨RX8, "isStrength", "()Z"⟩
abbrev cX8_readsPole : ByteArray := prog_10_method_25_code
def yX8_readsPole : MethodName := ⟨RX8, "readsPole", "()Z"⟩
abbrev cX8_readsOne : ByteArray := prog_10_method_26_code
def yX8_readsOne : MethodName := ⟨RX8, "readsOne", "()Z"⟩
abbrev cX8_reads : ByteArray := prog_10_method_27_code
def yX8_reads : MethodName := ⟨RX8, "reads", "(I)I"⟩
abbrev cX8_fault : ByteArray := prog_10_method_28_code
def yX8_fault : MethodName := ⟨RX8, "fault", "(I)I"⟩
abbrev cX8_nave : ByteArray := prog_10_method_29_code
def yX8_nave : MethodName := ⟨RX8, "nave", "(I)I"⟩
abbrev cX8_isPole : ByteArray := prog_10_method_30_code
def yX8_isPole : MethodName := ⟨RX8, "isPole", "(I)Z"⟩
abbrev cX8_isOne : ByteArray := prog_10_method_31_code
def yX8_isOne : MethodName := ⟨RX8, "isOne", "(I)Z"⟩
abbrev cX8_bearsBy : ByteArray := prog_10_method_32_code
def yX8_bearsBy : MethodName := ⟨RX8, "bearsBy", "(IIII)I"⟩
abbrev cX8_bearsAs : ByteArray := prog_10_method_33_code
def yX8_bearsAs : MethodName := ⟨RX8, "bearsAs", "(III)I"⟩
abbrev cX8_bearsOn : ByteArray := prog_10_method_34_code
def yX8_bearsOn : MethodName := ⟨RX8, "bearsOn", "([II)I"⟩
abbrev cX8_highOn : ByteArray := prog_10_method_35_code
def yX8_highOn : MethodName := ⟨RX8, "highOn", "(II)I"⟩
abbrev cX8_loadOn : ByteArray := prog_10_method_36_code
def yX8_loadOn : MethodName := ⟨RX8, "loadOn", "([II)I"⟩
abbrev cX8_isUp : ByteArray := prog_10_method_37_code
def yX8_isUp : MethodName := ⟨RX8, "isUp", "([II)Z"⟩
abbrev cX8_holdsOn : ByteArray := prog_10_method_38_code
def yX8_holdsOn : MethodName := ⟨RX8, "holdsOn", "([II)Z"⟩
abbrev cX8_sittersOn : ByteArray := prog_10_method_39_code
def yX8_sittersOn : MethodName := ⟨RX8, "sittersOn", "([II)I"⟩
abbrev cX8_highAll : ByteArray := prog_10_method_40_code
def yX8_highAll : MethodName := ⟨RX8, "highAll", "([I)I"⟩
abbrev cX8_yearGoes : ByteArray := prog_10_method_41_code
def yX8_yearGoes : MethodName := ⟨RX8, "yearGoes", "([I)I"⟩
abbrev cX8_copies : ByteArray := prog_10_method_42_code
def yX8_copies : MethodName := ⟨RX8, "copies", "([II[III)V"⟩
abbrev cX8_layAside : ByteArray := prog_10_method_43_code
def yX8_layAside : MethodName := ⟨RX8, "layAside", "()V"⟩
abbrev cX8_pole : ByteArray := prog_10_method_44_code
def yX8_pole : MethodName := ⟨RX8, "pole", "(II)I"⟩
abbrev cX8_one : ByteArray := prog_10_method_45_code
def yX8_one : MethodName := ⟨RX8, "one", "(II)I"⟩
abbrev cX8_isOf : ByteArray := prog_10_method_46_code
def yX8_isOf : MethodName := ⟨RX8, "isOf", "(II)Z"⟩
abbrev cX8_mark : ByteArray := prog_10_method_47_code
def yX8_mark : MethodName := ⟨RX8, "mark", "(II)I"⟩
abbrev cX8_bears : ByteArray := prog_10_method_48_code
def yX8_bears : MethodName := ⟨RX8, "bears", "(II)I"⟩
abbrev cX8_remember : ByteArray := prog_10_method_49_code
def yX8_remember : MethodName := ⟨RX8, "remember", "()V"⟩
abbrev cX8_sit : ByteArray := prog_10_method_50_code
def yX8_sit : MethodName := ⟨RX8, "sit", "(II)I"⟩
abbrev cX8_down : ByteArray := prog_10_method_51_code
def yX8_down : MethodName := ⟨RX8, "down", "(I)I"⟩
abbrev cX8_lace : ByteArray := prog_10_method_52_code
def yX8_lace : MethodName := ⟨RX8, "lace", "(I)I"⟩
abbrev cX8_refuses : ByteArray := prog_10_method_53_code
def yX8_refuses : MethodName := ⟨RX8, "refuses", "(I)I"⟩
abbrev cX8_stone : ByteArray := prog_10_method_54_code
def yX8_stone : MethodName := ⟨RX8, "stone", "()I"⟩
abbrev cX8_year : ByteArray := prog_10_method_55_code
def yX8_year : MethodName := ⟨RX8, "year", "()I"⟩
abbrev cX8_undo : ByteArray := prog_10_method_56_code
def yX8_undo : MethodName := ⟨RX8, "undo", "(I)I"⟩
abbrev cX8_keep : ByteArray := prog_10_method_57_code
def yX8_keep : MethodName := ⟨RX8, "keep", "(I)I"⟩
abbrev cX8_on : ByteArray := prog_10_method_58_code
def yX8_on : MethodName := ⟨RX8, "on", "(I)I"⟩
abbrev cX8_holds : ByteArray := prog_10_method_59_code
def yX8_holds : MethodName := ⟨RX8, "holds", "()I"⟩
abbrev cX8_gives : ByteArray := prog_10_method_60_code
def yX8_gives : MethodName := ⟨RX8, "gives", "(I)I"⟩
abbrev cX8_later : ByteArray := prog_10_method_61_code
def yX8_later : MethodName := ⟨RX8, "later", "(I)I"⟩
abbrev cX8_failing : ByteArray := prog_10_method_62_code
def yX8_failing : MethodName := ⟨RX8, "failing", "()I"⟩
abbrev cX8_laySeating : ByteArray := prog_10_method_63_code
def yX8_laySeating : MethodName := ⟨RX8, "laySeating", "(IZ)Z"⟩
abbrev cX8_power : ByteArray := prog_10_method_64_code
def yX8_power : MethodName := ⟨RX8, "power", "(II)I"⟩
abbrev cX8_layRow : ByteArray := prog_10_method_65_code
def yX8_layRow : MethodName := ⟨RX8, "layRow", "(II)V"⟩
abbrev cX8_best : ByteArray := prog_10_method_66_code
def yX8_best : MethodName := ⟨RX8, "best", "(I)I"⟩
abbrev cX8_fewest : ByteArray := prog_10_method_67_code
def yX8_fewest : MethodName := ⟨RX8, "fewest", "()I"⟩
abbrev cX8_seated : ByteArray := prog_10_method_68_code
def yX8_seated : MethodName := ⟨RX8, "seated", "(I)I"⟩
abbrev cX8_lacingsBy : ByteArray := prog_10_method_69_code
def yX8_lacingsBy : MethodName := ⟨RX8, "lacingsBy", "(II)I"⟩
abbrev cX8_laces : ByteArray := prog_10_method_70_code
def yX8_laces : MethodName := ⟨RX8, "laces", "(II)I"⟩
abbrev cX8_refusesTriples : ByteArray := prog_10_method_71_code
def yX8_refusesTriples : MethodName := ⟨RX8, "refusesTriples", "(I)I"⟩
abbrev cX8_fits : ByteArray := prog_10_method_72_code
def yX8_fits : MethodName := ⟨RX8, "fits", "(IIII)Z"⟩
abbrev cX8_strengths : ByteArray := prog_10_method_73_code
def yX8_strengths : MethodName := ⟨RX8, "strengths", "(II)I"⟩
abbrev cX8_kindsBy : ByteArray := prog_10_method_74_code
def yX8_kindsBy : MethodName := ⟨RX8, "kindsBy", "(II)I"⟩
abbrev cX8_kinds : ByteArray := prog_10_method_75_code
def yX8_kinds : MethodName := ⟨RX8, "kinds", "(II)I"⟩
abbrev cX8_test : ByteArray := prog_10_method_76_code
def yX8_test : MethodName := ⟨RX8, "test", "(II)I"⟩
abbrev cX8_worth : ByteArray := prog_10_method_77_code
def yX8_worth : MethodName := ⟨RX8, "worth", "()I"⟩
abbrev cX8_opens : ByteArray := prog_10_method_78_code
def yX8_opens : MethodName := ⟨RX8, "opens", "(I)V"⟩
abbrev cX8_whoMoves : ByteArray := prog_10_method_79_code
def yX8_whoMoves : MethodName := ⟨RX8, "whoMoves", "(I)I"⟩
abbrev cX8_moves : ByteArray := prog_10_method_80_code
def yX8_moves : MethodName := ⟨RX8, "moves", "(I)Z"⟩
abbrev cX8_weighs : ByteArray := prog_10_method_81_code
def yX8_weighs : MethodName := ⟨RX8, "weighs", "(II)V"⟩
abbrev cX8_nextMove : ByteArray := prog_10_method_82_code
def yX8_nextMove : MethodName := ⟨RX8, "nextMove", "(I)Z"⟩
abbrev cX8_duel : ByteArray := prog_10_method_83_code
def yX8_duel : MethodName := ⟨RX8, "duel", "(I)I"⟩
abbrev cX8_fraction : ByteArray := prog_10_method_84_code
def yX8_fraction : MethodName := ⟨RX8, "fraction", "(II)I"⟩
abbrev cX8_odds : ByteArray := prog_10_method_85_code
def yX8_odds : MethodName := ⟨RX8, "odds", "(II)I"⟩
abbrev cX8_mid : ByteArray := prog_10_method_86_code
def yX8_mid : MethodName := ⟨RX8, "mid", "(I)I"⟩
abbrev cX8_lot : ByteArray := prog_10_method_87_code
def yX8_lot : MethodName := ⟨RX8, "lot", "(I)V"⟩
abbrev cX8_lots : ByteArray := prog_10_method_88_code
def yX8_lots : MethodName := ⟨RX8, "lots", "(II)I"⟩
abbrev cX8_asked : ByteArray := prog_10_method_89_code
def yX8_asked : MethodName := ⟨RX8, "asked", "()I"⟩
abbrev cX8_upper : ByteArray := prog_10_method_90_code
def yX8_upper : MethodName := ⟨RX8, "upper", "()J"⟩
abbrev cX8_lower : ByteArray := prog_10_method_91_code
def yX8_lower : MethodName := ⟨RX8, "lower", "()J"⟩
abbrev cX8_there : ByteArray := prog_10_method_92_code
def yX8_there : MethodName := ⟨RX8, "there", "([III)I"⟩
abbrev cX8_whoAreUp : ByteArray := prog_10_method_93_code
def yX8_whoAreUp : MethodName := ⟨RX8, "whoAreUp", "()I"⟩
abbrev cX8_laced : ByteArray := prog_10_method_94_code
def yX8_laced : MethodName := ⟨RX8, "laced", "()I"⟩
abbrev cX8_count : ByteArray := prog_10_method_95_code
def yX8_count : MethodName := ⟨RX8, "count", "(I)I"⟩
abbrev cX8_finding : ByteArray := prog_10_method_96_code
def yX8_finding : MethodName := ⟨RX8, "finding", "()I"⟩
abbrev cX8_findings : ByteArray := prog_10_method_97_code
def yX8_findings : MethodName := ⟨RX8, "findings", "(I)I"⟩
abbrev cX8_digest : ByteArray := prog_10_method_98_code
def yX8_digest : MethodName := ⟨RX8, "digest", "()J"⟩
def RJ6 : String := "java/lang/Integer"
def TJ6 : u_T := fun k => match k with
  | _ => ("", "", "", false)
def tyJ6 : Nat → FieldType := fun k => match k with
  | _ => .int
abbrev wsJ60 : List Cond := u_ws RJ6 TJ6 0
theorem nmJ6 : ∀ a, a < 0 → ∀ b, b < 0 → a ≠ b → (TJ6 a).2.1 ≠ (TJ6 b).2.1 := by decide +kernel
theorem tyJ6_ok : ∀ k, k < 0 → parseFieldDescriptor (TJ6 k).2.2.1 = some (tyJ6 k) := by decide +kernel
abbrev cJ6_bitCount_0f7a4 : ByteArray := prog_11_method_49_code
def yJ6_bitCount_0f7a4 : MethodName := ⟨RJ6, "bitCount", "(I)I"⟩
def RJ9 : String := "java/lang/Math"
def TJ9 : u_T := fun k => match k with
  | _ => ("", "", "", false)
def tyJ9 : Nat → FieldType := fun k => match k with
  | _ => .int
abbrev wsJ90 : List Cond := u_ws RJ9 TJ9 0
theorem nmJ9 : ∀ a, a < 0 → ∀ b, b < 0 → a ≠ b → (TJ9 a).2.1 ≠ (TJ9 b).2.1 := by decide +kernel
theorem tyJ9_ok : ∀ k, k < 0 → parseFieldDescriptor (TJ9 k).2.2.1 = some (tyJ9 k) := by decide +kernel
abbrev cJ9_max_7cf53 : ByteArray := prog_12_method_65_code
def yJ9_max_7cf53 : MethodName := ⟨RJ9, "max", "(II)I"⟩
abbrev cJ9_min_7cf53 : ByteArray := prog_12_method_69_code
def yJ9_min_7cf53 : MethodName := ⟨RJ9, "min", "(II)I"⟩
def RJ10 : String := "java/lang/System"
def TJ10 : u_T := fun k => match k with
  | _ => ("", "", "", false)
def tyJ10 : Nat → FieldType := fun k => match k with
  | _ => .int
abbrev wsJ100 : List Cond := u_ws RJ10 TJ10 0
theorem nmJ10 : ∀ a, a < 0 → ∀ b, b < 0 → a ≠ b → (TJ10 a).2.1 ≠ (TJ10 b).2.1 := by decide +kernel
theorem tyJ10_ok : ∀ k, k < 0 → parseFieldDescriptor (TJ10 k).2.2.1 = some (tyJ10 k) := by decide +kernel
def RL : String := "PoleNaveLaw"
abbrev cL_law : ByteArray := code
def yL_law : MethodName := ⟨RL, "law", "([I)Z"⟩
theorem inJ6 : ∀ w ∈ wsJ60, w ∈ lw_tbl := by decide +kernel
theorem inJ9 : ∀ w ∈ wsJ90, w ∈ lw_tbl := by decide +kernel
theorem inJ10 : ∀ w ∈ wsJ100, w ∈ lw_tbl := by decide +kernel
abbrev vwCl : List vw_C := [(RX0, TX0, 2), (RX1, TX1, 8), (RX2, TX2, 7), (RX3, TX3, 2), (RX4, TX4, 6), (RX5, TX5, 6), (RX6, TX6, 7), (RX7, TX7, 16), (RX8, TX8, 35)]
