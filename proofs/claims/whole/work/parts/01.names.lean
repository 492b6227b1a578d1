-- ===== PART A: goes FIRST, ahead of the names: the tables' words, and 'selects' of the private methods out of them =====
/-- a private method of a class that the tables say can be made, by its rows of tables_1 -/
def lw_okq (q : MethodName × Nat) : Prop := (q.1.cls ≠ "java/lang/invoke/MethodHandle" ∧ q.1.cls ≠ "java/lang/invoke/VarHandle") ∧ Cond.instantiable q.1.cls q.2 ∈ tables_1 ∧ Cond.privateMethod q.1 ∈ tables_1 ∧ Cond.instanceMethod q.1 ∈ tables_1
theorem lw_p0 : lw_okq (⟨"BowsOwed$Laws", "has", "(I)Z"⟩, 6) := ⟨⟨by decide +kernel, by decide +kernel⟩, List.mem_of_getElem? (i := 170) (by decide +kernel), List.mem_of_getElem? (i := 424) (by decide +kernel), List.mem_of_getElem? (i := 425) (by decide +kernel)⟩
theorem lw_p1 : lw_okq (⟨"BowsOwed$Laws", "name", "(III)V"⟩, 6) := ⟨⟨by decide +kernel, by decide +kernel⟩, List.mem_of_getElem? (i := 170) (by decide +kernel), List.mem_of_getElem? (i := 435) (by decide +kernel), List.mem_of_getElem? (i := 436) (by decide +kernel)⟩
theorem lw_p2 : lw_okq (⟨"BowsOwed$Laws", "run", "(I)I"⟩, 6) := ⟨⟨by decide +kernel, by decide +kernel⟩, List.mem_of_getElem? (i := 170) (by decide +kernel), List.mem_of_getElem? (i := 444) (by decide +kernel), List.mem_of_getElem? (i := 445) (by decide +kernel)⟩
theorem lw_p3 : lw_okq (⟨"BowsOwed$Laws", "push", "(I)V"⟩, 6) := ⟨⟨by decide +kernel, by decide +kernel⟩, List.mem_of_getElem? (i := 170) (by decide +kernel), List.mem_of_getElem? (i := 461) (by decide +kernel), List.mem_of_getElem? (i := 462) (by decide +kernel)⟩
theorem lw_p4 : lw_okq (⟨"BowsOwed$Laws", "pop", "()I"⟩, 6) := ⟨⟨by decide +kernel, by decide +kernel⟩, List.mem_of_getElem? (i := 170) (by decide +kernel), List.mem_of_getElem? (i := 466) (by decide +kernel), List.mem_of_getElem? (i := 467) (by decide +kernel)⟩
theorem lw_p5 : lw_okq (⟨"BowsOwed$Whole", "step", "(I)LBowsOwed$State;"⟩, 7) := ⟨⟨by decide +kernel, by decide +kernel⟩, List.mem_of_getElem? (i := 48) (by decide +kernel), List.mem_of_getElem? (i := 494) (by decide +kernel), List.mem_of_getElem? (i := 495) (by decide +kernel)⟩
theorem lw_p6 : lw_okq (⟨"BowsOwed$State", "write", "(II)V"⟩, 10) := ⟨⟨by decide +kernel, by decide +kernel⟩, List.mem_of_getElem? (i := 54) (by decide +kernel), List.mem_of_getElem? (i := 611) (by decide +kernel), List.mem_of_getElem? (i := 612) (by decide +kernel)⟩
theorem lw_p7 : lw_okq (⟨"BowsOwed$Tape", "byteAt", "(I)I"⟩, 6) := ⟨⟨by decide +kernel, by decide +kernel⟩, List.mem_of_getElem? (i := 209) (by decide +kernel), List.mem_of_getElem? (i := 667) (by decide +kernel), List.mem_of_getElem? (i := 668) (by decide +kernel)⟩
theorem lw_p8 : lw_okq (⟨"BowsOwed$Tape", "takeWord", "()V"⟩, 6) := ⟨⟨by decide +kernel, by decide +kernel⟩, List.mem_of_getElem? (i := 209) (by decide +kernel), List.mem_of_getElem? (i := 674) (by decide +kernel), List.mem_of_getElem? (i := 675) (by decide +kernel)⟩
theorem lw_p9 : lw_okq (⟨"BowsOwed$Tape", "takeNumber", "()V"⟩, 6) := ⟨⟨by decide +kernel, by decide +kernel⟩, List.mem_of_getElem? (i := 209) (by decide +kernel), List.mem_of_getElem? (i := 730) (by decide +kernel), List.mem_of_getElem? (i := 731) (by decide +kernel)⟩
theorem lw_p10 : lw_okq (⟨"BowsOwed$Tape", "takeSign", "(I)V"⟩, 6) := ⟨⟨by decide +kernel, by decide +kernel⟩, List.mem_of_getElem? (i := 209) (by decide +kernel), List.mem_of_getElem? (i := 735) (by decide +kernel), List.mem_of_getElem? (i := 736) (by decide +kernel)⟩
theorem lw_p11 : lw_okq (⟨"BowsOwed$Reader", "is", "(I)Z"⟩, 5) := ⟨⟨by decide +kernel, by decide +kernel⟩, List.mem_of_getElem? (i := 238) (by decide +kernel), List.mem_of_getElem? (i := 795) (by decide +kernel), List.mem_of_getElem? (i := 796) (by decide +kernel)⟩
theorem lw_p12 : lw_okq (⟨"BowsOwed$Reader", "readClause", "()V"⟩, 5) := ⟨⟨by decide +kernel, by decide +kernel⟩, List.mem_of_getElem? (i := 238) (by decide +kernel), List.mem_of_getElem? (i := 799) (by decide +kernel), List.mem_of_getElem? (i := 800) (by decide +kernel)⟩
theorem lw_p13 : lw_okq (⟨"BowsOwed$Reader", "fail", "(I)V"⟩, 5) := ⟨⟨by decide +kernel, by decide +kernel⟩, List.mem_of_getElem? (i := 238) (by decide +kernel), List.mem_of_getElem? (i := 804) (by decide +kernel), List.mem_of_getElem? (i := 805) (by decide +kernel)⟩
theorem lw_p14 : lw_okq (⟨"BowsOwed$Reader", "readSum", "(I)V"⟩, 5) := ⟨⟨by decide +kernel, by decide +kernel⟩, List.mem_of_getElem? (i := 238) (by decide +kernel), List.mem_of_getElem? (i := 815) (by decide +kernel), List.mem_of_getElem? (i := 816) (by decide +kernel)⟩
theorem lw_p15 : lw_okq (⟨"BowsOwed$Reader", "readProduct", "(I)V"⟩, 5) := ⟨⟨by decide +kernel, by decide +kernel⟩, List.mem_of_getElem? (i := 238) (by decide +kernel), List.mem_of_getElem? (i := 819) (by decide +kernel), List.mem_of_getElem? (i := 820) (by decide +kernel)⟩
def lw_privs_1 : List (MethodName × Nat) := [(⟨"BowsOwed$Laws", "has", "(I)Z"⟩, 6), (⟨"BowsOwed$Laws", "name", "(III)V"⟩, 6), (⟨"BowsOwed$Laws", "run", "(I)I"⟩, 6), (⟨"BowsOwed$Laws", "push", "(I)V"⟩, 6), (⟨"BowsOwed$Laws", "pop", "()I"⟩, 6), (⟨"BowsOwed$Whole", "step", "(I)LBowsOwed$State;"⟩, 7), (⟨"BowsOwed$State", "write", "(II)V"⟩, 10), (⟨"BowsOwed$Tape", "byteAt", "(I)I"⟩, 6), (⟨"BowsOwed$Tape", "takeWord", "()V"⟩, 6), (⟨"BowsOwed$Tape", "takeNumber", "()V"⟩, 6), (⟨"BowsOwed$Tape", "takeSign", "(I)V"⟩, 6), (⟨"BowsOwed$Reader", "is", "(I)Z"⟩, 5), (⟨"BowsOwed$Reader", "readClause", "()V"⟩, 5), (⟨"BowsOwed$Reader", "fail", "(I)V"⟩, 5), (⟨"BowsOwed$Reader", "readSum", "(I)V"⟩, 5), (⟨"BowsOwed$Reader", "readProduct", "(I)V"⟩, 5)]
theorem lw_r1 : ∀ q ∈ lw_privs_1, lw_okq q := List.forall_mem_cons.mpr ⟨lw_p0, List.forall_mem_cons.mpr ⟨lw_p1, List.forall_mem_cons.mpr ⟨lw_p2, List.forall_mem_cons.mpr ⟨lw_p3, List.forall_mem_cons.mpr ⟨lw_p4, List.forall_mem_cons.mpr ⟨lw_p5, List.forall_mem_cons.mpr ⟨lw_p6, List.forall_mem_cons.mpr ⟨lw_p7, List.forall_mem_cons.mpr ⟨lw_p8, List.forall_mem_cons.mpr ⟨lw_p9, List.forall_mem_cons.mpr ⟨lw_p10, List.forall_mem_cons.mpr ⟨lw_p11, List.forall_mem_cons.mpr ⟨lw_p12, List.forall_mem_cons.mpr ⟨lw_p13, List.forall_mem_cons.mpr ⟨lw_p14, List.forall_mem_cons.mpr ⟨lw_p15, fun _ h => absurd h List.not_mem_nil⟩⟩⟩⟩⟩⟩⟩⟩⟩⟩⟩⟩⟩⟩⟩⟩
theorem lw_p16 : lw_okq (⟨"BowsOwed$Reader", "readPart", "(I)V"⟩, 5) := ⟨⟨by decide +kernel, by decide +kernel⟩, List.mem_of_getElem? (i := 238) (by decide +kernel), List.mem_of_getElem? (i := 823) (by decide +kernel), List.mem_of_getElem? (i := 824) (by decide +kernel)⟩
theorem lw_p17 : lw_okq (⟨"BowsOwed$Reader", "readNested", "(I)V"⟩, 5) := ⟨⟨by decide +kernel, by decide +kernel⟩, List.mem_of_getElem? (i := 238) (by decide +kernel), List.mem_of_getElem? (i := 827) (by decide +kernel), List.mem_of_getElem? (i := 828) (by decide +kernel)⟩
theorem lw_p18 : lw_okq (⟨"BowsOwed$Reader", "expect", "(I)V"⟩, 5) := ⟨⟨by decide +kernel, by decide +kernel⟩, List.mem_of_getElem? (i := 238) (by decide +kernel), List.mem_of_getElem? (i := 831) (by decide +kernel), List.mem_of_getElem? (i := 832) (by decide +kernel)⟩
theorem lw_p19 : lw_okq (⟨"BowsOwed$Reader", "readChoice", "(I)V"⟩, 5) := ⟨⟨by decide +kernel, by decide +kernel⟩, List.mem_of_getElem? (i := 238) (by decide +kernel), List.mem_of_getElem? (i := 839) (by decide +kernel), List.mem_of_getElem? (i := 840) (by decide +kernel)⟩
theorem lw_p20 : lw_okq (⟨"BowsOwed$Reader", "readEither", "(I)V"⟩, 5) := ⟨⟨by decide +kernel, by decide +kernel⟩, List.mem_of_getElem? (i := 238) (by decide +kernel), List.mem_of_getElem? (i := 843) (by decide +kernel), List.mem_of_getElem? (i := 844) (by decide +kernel)⟩
theorem lw_p21 : lw_okq (⟨"BowsOwed$Reader", "readBoth", "(I)V"⟩, 5) := ⟨⟨by decide +kernel, by decide +kernel⟩, List.mem_of_getElem? (i := 238) (by decide +kernel), List.mem_of_getElem? (i := 847) (by decide +kernel), List.mem_of_getElem? (i := 848) (by decide +kernel)⟩
theorem lw_p22 : lw_okq (⟨"BowsOwed$Reader", "readAsk", "(I)V"⟩, 5) := ⟨⟨by decide +kernel, by decide +kernel⟩, List.mem_of_getElem? (i := 238) (by decide +kernel), List.mem_of_getElem? (i := 851) (by decide +kernel), List.mem_of_getElem? (i := 852) (by decide +kernel)⟩
theorem lw_p23 : lw_okq (⟨"BowsOwed$Reader", "isOfLaw", "(I)Z"⟩, 5) := ⟨⟨by decide +kernel, by decide +kernel⟩, List.mem_of_getElem? (i := 238) (by decide +kernel), List.mem_of_getElem? (i := 862) (by decide +kernel), List.mem_of_getElem? (i := 863) (by decide +kernel)⟩
theorem lw_p24 : lw_okq (⟨"BowsOwed$Reader", "readDeed", "(I)V"⟩, 5) := ⟨⟨by decide +kernel, by decide +kernel⟩, List.mem_of_getElem? (i := 238) (by decide +kernel), List.mem_of_getElem? (i := 870) (by decide +kernel), List.mem_of_getElem? (i := 871) (by decide +kernel)⟩
theorem lw_p25 : lw_okq (⟨"BowsOwed$Reader", "readNumber", "(III)V"⟩, 5) := ⟨⟨by decide +kernel, by decide +kernel⟩, List.mem_of_getElem? (i := 238) (by decide +kernel), List.mem_of_getElem? (i := 874) (by decide +kernel), List.mem_of_getElem? (i := 875) (by decide +kernel)⟩
theorem lw_p26 : lw_okq (⟨"BowsOwed", "script", "(I)LBowsOwed$Script;"⟩, 12) := ⟨⟨by decide +kernel, by decide +kernel⟩, List.mem_of_getElem? (i := 23) (by decide +kernel), List.mem_of_getElem? (i := 882) (by decide +kernel), List.mem_of_getElem? (i := 883) (by decide +kernel)⟩
theorem lw_p27 : lw_okq (⟨"BowsOwed", "isText", "(I)Z"⟩, 12) := ⟨⟨by decide +kernel, by decide +kernel⟩, List.mem_of_getElem? (i := 23) (by decide +kernel), List.mem_of_getElem? (i := 900) (by decide +kernel), List.mem_of_getElem? (i := 901) (by decide +kernel)⟩
theorem lw_p28 : lw_okq (⟨"BowsOwed", "play", "(LBowsOwed$Script;I)Z"⟩, 12) := ⟨⟨by decide +kernel, by decide +kernel⟩, List.mem_of_getElem? (i := 23) (by decide +kernel), List.mem_of_getElem? (i := 917) (by decide +kernel), List.mem_of_getElem? (i := 918) (by decide +kernel)⟩
theorem lw_p29 : lw_okq (⟨"BowsOwed", "foresee", "(II)I"⟩, 12) := ⟨⟨by decide +kernel, by decide +kernel⟩, List.mem_of_getElem? (i := 23) (by decide +kernel), List.mem_of_getElem? (i := 982) (by decide +kernel), List.mem_of_getElem? (i := 983) (by decide +kernel)⟩
theorem lw_p30 : lw_okq (⟨"BowsOwed$Errand", "look", "(LBowsOwed$State;I)V"⟩, 6) := ⟨⟨by decide +kernel, by decide +kernel⟩, List.mem_of_getElem? (i := 265) (by decide +kernel), List.mem_of_getElem? (i := 1008) (by decide +kernel), List.mem_of_getElem? (i := 1009) (by decide +kernel)⟩
theorem lw_p31 : lw_okq (⟨"BowsOwed$Errand", "reaches", "(III)Z"⟩, 6) := ⟨⟨by decide +kernel, by decide +kernel⟩, List.mem_of_getElem? (i := 265) (by decide +kernel), List.mem_of_getElem? (i := 1015) (by decide +kernel), List.mem_of_getElem? (i := 1016) (by decide +kernel)⟩
def lw_privs_2 : List (MethodName × Nat) := [(⟨"BowsOwed$Reader", "readPart", "(I)V"⟩, 5), (⟨"BowsOwed$Reader", "readNested", "(I)V"⟩, 5), (⟨"BowsOwed$Reader", "expect", "(I)V"⟩, 5), (⟨"BowsOwed$Reader", "readChoice", "(I)V"⟩, 5), (⟨"BowsOwed$Reader", "readEither", "(I)V"⟩, 5), (⟨"BowsOwed$Reader", "readBoth", "(I)V"⟩, 5), (⟨"BowsOwed$Reader", "readAsk", "(I)V"⟩, 5), (⟨"BowsOwed$Reader", "isOfLaw", "(I)Z"⟩, 5), (⟨"BowsOwed$Reader", "readDeed", "(I)V"⟩, 5), (⟨"BowsOwed$Reader", "readNumber", "(III)V"⟩, 5), (⟨"BowsOwed", "script", "(I)LBowsOwed$Script;"⟩, 12), (⟨"BowsOwed", "isText", "(I)Z"⟩, 12), (⟨"BowsOwed", "play", "(LBowsOwed$Script;I)Z"⟩, 12), (⟨"BowsOwed", "foresee", "(II)I"⟩, 12), (⟨"BowsOwed$Errand", "look", "(LBowsOwed$State;I)V"⟩, 6), (⟨"BowsOwed$Errand", "reaches", "(III)Z"⟩, 6)]
theorem lw_r2 : ∀ q ∈ lw_privs_2, lw_okq q := List.forall_mem_cons.mpr ⟨lw_p16, List.forall_mem_cons.mpr ⟨lw_p17, List.forall_mem_cons.mpr ⟨lw_p18, List.forall_mem_cons.mpr ⟨lw_p19, List.forall_mem_cons.mpr ⟨lw_p20, List.forall_mem_cons.mpr ⟨lw_p21, List.forall_mem_cons.mpr ⟨lw_p22, List.forall_mem_cons.mpr ⟨lw_p23, List.forall_mem_cons.mpr ⟨lw_p24, List.forall_mem_cons.mpr ⟨lw_p25, List.forall_mem_cons.mpr ⟨lw_p26, List.forall_mem_cons.mpr ⟨lw_p27, List.forall_mem_cons.mpr ⟨lw_p28, List.forall_mem_cons.mpr ⟨lw_p29, List.forall_mem_cons.mpr ⟨lw_p30, List.forall_mem_cons.mpr ⟨lw_p31, fun _ h => absurd h List.not_mem_nil⟩⟩⟩⟩⟩⟩⟩⟩⟩⟩⟩⟩⟩⟩⟩⟩
theorem lw_p32 : lw_okq (⟨"BowsOwed$Reckoning", "paidWith", "(LBowsOwed$State;II)I"⟩, 2) := ⟨⟨by decide +kernel, by decide +kernel⟩, List.mem_of_getElem? (i := 291) (by decide +kernel), List.mem_of_getElem? (i := 1054) (by decide +kernel), List.mem_of_getElem? (i := 1055) (by decide +kernel)⟩
theorem lw_p33 : lw_okq (⟨"BowsOwed$Reckoning", "nextDoor", "(LBowsOwed$State;I)I"⟩, 2) := ⟨⟨by decide +kernel, by decide +kernel⟩, List.mem_of_getElem? (i := 291) (by decide +kernel), List.mem_of_getElem? (i := 1067) (by decide +kernel), List.mem_of_getElem? (i := 1068) (by decide +kernel)⟩
theorem lw_p34 : lw_okq (⟨"BowsOwed", "necksNow", "()I"⟩, 12) := ⟨⟨by decide +kernel, by decide +kernel⟩, List.mem_of_getElem? (i := 23) (by decide +kernel), List.mem_of_getElem? (i := 1075) (by decide +kernel), List.mem_of_getElem? (i := 1076) (by decide +kernel)⟩
theorem lw_p35 : lw_okq (⟨"BowsOwed$Meetings", "listTwos", "(I)V"⟩, 6) := ⟨⟨by decide +kernel, by decide +kernel⟩, List.mem_of_getElem? (i := 304) (by decide +kernel), List.mem_of_getElem? (i := 1088) (by decide +kernel), List.mem_of_getElem? (i := 1089) (by decide +kernel)⟩
theorem lw_p36 : lw_okq (⟨"BowsOwed$Meetings", "bend", "(LBowsOwed$State;II)V"⟩, 6) := ⟨⟨by decide +kernel, by decide +kernel⟩, List.mem_of_getElem? (i := 304) (by decide +kernel), List.mem_of_getElem? (i := 1094) (by decide +kernel), List.mem_of_getElem? (i := 1095) (by decide +kernel)⟩
theorem lw_p37 : lw_okq (⟨"BowsOwed$Meetings", "explains", "([I)Z"⟩, 6) := ⟨⟨by decide +kernel, by decide +kernel⟩, List.mem_of_getElem? (i := 304) (by decide +kernel), List.mem_of_getElem? (i := 1099) (by decide +kernel), List.mem_of_getElem? (i := 1100) (by decide +kernel)⟩
theorem lw_p38 : lw_okq (⟨"BowsOwed$Meetings", "count", "(I)V"⟩, 6) := ⟨⟨by decide +kernel, by decide +kernel⟩, List.mem_of_getElem? (i := 304) (by decide +kernel), List.mem_of_getElem? (i := 1103) (by decide +kernel), List.mem_of_getElem? (i := 1104) (by decide +kernel)⟩
theorem lw_p39 : lw_okq (⟨"BowsOwedModel", "copies", "(Z)V"⟩, 46) := ⟨⟨by decide +kernel, by decide +kernel⟩, List.mem_of_getElem? (i := 1144) (by decide +kernel), List.mem_of_getElem? (i := 1150) (by decide +kernel), List.mem_of_getElem? (i := 1151) (by decide +kernel)⟩
theorem lw_p40 : lw_okq (⟨"BowsOwedModel", "tells", "(II)V"⟩, 46) := ⟨⟨by decide +kernel, by decide +kernel⟩, List.mem_of_getElem? (i := 1144) (by decide +kernel), List.mem_of_getElem? (i := 1301) (by decide +kernel), List.mem_of_getElem? (i := 1302) (by decide +kernel)⟩
theorem lw_p41 : lw_okq (⟨"BowsOwedModel", "put", "(I)V"⟩, 46) := ⟨⟨by decide +kernel, by decide +kernel⟩, List.mem_of_getElem? (i := 1144) (by decide +kernel), List.mem_of_getElem? (i := 1313) (by decide +kernel), List.mem_of_getElem? (i := 1314) (by decide +kernel)⟩
theorem lw_p42 : lw_okq (⟨"BowsOwedModel", "next", "()V"⟩, 46) := ⟨⟨by decide +kernel, by decide +kernel⟩, List.mem_of_getElem? (i := 1144) (by decide +kernel), List.mem_of_getElem? (i := 1325) (by decide +kernel), List.mem_of_getElem? (i := 1326) (by decide +kernel)⟩
theorem lw_p43 : lw_okq (⟨"BowsOwedModel", "asks", "()V"⟩, 46) := ⟨⟨by decide +kernel, by decide +kernel⟩, List.mem_of_getElem? (i := 1144) (by decide +kernel), List.mem_of_getElem? (i := 1369) (by decide +kernel), List.mem_of_getElem? (i := 1370) (by decide +kernel)⟩
theorem lw_p44 : lw_okq (⟨"BowsOwedModel", "isWord", "(I)Z"⟩, 46) := ⟨⟨by decide +kernel, by decide +kernel⟩, List.mem_of_getElem? (i := 1144) (by decide +kernel), List.mem_of_getElem? (i := 1373) (by decide +kernel), List.mem_of_getElem? (i := 1374) (by decide +kernel)⟩
theorem lw_p45 : lw_okq (⟨"BowsOwedModel", "opensSign", "(I)Z"⟩, 46) := ⟨⟨by decide +kernel, by decide +kernel⟩, List.mem_of_getElem? (i := 1144) (by decide +kernel), List.mem_of_getElem? (i := 1377) (by decide +kernel), List.mem_of_getElem? (i := 1378) (by decide +kernel)⟩
theorem lw_p46 : lw_okq (⟨"BowsOwedModel", "errs", "(I)V"⟩, 46) := ⟨⟨by decide +kernel, by decide +kernel⟩, List.mem_of_getElem? (i := 1144) (by decide +kernel), List.mem_of_getElem? (i := 1381) (by decide +kernel), List.mem_of_getElem? (i := 1382) (by decide +kernel)⟩
theorem lw_p47 : lw_okq (⟨"BowsOwedModel", "opensFrame", "(I)V"⟩, 46) := ⟨⟨by decide +kernel, by decide +kernel⟩, List.mem_of_getElem? (i := 1144) (by decide +kernel), List.mem_of_getElem? (i := 1385) (by decide +kernel), List.mem_of_getElem? (i := 1386) (by decide +kernel)⟩
def lw_privs_3 : List (MethodName × Nat) := [(⟨"BowsOwed$Reckoning", "paidWith", "(LBowsOwed$State;II)I"⟩, 2), (⟨"BowsOwed$Reckoning", "nextDoor", "(LBowsOwed$State;I)I"⟩, 2), (⟨"BowsOwed", "necksNow", "()I"⟩, 12), (⟨"BowsOwed$Meetings", "listTwos", "(I)V"⟩, 6), (⟨"BowsOwed$Meetings", "bend", "(LBowsOwed$State;II)V"⟩, 6), (⟨"BowsOwed$Meetings", "explains", "([I)Z"⟩, 6), (⟨"BowsOwed$Meetings", "count", "(I)V"⟩, 6), (⟨"BowsOwedModel", "copies", "(Z)V"⟩, 46), (⟨"BowsOwedModel", "tells", "(II)V"⟩, 46), (⟨"BowsOwedModel", "put", "(I)V"⟩, 46), (⟨"BowsOwedModel", "next", "()V"⟩, 46), (⟨"BowsOwedModel", "asks", "()V"⟩, 46), (⟨"BowsOwedModel", "isWord", "(I)Z"⟩, 46), (⟨"BowsOwedModel", "opensSign", "(I)Z"⟩, 46), (⟨"BowsOwedModel", "errs", "(I)V"⟩, 46), (⟨"BowsOwedModel", "opensFrame", "(I)V"⟩, 46)]
theorem lw_r3 : ∀ q ∈ lw_privs_3, lw_okq q := List.forall_mem_cons.mpr ⟨lw_p32, List.forall_mem_cons.mpr ⟨lw_p33, List.forall_mem_cons.mpr ⟨lw_p34, List.forall_mem_cons.mpr ⟨lw_p35, List.forall_mem_cons.mpr ⟨lw_p36, List.forall_mem_cons.mpr ⟨lw_p37, List.forall_mem_cons.mpr ⟨lw_p38, List.forall_mem_cons.mpr ⟨lw_p39, List.forall_mem_cons.mpr ⟨lw_p40, List.forall_mem_cons.mpr ⟨lw_p41, List.forall_mem_cons.mpr ⟨lw_p42, List.forall_mem_cons.mpr ⟨lw_p43, List.forall_mem_cons.mpr ⟨lw_p44, List.forall_mem_cons.mpr ⟨lw_p45, List.forall_mem_cons.mpr ⟨lw_p46, List.forall_mem_cons.mpr ⟨lw_p47, fun _ h => absurd h List.not_mem_nil⟩⟩⟩⟩⟩⟩⟩⟩⟩⟩⟩⟩⟩⟩⟩⟩
theorem lw_p48 : lw_okq (⟨"BowsOwedModel", "begins", "()V"⟩, 46) := ⟨⟨by decide +kernel, by decide +kernel⟩, List.mem_of_getElem? (i := 1144) (by decide +kernel), List.mem_of_getElem? (i := 1389) (by decide +kernel), List.mem_of_getElem? (i := 1390) (by decide +kernel)⟩
theorem lw_p49 : lw_okq (⟨"BowsOwedModel", "nameNow", "()I"⟩, 46) := ⟨⟨by decide +kernel, by decide +kernel⟩, List.mem_of_getElem? (i := 1144) (by decide +kernel), List.mem_of_getElem? (i := 1393) (by decide +kernel), List.mem_of_getElem? (i := 1394) (by decide +kernel)⟩
theorem lw_p50 : lw_okq (⟨"BowsOwedModel", "emits", "(II)V"⟩, 46) := ⟨⟨by decide +kernel, by decide +kernel⟩, List.mem_of_getElem? (i := 1144) (by decide +kernel), List.mem_of_getElem? (i := 1397) (by decide +kernel), List.mem_of_getElem? (i := 1398) (by decide +kernel)⟩
theorem lw_p51 : lw_okq (⟨"BowsOwedModel", "oneIsOver", "()V"⟩, 46) := ⟨⟨by decide +kernel, by decide +kernel⟩, List.mem_of_getElem? (i := 1144) (by decide +kernel), List.mem_of_getElem? (i := 1401) (by decide +kernel), List.mem_of_getElem? (i := 1402) (by decide +kernel)⟩
theorem lw_p52 : lw_okq (⟨"BowsOwedModel", "top", "()I"⟩, 46) := ⟨⟨by decide +kernel, by decide +kernel⟩, List.mem_of_getElem? (i := 1144) (by decide +kernel), List.mem_of_getElem? (i := 1405) (by decide +kernel), List.mem_of_getElem? (i := 1406) (by decide +kernel)⟩
theorem lw_p53 : lw_okq (⟨"BowsOwedModel", "bySecond", "()V"⟩, 46) := ⟨⟨by decide +kernel, by decide +kernel⟩, List.mem_of_getElem? (i := 1144) (by decide +kernel), List.mem_of_getElem? (i := 1409) (by decide +kernel), List.mem_of_getElem? (i := 1410) (by decide +kernel)⟩
theorem lw_p54 : lw_okq (⟨"BowsOwedModel", "isSign", "(I)Z"⟩, 46) := ⟨⟨by decide +kernel, by decide +kernel⟩, List.mem_of_getElem? (i := 1144) (by decide +kernel), List.mem_of_getElem? (i := 1416) (by decide +kernel), List.mem_of_getElem? (i := 1417) (by decide +kernel)⟩
theorem lw_p55 : lw_okq (⟨"BowsOwedModel", "goesOn", "()V"⟩, 46) := ⟨⟨by decide +kernel, by decide +kernel⟩, List.mem_of_getElem? (i := 1144) (by decide +kernel), List.mem_of_getElem? (i := 1420) (by decide +kernel), List.mem_of_getElem? (i := 1421) (by decide +kernel)⟩
theorem lw_p56 : lw_okq (⟨"BowsOwedModel", "waitsFor", "(I)V"⟩, 46) := ⟨⟨by decide +kernel, by decide +kernel⟩, List.mem_of_getElem? (i := 1144) (by decide +kernel), List.mem_of_getElem? (i := 1424) (by decide +kernel), List.mem_of_getElem? (i := 1425) (by decide +kernel)⟩
theorem lw_p57 : lw_okq (⟨"BowsOwedModel", "works", "(I)V"⟩, 46) := ⟨⟨by decide +kernel, by decide +kernel⟩, List.mem_of_getElem? (i := 1144) (by decide +kernel), List.mem_of_getElem? (i := 1431) (by decide +kernel), List.mem_of_getElem? (i := 1432) (by decide +kernel)⟩
theorem lw_p58 : lw_okq (⟨"BowsOwedModel", "turnsTo", "(II)V"⟩, 46) := ⟨⟨by decide +kernel, by decide +kernel⟩, List.mem_of_getElem? (i := 1144) (by decide +kernel), List.mem_of_getElem? (i := 1435) (by decide +kernel), List.mem_of_getElem? (i := 1436) (by decide +kernel)⟩
theorem lw_p59 : lw_okq (⟨"BowsOwedModel", "askIsOver", "()V"⟩, 46) := ⟨⟨by decide +kernel, by decide +kernel⟩, List.mem_of_getElem? (i := 1144) (by decide +kernel), List.mem_of_getElem? (i := 1442) (by decide +kernel), List.mem_of_getElem? (i := 1443) (by decide +kernel)⟩
theorem lw_p60 : lw_okq (⟨"BowsOwedModel", "clauseIsOver", "()V"⟩, 46) := ⟨⟨by decide +kernel, by decide +kernel⟩, List.mem_of_getElem? (i := 1144) (by decide +kernel), List.mem_of_getElem? (i := 1446) (by decide +kernel), List.mem_of_getElem? (i := 1447) (by decide +kernel)⟩
theorem lw_p61 : lw_okq (⟨"BowsOwedModel", "asksOn", "()V"⟩, 46) := ⟨⟨by decide +kernel, by decide +kernel⟩, List.mem_of_getElem? (i := 1144) (by decide +kernel), List.mem_of_getElem? (i := 1450) (by decide +kernel), List.mem_of_getElem? (i := 1451) (by decide +kernel)⟩
theorem lw_p62 : lw_okq (⟨"BowsOwedModel", "clause", "()V"⟩, 46) := ⟨⟨by decide +kernel, by decide +kernel⟩, List.mem_of_getElem? (i := 1144) (by decide +kernel), List.mem_of_getElem? (i := 1454) (by decide +kernel), List.mem_of_getElem? (i := 1455) (by decide +kernel)⟩
theorem lw_p63 : lw_okq (⟨"BowsOwedModel", "wasTold", "(I)Z"⟩, 46) := ⟨⟨by decide +kernel, by decide +kernel⟩, List.mem_of_getElem? (i := 1144) (by decide +kernel), List.mem_of_getElem? (i := 1458) (by decide +kernel), List.mem_of_getElem? (i := 1459) (by decide +kernel)⟩
def lw_privs_4 : List (MethodName × Nat) := [(⟨"BowsOwedModel", "begins", "()V"⟩, 46), (⟨"BowsOwedModel", "nameNow", "()I"⟩, 46), (⟨"BowsOwedModel", "emits", "(II)V"⟩, 46), (⟨"BowsOwedModel", "oneIsOver", "()V"⟩, 46), (⟨"BowsOwedModel", "top", "()I"⟩, 46), (⟨"BowsOwedModel", "bySecond", "()V"⟩, 46), (⟨"BowsOwedModel", "isSign", "(I)Z"⟩, 46), (⟨"BowsOwedModel", "goesOn", "()V"⟩, 46), (⟨"BowsOwedModel", "waitsFor", "(I)V"⟩, 46), (⟨"BowsOwedModel", "works", "(I)V"⟩, 46), (⟨"BowsOwedModel", "turnsTo", "(II)V"⟩, 46), (⟨"BowsOwedModel", "askIsOver", "()V"⟩, 46), (⟨"BowsOwedModel", "clauseIsOver", "()V"⟩, 46), (⟨"BowsOwedModel", "asksOn", "()V"⟩, 46), (⟨"BowsOwedModel", "clause", "()V"⟩, 46), (⟨"BowsOwedModel", "wasTold", "(I)Z"⟩, 46)]
theorem lw_r4 : ∀ q ∈ lw_privs_4, lw_okq q := List.forall_mem_cons.mpr ⟨lw_p48, List.forall_mem_cons.mpr ⟨lw_p49, List.forall_mem_cons.mpr ⟨lw_p50, List.forall_mem_cons.mpr ⟨lw_p51, List.forall_mem_cons.mpr ⟨lw_p52, List.forall_mem_cons.mpr ⟨lw_p53, List.forall_mem_cons.mpr ⟨lw_p54, List.forall_mem_cons.mpr ⟨lw_p55, List.forall_mem_cons.mpr ⟨lw_p56, List.forall_mem_cons.mpr ⟨lw_p57, List.forall_mem_cons.mpr ⟨lw_p58, List.forall_mem_cons.mpr ⟨lw_p59, List.forall_mem_cons.mpr ⟨lw_p60, List.forall_mem_cons.mpr ⟨lw_p61, List.forall_mem_cons.mpr ⟨lw_p62, List.forall_mem_cons.mpr ⟨lw_p63, fun _ h => absurd h List.not_mem_nil⟩⟩⟩⟩⟩⟩⟩⟩⟩⟩⟩⟩⟩⟩⟩⟩
theorem lw_p64 : lw_okq (⟨"BowsOwedModel", "doing", "()V"⟩, 46) := ⟨⟨by decide +kernel, by decide +kernel⟩, List.mem_of_getElem? (i := 1144) (by decide +kernel), List.mem_of_getElem? (i := 1462) (by decide +kernel), List.mem_of_getElem? (i := 1463) (by decide +kernel)⟩
theorem lw_p65 : lw_okq (⟨"BowsOwedModel", "number", "(II)I"⟩, 46) := ⟨⟨by decide +kernel, by decide +kernel⟩, List.mem_of_getElem? (i := 1144) (by decide +kernel), List.mem_of_getElem? (i := 1466) (by decide +kernel), List.mem_of_getElem? (i := 1467) (by decide +kernel)⟩
theorem lw_p66 : lw_okq (⟨"BowsOwedModel", "numberBehind", "(III)I"⟩, 46) := ⟨⟨by decide +kernel, by decide +kernel⟩, List.mem_of_getElem? (i := 1144) (by decide +kernel), List.mem_of_getElem? (i := 1470) (by decide +kernel), List.mem_of_getElem? (i := 1471) (by decide +kernel)⟩
theorem lw_p67 : lw_okq (⟨"BowsOwedModel", "areTwo", "(II)Z"⟩, 46) := ⟨⟨by decide +kernel, by decide +kernel⟩, List.mem_of_getElem? (i := 1144) (by decide +kernel), List.mem_of_getElem? (i := 1486) (by decide +kernel), List.mem_of_getElem? (i := 1487) (by decide +kernel)⟩
theorem lw_p68 : lw_okq (⟨"BowsOwedModel", "isOne", "(I)Z"⟩, 46) := ⟨⟨by decide +kernel, by decide +kernel⟩, List.mem_of_getElem? (i := 1144) (by decide +kernel), List.mem_of_getElem? (i := 1490) (by decide +kernel), List.mem_of_getElem? (i := 1491) (by decide +kernel)⟩
theorem lw_p69 : lw_okq (⟨"BowsOwedModel", "laysNow", "()V"⟩, 46) := ⟨⟨by decide +kernel, by decide +kernel⟩, List.mem_of_getElem? (i := 1144) (by decide +kernel), List.mem_of_getElem? (i := 1494) (by decide +kernel), List.mem_of_getElem? (i := 1495) (by decide +kernel)⟩
theorem lw_p70 : lw_okq (⟨"BowsOwedModel", "canBow", "(II)Z"⟩, 46) := ⟨⟨by decide +kernel, by decide +kernel⟩, List.mem_of_getElem? (i := 1144) (by decide +kernel), List.mem_of_getElem? (i := 1498) (by decide +kernel), List.mem_of_getElem? (i := 1499) (by decide +kernel)⟩
theorem lw_p71 : lw_okq (⟨"BowsOwedModel", "doMeet", "(II)Z"⟩, 46) := ⟨⟨by decide +kernel, by decide +kernel⟩, List.mem_of_getElem? (i := 1144) (by decide +kernel), List.mem_of_getElem? (i := 1502) (by decide +kernel), List.mem_of_getElem? (i := 1503) (by decide +kernel)⟩
theorem lw_p72 : lw_okq (⟨"BowsOwedModel", "isOut", "(I)Z"⟩, 46) := ⟨⟨by decide +kernel, by decide +kernel⟩, List.mem_of_getElem? (i := 1144) (by decide +kernel), List.mem_of_getElem? (i := 1506) (by decide +kernel), List.mem_of_getElem? (i := 1507) (by decide +kernel)⟩
theorem lw_p73 : lw_okq (⟨"BowsOwedModel", "sizeOf", "(II)I"⟩, 46) := ⟨⟨by decide +kernel, by decide +kernel⟩, List.mem_of_getElem? (i := 1144) (by decide +kernel), List.mem_of_getElem? (i := 1510) (by decide +kernel), List.mem_of_getElem? (i := 1511) (by decide +kernel)⟩
theorem lw_p74 : lw_okq (⟨"BowsOwedModel", "ordersOf", "(I)I"⟩, 46) := ⟨⟨by decide +kernel, by decide +kernel⟩, List.mem_of_getElem? (i := 1144) (by decide +kernel), List.mem_of_getElem? (i := 1514) (by decide +kernel), List.mem_of_getElem? (i := 1515) (by decide +kernel)⟩
theorem lw_p75 : lw_okq (⟨"BowsOwedModel", "namesOf", "(II)V"⟩, 46) := ⟨⟨by decide +kernel, by decide +kernel⟩, List.mem_of_getElem? (i := 1144) (by decide +kernel), List.mem_of_getElem? (i := 1518) (by decide +kernel), List.mem_of_getElem? (i := 1519) (by decide +kernel)⟩
theorem lw_p76 : lw_okq (⟨"BowsOwedModel", "names", "(I)V"⟩, 46) := ⟨⟨by decide +kernel, by decide +kernel⟩, List.mem_of_getElem? (i := 1144) (by decide +kernel), List.mem_of_getElem? (i := 1522) (by decide +kernel), List.mem_of_getElem? (i := 1523) (by decide +kernel)⟩
theorem lw_p77 : lw_okq (⟨"BowsOwedModel", "saysOf", "(I)J"⟩, 46) := ⟨⟨by decide +kernel, by decide +kernel⟩, List.mem_of_getElem? (i := 1144) (by decide +kernel), List.mem_of_getElem? (i := 1529) (by decide +kernel), List.mem_of_getElem? (i := 1530) (by decide +kernel)⟩
theorem lw_p78 : lw_okq (⟨"BowsOwedModel", "worked", "(IJJ)J"⟩, 46) := ⟨⟨by decide +kernel, by decide +kernel⟩, List.mem_of_getElem? (i := 1144) (by decide +kernel), List.mem_of_getElem? (i := 1533) (by decide +kernel), List.mem_of_getElem? (i := 1534) (by decide +kernel)⟩
theorem lw_p79 : lw_okq (⟨"BowsOwedModel", "owedBy", "(JJ)J"⟩, 46) := ⟨⟨by decide +kernel, by decide +kernel⟩, List.mem_of_getElem? (i := 1144) (by decide +kernel), List.mem_of_getElem? (i := 1542) (by decide +kernel), List.mem_of_getElem? (i := 1543) (by decide +kernel)⟩
def lw_privs_5 : List (MethodName × Nat) := [(⟨"BowsOwedModel", "doing", "()V"⟩, 46), (⟨"BowsOwedModel", "number", "(II)I"⟩, 46), (⟨"BowsOwedModel", "numberBehind", "(III)I"⟩, 46), (⟨"BowsOwedModel", "areTwo", "(II)Z"⟩, 46), (⟨"BowsOwedModel", "isOne", "(I)Z"⟩, 46), (⟨"BowsOwedModel", "laysNow", "()V"⟩, 46), (⟨"BowsOwedModel", "canBow", "(II)Z"⟩, 46), (⟨"BowsOwedModel", "doMeet", "(II)Z"⟩, 46), (⟨"BowsOwedModel", "isOut", "(I)Z"⟩, 46), (⟨"BowsOwedModel", "sizeOf", "(II)I"⟩, 46), (⟨"BowsOwedModel", "ordersOf", "(I)I"⟩, 46), (⟨"BowsOwedModel", "namesOf", "(II)V"⟩, 46), (⟨"BowsOwedModel", "names", "(I)V"⟩, 46), (⟨"BowsOwedModel", "saysOf", "(I)J"⟩, 46), (⟨"BowsOwedModel", "worked", "(IJJ)J"⟩, 46), (⟨"BowsOwedModel", "owedBy", "(JJ)J"⟩, 46)]
theorem lw_r5 : ∀ q ∈ lw_privs_5, lw_okq q := List.forall_mem_cons.mpr ⟨lw_p64, List.forall_mem_cons.mpr ⟨lw_p65, List.forall_mem_cons.mpr ⟨lw_p66, List.forall_mem_cons.mpr ⟨lw_p67, List.forall_mem_cons.mpr ⟨lw_p68, List.forall_mem_cons.mpr ⟨lw_p69, List.forall_mem_cons.mpr ⟨lw_p70, List.forall_mem_cons.mpr ⟨lw_p71, List.forall_mem_cons.mpr ⟨lw_p72, List.forall_mem_cons.mpr ⟨lw_p73, List.forall_mem_cons.mpr ⟨lw_p74, List.forall_mem_cons.mpr ⟨lw_p75, List.forall_mem_cons.mpr ⟨lw_p76, List.forall_mem_cons.mpr ⟨lw_p77, List.forall_mem_cons.mpr ⟨lw_p78, List.forall_mem_cons.mpr ⟨lw_p79, fun _ h => absurd h List.not_mem_nil⟩⟩⟩⟩⟩⟩⟩⟩⟩⟩⟩⟩⟩⟩⟩⟩
theorem lw_p80 : lw_okq (⟨"BowsOwedModel", "keepsStep", "()V"⟩, 46) := ⟨⟨by decide +kernel, by decide +kernel⟩, List.mem_of_getElem? (i := 1144) (by decide +kernel), List.mem_of_getElem? (i := 1549) (by decide +kernel), List.mem_of_getElem? (i := 1550) (by decide +kernel)⟩
theorem lw_p81 : lw_okq (⟨"BowsOwedModel", "bows", "(II)V"⟩, 46) := ⟨⟨by decide +kernel, by decide +kernel⟩, List.mem_of_getElem? (i := 1144) (by decide +kernel), List.mem_of_getElem? (i := 1553) (by decide +kernel), List.mem_of_getElem? (i := 1554) (by decide +kernel)⟩
theorem lw_p82 : lw_okq (⟨"BowsOwedModel", "moreOf", "(III)I"⟩, 46) := ⟨⟨by decide +kernel, by decide +kernel⟩, List.mem_of_getElem? (i := 1144) (by decide +kernel), List.mem_of_getElem? (i := 1557) (by decide +kernel), List.mem_of_getElem? (i := 1558) (by decide +kernel)⟩
theorem lw_p83 : lw_okq (⟨"BowsOwedModel", "keepsNow", "()V"⟩, 46) := ⟨⟨by decide +kernel, by decide +kernel⟩, List.mem_of_getElem? (i := 1144) (by decide +kernel), List.mem_of_getElem? (i := 1561) (by decide +kernel), List.mem_of_getElem? (i := 1562) (by decide +kernel)⟩
theorem lw_p84 : lw_okq (⟨"BowsOwedModel", "walks", "(II)V"⟩, 46) := ⟨⟨by decide +kernel, by decide +kernel⟩, List.mem_of_getElem? (i := 1144) (by decide +kernel), List.mem_of_getElem? (i := 1573) (by decide +kernel), List.mem_of_getElem? (i := 1574) (by decide +kernel)⟩
theorem lw_p85 : lw_okq (⟨"BowsOwedModel", "feasts", "()I"⟩, 46) := ⟨⟨by decide +kernel, by decide +kernel⟩, List.mem_of_getElem? (i := 1144) (by decide +kernel), List.mem_of_getElem? (i := 1581) (by decide +kernel), List.mem_of_getElem? (i := 1582) (by decide +kernel)⟩
theorem lw_p86 : lw_okq (⟨"BowsOwedModel", "hourPasses", "()I"⟩, 46) := ⟨⟨by decide +kernel, by decide +kernel⟩, List.mem_of_getElem? (i := 1144) (by decide +kernel), List.mem_of_getElem? (i := 1593) (by decide +kernel), List.mem_of_getElem? (i := 1594) (by decide +kernel)⟩
theorem lw_p87 : lw_okq (⟨"BowsOwedModel", "dayBegins", "()I"⟩, 46) := ⟨⟨by decide +kernel, by decide +kernel⟩, List.mem_of_getElem? (i := 1144) (by decide +kernel), List.mem_of_getElem? (i := 1597) (by decide +kernel), List.mem_of_getElem? (i := 1598) (by decide +kernel)⟩
theorem lw_p88 : lw_okq (⟨"BowsOwedModel", "lateOf", "(II)I"⟩, 46) := ⟨⟨by decide +kernel, by decide +kernel⟩, List.mem_of_getElem? (i := 1144) (by decide +kernel), List.mem_of_getElem? (i := 1601) (by decide +kernel), List.mem_of_getElem? (i := 1602) (by decide +kernel)⟩
theorem lw_p89 : lw_okq (⟨"BowsOwedModel", "allOwedBy", "(I)I"⟩, 46) := ⟨⟨by decide +kernel, by decide +kernel⟩, List.mem_of_getElem? (i := 1144) (by decide +kernel), List.mem_of_getElem? (i := 1605) (by decide +kernel), List.mem_of_getElem? (i := 1606) (by decide +kernel)⟩
theorem lw_p90 : lw_okq (⟨"BowsOwedModel", "ruinOf", "(I)I"⟩, 46) := ⟨⟨by decide +kernel, by decide +kernel⟩, List.mem_of_getElem? (i := 1144) (by decide +kernel), List.mem_of_getElem? (i := 1609) (by decide +kernel), List.mem_of_getElem? (i := 1610) (by decide +kernel)⟩
theorem lw_p91 : lw_okq (⟨"BowsOwedModel", "writes", "(II)V"⟩, 46) := ⟨⟨by decide +kernel, by decide +kernel⟩, List.mem_of_getElem? (i := 1144) (by decide +kernel), List.mem_of_getElem? (i := 1614) (by decide +kernel), List.mem_of_getElem? (i := 1615) (by decide +kernel)⟩
theorem lw_p92 : lw_okq (⟨"BowsOwedModel", "happens", "()V"⟩, 46) := ⟨⟨by decide +kernel, by decide +kernel⟩, List.mem_of_getElem? (i := 1144) (by decide +kernel), List.mem_of_getElem? (i := 1622) (by decide +kernel), List.mem_of_getElem? (i := 1623) (by decide +kernel)⟩
theorem lw_p93 : lw_okq (⟨"BowsOwedModel", "draw", "(I)I"⟩, 46) := ⟨⟨by decide +kernel, by decide +kernel⟩, List.mem_of_getElem? (i := 1144) (by decide +kernel), List.mem_of_getElem? (i := 1626) (by decide +kernel), List.mem_of_getElem? (i := 1627) (by decide +kernel)⟩
theorem lw_p94 : lw_okq (⟨"BowsOwedModel", "canPass", "()Z"⟩, 46) := ⟨⟨by decide +kernel, by decide +kernel⟩, List.mem_of_getElem? (i := 1144) (by decide +kernel), List.mem_of_getElem? (i := 1630) (by decide +kernel), List.mem_of_getElem? (i := 1631) (by decide +kernel)⟩
theorem lw_p95 : lw_okq (⟨"BowsOwedModel", "hours", "(I)Z"⟩, 46) := ⟨⟨by decide +kernel, by decide +kernel⟩, List.mem_of_getElem? (i := 1144) (by decide +kernel), List.mem_of_getElem? (i := 1644) (by decide +kernel), List.mem_of_getElem? (i := 1645) (by decide +kernel)⟩
def lw_privs_6 : List (MethodName × Nat) := [(⟨"BowsOwedModel", "keepsStep", "()V"⟩, 46), (⟨"BowsOwedModel", "bows", "(II)V"⟩, 46), (⟨"BowsOwedModel", "moreOf", "(III)I"⟩, 46), (⟨"BowsOwedModel", "keepsNow", "()V"⟩, 46), (⟨"BowsOwedModel", "walks", "(II)V"⟩, 46), (⟨"BowsOwedModel", "feasts", "()I"⟩, 46), (⟨"BowsOwedModel", "hourPasses", "()I"⟩, 46), (⟨"BowsOwedModel", "dayBegins", "()I"⟩, 46), (⟨"BowsOwedModel", "lateOf", "(II)I"⟩, 46), (⟨"BowsOwedModel", "allOwedBy", "(I)I"⟩, 46), (⟨"BowsOwedModel", "ruinOf", "(I)I"⟩, 46), (⟨"BowsOwedModel", "writes", "(II)V"⟩, 46), (⟨"BowsOwedModel", "happens", "()V"⟩, 46), (⟨"BowsOwedModel", "draw", "(I)I"⟩, 46), (⟨"BowsOwedModel", "canPass", "()Z"⟩, 46), (⟨"BowsOwedModel", "hours", "(I)Z"⟩, 46)]
theorem lw_r6 : ∀ q ∈ lw_privs_6, lw_okq q := List.forall_mem_cons.mpr ⟨lw_p80, List.forall_mem_cons.mpr ⟨lw_p81, List.forall_mem_cons.mpr ⟨lw_p82, List.forall_mem_cons.mpr ⟨lw_p83, List.forall_mem_cons.mpr ⟨lw_p84, List.forall_mem_cons.mpr ⟨lw_p85, List.forall_mem_cons.mpr ⟨lw_p86, List.forall_mem_cons.mpr ⟨lw_p87, List.forall_mem_cons.mpr ⟨lw_p88, List.forall_mem_cons.mpr ⟨lw_p89, List.forall_mem_cons.mpr ⟨lw_p90, List.forall_mem_cons.mpr ⟨lw_p91, List.forall_mem_cons.mpr ⟨lw_p92, List.forall_mem_cons.mpr ⟨lw_p93, List.forall_mem_cons.mpr ⟨lw_p94, List.forall_mem_cons.mpr ⟨lw_p95, fun _ h => absurd h List.not_mem_nil⟩⟩⟩⟩⟩⟩⟩⟩⟩⟩⟩⟩⟩⟩⟩⟩
theorem lw_p96 : lw_okq (⟨"BowsOwedModel", "allOwedTo", "(I)I"⟩, 46) := ⟨⟨by decide +kernel, by decide +kernel⟩, List.mem_of_getElem? (i := 1144) (by decide +kernel), List.mem_of_getElem? (i := 1653) (by decide +kernel), List.mem_of_getElem? (i := 1654) (by decide +kernel)⟩
theorem lw_p97 : lw_okq (⟨"BowsOwedModel", "passesThrough", "(I)I"⟩, 46) := ⟨⟨by decide +kernel, by decide +kernel⟩, List.mem_of_getElem? (i := 1144) (by decide +kernel), List.mem_of_getElem? (i := 1673) (by decide +kernel), List.mem_of_getElem? (i := 1674) (by decide +kernel)⟩
theorem lw_p98 : lw_okq (⟨"BowsOwedModel", "placesOf", "(IZ)I"⟩, 46) := ⟨⟨by decide +kernel, by decide +kernel⟩, List.mem_of_getElem? (i := 1144) (by decide +kernel), List.mem_of_getElem? (i := 1693) (by decide +kernel), List.mem_of_getElem? (i := 1694) (by decide +kernel)⟩
theorem lw_p99 : lw_okq (⟨"BowsOwedModel", "laysYet", "(II)V"⟩, 46) := ⟨⟨by decide +kernel, by decide +kernel⟩, List.mem_of_getElem? (i := 1144) (by decide +kernel), List.mem_of_getElem? (i := 1697) (by decide +kernel), List.mem_of_getElem? (i := 1698) (by decide +kernel)⟩
theorem lw_p100 : lw_okq (⟨"BowsOwedModel", "owedIn", "(II)I"⟩, 46) := ⟨⟨by decide +kernel, by decide +kernel⟩, List.mem_of_getElem? (i := 1144) (by decide +kernel), List.mem_of_getElem? (i := 1719) (by decide +kernel), List.mem_of_getElem? (i := 1720) (by decide +kernel)⟩
theorem lw_p101 : lw_okq (⟨"BowsOwedModel", "few", "()I"⟩, 46) := ⟨⟨by decide +kernel, by decide +kernel⟩, List.mem_of_getElem? (i := 1144) (by decide +kernel), List.mem_of_getElem? (i := 1727) (by decide +kernel), List.mem_of_getElem? (i := 1728) (by decide +kernel)⟩
theorem lw_p102 : lw_okq (⟨"BowsOwedModel", "explainedWith", "(I)I"⟩, 46) := ⟨⟨by decide +kernel, by decide +kernel⟩, List.mem_of_getElem? (i := 1144) (by decide +kernel), List.mem_of_getElem? (i := 1735) (by decide +kernel), List.mem_of_getElem? (i := 1736) (by decide +kernel)⟩
theorem lw_p103 : lw_okq (⟨"BowsOwedModel", "explains", "(I)Z"⟩, 46) := ⟨⟨by decide +kernel, by decide +kernel⟩, List.mem_of_getElem? (i := 1144) (by decide +kernel), List.mem_of_getElem? (i := 1739) (by decide +kernel), List.mem_of_getElem? (i := 1740) (by decide +kernel)⟩
def lw_privs_7 : List (MethodName × Nat) := [(⟨"BowsOwedModel", "allOwedTo", "(I)I"⟩, 46), (⟨"BowsOwedModel", "passesThrough", "(I)I"⟩, 46), (⟨"BowsOwedModel", "placesOf", "(IZ)I"⟩, 46), (⟨"BowsOwedModel", "laysYet", "(II)V"⟩, 46), (⟨"BowsOwedModel", "owedIn", "(II)I"⟩, 46), (⟨"BowsOwedModel", "few", "()I"⟩, 46), (⟨"BowsOwedModel", "explainedWith", "(I)I"⟩, 46), (⟨"BowsOwedModel", "explains", "(I)Z"⟩, 46)]
theorem lw_r7 : ∀ q ∈ lw_privs_7, lw_okq q := List.forall_mem_cons.mpr ⟨lw_p96, List.forall_mem_cons.mpr ⟨lw_p97, List.forall_mem_cons.mpr ⟨lw_p98, List.forall_mem_cons.mpr ⟨lw_p99, List.forall_mem_cons.mpr ⟨lw_p100, List.forall_mem_cons.mpr ⟨lw_p101, List.forall_mem_cons.mpr ⟨lw_p102, List.forall_mem_cons.mpr ⟨lw_p103, fun _ h => absurd h List.not_mem_nil⟩⟩⟩⟩⟩⟩⟩⟩
def lw_privs : List (MethodName × Nat) := lw_privs_1 ++ (lw_privs_2 ++ (lw_privs_3 ++ (lw_privs_4 ++ (lw_privs_5 ++ (lw_privs_6 ++ (lw_privs_7))))))
def lw_tbl : List Cond := k2_sels lw_privs ++ tables_1
theorem lw_privs_ok : ∀ q ∈ lw_privs, lw_okq q := by
  show ∀ q ∈ lw_privs_1 ++ (lw_privs_2 ++ (lw_privs_3 ++ (lw_privs_4 ++ (lw_privs_5 ++ (lw_privs_6 ++ (lw_privs_7)))))), lw_okq q
  exact List.forall_mem_append.mpr ⟨lw_r1, List.forall_mem_append.mpr ⟨lw_r2, List.forall_mem_append.mpr ⟨lw_r3, List.forall_mem_append.mpr ⟨lw_r4, List.forall_mem_append.mpr ⟨lw_r5, List.forall_mem_append.mpr ⟨lw_r6, lw_r7⟩⟩⟩⟩⟩⟩
def RX0 : String := "BowsOwed$Errand"
def TX0 : u_T := fun k => match k with
  | 0 => ("BowsOwed$Errand", "steps", "I", false)
  | 1 => ("BowsOwed$Errand", "way", "I", false)
  | 2 => ("BowsOwed$Errand", "turn", "I", false)
  | 3 => ("BowsOwed$Errand", "from", "I", false)
  | 4 => ("BowsOwed$Errand", "wanted", "I", false)
  | _ => ("BowsOwed$Errand", "shunned", "I", false)
def tyX0 : Nat → FieldType := fun k => match k with
  | 0 => .int
  | 1 => .int
  | 2 => .int
  | 3 => .int
  | 4 => .int
  | _ => .int
theorem nmX0 : ∀ a, a < 6 → ∀ b, b < 6 → a ≠ b → (TX0 a).2.1 ≠ (TX0 b).2.1 := by decide +kernel
theorem tyX0_ok : ∀ k, k < 6 → parseFieldDescriptor (TX0 k).2.2.1 = some (tyX0 k) := by decide +kernel
abbrev cX0_init : ByteArray := prog_2_method_1_code
def yX0_init : MethodName := ⟨RX0, "<init>", "()V"⟩
abbrev cX0_find : ByteArray := prog_2_method_2_code
def yX0_find : MethodName := ⟨RX0, "find", "(LBowsOwed$State;I)Z"⟩
abbrev cX0_step : ByteArray := prog_2_method_3_code
def yX0_step : MethodName := ⟨RX0, "step", "(I)I"⟩
abbrev cX0_look : ByteArray := prog_2_method_4_code
def yX0_look : MethodName := ⟨RX0, "look", "(LBowsOwed$State;I)V"⟩
abbrev cX0_reaches : ByteArray := prog_2_method_5_code
def yX0_reaches : MethodName := ⟨RX0, "reaches", "(III)Z"⟩
def RX1 : String := "BowsOwed$Laws"
def TX1 : u_T := fun k => match k with
  | 0 => ("BowsOwed$Laws", "people", "LBowsOwed$People;", true)
  | 1 => ("BowsOwed$Laws", "state", "LBowsOwed$State;", true)
  | 2 => ("BowsOwed$Laws", "names", "[I", true)
  | 3 => ("BowsOwed$Laws", "stack", "[I", true)
  | 4 => ("BowsOwed$Laws", "top", "I", false)
  | _ => ("BowsOwed$Laws", "script", "LBowsOwed$Script;", false)
def tyX1 : Nat → FieldType := fun k => match k with
  | 0 => .object "BowsOwed$People"
  | 1 => .object "BowsOwed$State"
  | 2 => .array .int
  | 3 => .array .int
  | 4 => .int
  | _ => .object "BowsOwed$Script"
theorem nmX1 : ∀ a, a < 6 → ∀ b, b < 6 → a ≠ b → (TX1 a).2.1 ≠ (TX1 b).2.1 := by decide +kernel
theorem tyX1_ok : ∀ k, k < 6 → parseFieldDescriptor (TX1 k).2.2.1 = some (tyX1 k) := by decide +kernel
abbrev cX1_init : ByteArray := prog_3_method_1_code
def yX1_init : MethodName := ⟨RX1, "<init>", "(LBowsOwed$People;LBowsOwed$State;LBowsOwed$Script;)V"⟩
abbrev cX1_rule : ByteArray := prog_3_method_2_code
def yX1_rule : MethodName := ⟨RX1, "rule", "(LBowsOwed$Script;)V"⟩
abbrev cX1_sizeOf : ByteArray := prog_3_method_3_code
def yX1_sizeOf : MethodName := ⟨RX1, "sizeOf", "(II)I"⟩
abbrev cX1_moreOf : ByteArray := prog_3_method_4_code
def yX1_moreOf : MethodName := ⟨RX1, "moreOf", "(III)I"⟩
abbrev cX1_lateOf : ByteArray := prog_3_method_5_code
def yX1_lateOf : MethodName := ⟨RX1, "lateOf", "(II)I"⟩
abbrev cX1_ruinOf : ByteArray := prog_3_method_6_code
def yX1_ruinOf : MethodName := ⟨RX1, "ruinOf", "(I)I"⟩
abbrev cX1_has : ByteArray := prog_3_method_7_code
def yX1_has : MethodName := ⟨RX1, "has", "(I)Z"⟩
abbrev cX1_name : ByteArray := prog_3_method_8_code
def yX1_name : MethodName := ⟨RX1, "name", "(III)V"⟩
abbrev cX1_run : ByteArray := prog_3_method_9_code
def yX1_run : MethodName := ⟨RX1, "run", "(I)I"⟩
abbrev cX1_push : ByteArray := prog_3_method_10_code
def yX1_push : MethodName := ⟨RX1, "push", "(I)V"⟩
abbrev cX1_pop : ByteArray := prog_3_method_11_code
def yX1_pop : MethodName := ⟨RX1, "pop", "()I"⟩
abbrev cX1_joined : ByteArray := prog_3_method_12_code
def yX1_joined : MethodName := ⟨RX1, "joined", "(III)I"⟩
def RX2 : String := "BowsOwed$Meetings"
def TX2 : u_T := fun k => match k with
  | 0 => ("BowsOwed$Meetings", "sets", "I", false)
  | 1 => ("BowsOwed$Meetings", "twos", "I", false)
  | 2 => ("BowsOwed$Meetings", "lower", "[I", true)
  | 3 => ("BowsOwed$Meetings", "higher", "[I", true)
  | 4 => ("BowsOwed$Meetings", "met", "[I", true)
  | _ => ("BowsOwed$Meetings", "bent", "[I", true)
def tyX2 : Nat → FieldType := fun k => match k with
  | 0 => .int
  | 1 => .int
  | 2 => .array .int
  | 3 => .array .int
  | 4 => .array .int
  | _ => .array .int
theorem nmX2 : ∀ a, a < 6 → ∀ b, b < 6 → a ≠ b → (TX2 a).2.1 ≠ (TX2 b).2.1 := by decide +kernel
theorem tyX2_ok : ∀ k, k < 6 → parseFieldDescriptor (TX2 k).2.2.1 = some (tyX2 k) := by decide +kernel
abbrev cX2_init : ByteArray := prog_4_method_1_code
def yX2_init : MethodName := ⟨RX2, "<init>", "()V"⟩
abbrev cX2_reckon : ByteArray := prog_4_method_2_code
def yX2_reckon : MethodName := ⟨RX2, "reckon", "(LBowsOwed$State;[I)V"⟩
abbrev cX2_listTwos : ByteArray := prog_4_method_3_code
def yX2_listTwos : MethodName := ⟨RX2, "listTwos", "(I)V"⟩
abbrev cX2_bend : ByteArray := prog_4_method_4_code
def yX2_bend : MethodName := ⟨RX2, "bend", "(LBowsOwed$State;II)V"⟩
abbrev cX2_explains : ByteArray := prog_4_method_5_code
def yX2_explains : MethodName := ⟨RX2, "explains", "([I)Z"⟩
abbrev cX2_count : ByteArray := prog_4_method_6_code
def yX2_count : MethodName := ⟨RX2, "count", "(I)V"⟩
abbrev cX2_sureOf : ByteArray := prog_4_method_7_code
def yX2_sureOf : MethodName := ⟨RX2, "sureOf", "(II)I"⟩
abbrev cX2_mostOpen : ByteArray := prog_4_method_8_code
def yX2_mostOpen : MethodName := ⟨RX2, "mostOpen", "()I"⟩
def RX3 : String := "BowsOwed$People"
def TX3 : u_T := fun k => match k with
  | 0 => ("BowsOwed$People", "age", "[I", true)
  | 1 => ("BowsOwed$People", "back", "[I", true)
  | _ => ("BowsOwed$People", "place", "[I", true)
def tyX3 : Nat → FieldType := fun k => match k with
  | 0 => .array .int
  | 1 => .array .int
  | _ => .array .int
theorem nmX3 : ∀ a, a < 3 → ∀ b, b < 3 → a ≠ b → (TX3 a).2.1 ≠ (TX3 b).2.1 := by decide +kernel
theorem tyX3_ok : ∀ k, k < 3 → parseFieldDescriptor (TX3 k).2.2.1 = some (tyX3 k) := by decide +kernel
abbrev cX3_init : ByteArray := prog_5_method_1_code
def yX3_init : MethodName := ⟨RX3, "<init>", "()V"⟩
abbrev cX3_tell : ByteArray := prog_5_method_2_code
def yX3_tell : MethodName := ⟨RX3, "tell", "(IIII)V"⟩
abbrev cX3_ageOf : ByteArray := prog_5_method_3_code
def yX3_ageOf : MethodName := ⟨RX3, "ageOf", "(I)I"⟩
abbrev cX3_backOf : ByteArray := prog_5_method_4_code
def yX3_backOf : MethodName := ⟨RX3, "backOf", "(I)I"⟩
abbrev cX3_placeOf : ByteArray := prog_5_method_5_code
def yX3_placeOf : MethodName := ⟨RX3, "placeOf", "(I)I"⟩
def RX4 : String := "BowsOwed$Reader"
def TX4 : u_T := fun k => match k with
  | 0 => ("BowsOwed$Reader", "draft", "LBowsOwed$Script;", true)
  | 1 => ("BowsOwed$Reader", "fault", "I", false)
  | 2 => ("BowsOwed$Reader", "faultAt", "I", false)
  | 3 => ("BowsOwed$Reader", "tape", "LBowsOwed$Tape;", true)
  | _ => ("BowsOwed$Reader", "law", "I", false)
def tyX4 : Nat → FieldType := fun k => match k with
  | 0 => .object "BowsOwed$Script"
  | 1 => .int
  | 2 => .int
  | 3 => .object "BowsOwed$Tape"
  | _ => .int
theorem nmX4 : ∀ a, a < 5 → ∀ b, b < 5 → a ≠ b → (TX4 a).2.1 ≠ (TX4 b).2.1 := by decide +kernel
theorem tyX4_ok : ∀ k, k < 5 → parseFieldDescriptor (TX4 k).2.2.1 = some (tyX4 k) := by decide +kernel
abbrev cX4_init : ByteArray := prog_6_method_1_code
def yX4_init : MethodName := ⟨RX4, "<init>", "(LBowsOwed$Tape;)V"⟩
abbrev cX4_read : ByteArray := prog_6_method_2_code
def yX4_read : MethodName := ⟨RX4, "read", "()Z"⟩
abbrev cX4_is : ByteArray := prog_6_method_3_code
def yX4_is : MethodName := ⟨RX4, "is", "(I)Z"⟩
abbrev cX4_fail : ByteArray := prog_6_method_4_code
def yX4_fail : MethodName := ⟨RX4, "fail", "(I)V"⟩
abbrev cX4_expect : ByteArray := prog_6_method_5_code
def yX4_expect : MethodName := ⟨RX4, "expect", "(I)V"⟩
abbrev cX4_readClause : ByteArray := prog_6_method_6_code
def yX4_readClause : MethodName := ⟨RX4, "readClause", "()V"⟩
abbrev cX4_readDeed : ByteArray := prog_6_method_7_code
def yX4_readDeed : MethodName := ⟨RX4, "readDeed", "(I)V"⟩
abbrev cX4_readNumber : ByteArray := prog_6_method_8_code
def yX4_readNumber : MethodName := ⟨RX4, "readNumber", "(III)V"⟩
abbrev cX4_readSum : ByteArray := prog_6_method_9_code
def yX4_readSum : MethodName := ⟨RX4, "readSum", "(I)V"⟩
abbrev cX4_readProduct : ByteArray := prog_6_method_10_code
def yX4_readProduct : MethodName := ⟨RX4, "readProduct", "(I)V"⟩
abbrev cX4_readPart : ByteArray := prog_6_method_11_code
def yX4_readPart : MethodName := ⟨RX4, "readPart", "(I)V"⟩
abbrev cX4_readNested : ByteArray := prog_6_method_12_code
def yX4_readNested : MethodName := ⟨RX4, "readNested", "(I)V"⟩
abbrev cX4_readChoice : ByteArray := prog_6_method_13_code
def yX4_readChoice : MethodName := ⟨RX4, "readChoice", "(I)V"⟩
abbrev cX4_readEither : ByteArray := prog_6_method_14_code
def yX4_readEither : MethodName := ⟨RX4, "readEither", "(I)V"⟩
abbrev cX4_readBoth : ByteArray := prog_6_method_15_code
def yX4_readBoth : MethodName := ⟨RX4, "readBoth", "(I)V"⟩
abbrev cX4_readAsk : ByteArray := prog_6_method_16_code
def yX4_readAsk : MethodName := ⟨RX4, "readAsk", "(I)V"⟩
abbrev cX4_isComparison : ByteArray := prog_6_method_17_code
def yX4_isComparison : MethodName := ⟨RX4, "isComparison", "(I)Z"⟩
abbrev cX4_isOfLaw : ByteArray := prog_6_method_18_code
def yX4_isOfLaw : MethodName := ⟨RX4, "isOfLaw", "(I)Z"⟩
def RX5 : String := "BowsOwed$Reckoning"
def TX5 : u_T := fun k => match k with
  | 0 => ("BowsOwed$Reckoning", "have", "[I", true)
  | _ => ("BowsOwed$Reckoning", "best", "[I", true)
def tyX5 : Nat → FieldType := fun k => match k with
  | 0 => .array .int
  | _ => .array .int
theorem nmX5 : ∀ a, a < 2 → ∀ b, b < 2 → a ≠ b → (TX5 a).2.1 ≠ (TX5 b).2.1 := by decide +kernel
theorem tyX5_ok : ∀ k, k < 2 → parseFieldDescriptor (TX5 k).2.2.1 = some (tyX5 k) := by decide +kernel
abbrev cX5_init : ByteArray := prog_7_method_1_code
def yX5_init : MethodName := ⟨RX5, "<init>", "()V"⟩
abbrev cX5_mostEvenSets : ByteArray := prog_7_method_2_code
def yX5_mostEvenSets : MethodName := ⟨RX5, "mostEvenSets", "(LBowsOwed$State;)I"⟩
abbrev cX5_weighOrders : ByteArray := prog_7_method_3_code
def yX5_weighOrders : MethodName := ⟨RX5, "weighOrders", "(LBowsOwed$State;)V"⟩
abbrev cX5_leastPaid : ByteArray := prog_7_method_4_code
def yX5_leastPaid : MethodName := ⟨RX5, "leastPaid", "()I"⟩
abbrev cX5_door : ByteArray := prog_7_method_5_code
def yX5_door : MethodName := ⟨RX5, "door", "(LBowsOwed$State;I)I"⟩
abbrev cX5_nextDoor : ByteArray := prog_7_method_6_code
def yX5_nextDoor : MethodName := ⟨RX5, "nextDoor", "(LBowsOwed$State;I)I"⟩
abbrev cX5_paidWith : ByteArray := prog_7_method_7_code
def yX5_paidWith : MethodName := ⟨RX5, "paidWith", "(LBowsOwed$State;II)I"⟩
def RX6 : String := "BowsOwed$Script"
def TX6 : u_T := fun k => match k with
  | 0 => ("BowsOwed$Script", "code", "[I", true)
  | 1 => ("BowsOwed$Script", "starts", "[I", true)
  | 2 => ("BowsOwed$Script", "stops", "[I", true)
  | 3 => ("BowsOwed$Script", "deeds", "[I", true)
  | 4 => ("BowsOwed$Script", "numbers", "[I", true)
  | 5 => ("BowsOwed$Script", "length", "I", false)
  | _ => ("BowsOwed$Script", "clauses", "I", false)
def tyX6 : Nat → FieldType := fun k => match k with
  | 0 => .array .int
  | 1 => .array .int
  | 2 => .array .int
  | 3 => .array .int
  | 4 => .array .int
  | 5 => .int
  | _ => .int
theorem nmX6 : ∀ a, a < 7 → ∀ b, b < 7 → a ≠ b → (TX6 a).2.1 ≠ (TX6 b).2.1 := by decide +kernel
theorem tyX6_ok : ∀ k, k < 7 → parseFieldDescriptor (TX6 k).2.2.1 = some (tyX6 k) := by decide +kernel
abbrev cX6_init : ByteArray := prog_8_method_1_code
def yX6_init : MethodName := ⟨RX6, "<init>", "()V"⟩
abbrev cX6_empty : ByteArray := prog_8_method_2_code
def yX6_empty : MethodName := ⟨RX6, "empty", "()V"⟩
abbrev cX6_copyFrom : ByteArray := prog_8_method_3_code
def yX6_copyFrom : MethodName := ⟨RX6, "copyFrom", "(LBowsOwed$Script;)V"⟩
abbrev cX6_begin : ByteArray := prog_8_method_4_code
def yX6_begin : MethodName := ⟨RX6, "begin", "(I)V"⟩
abbrev cX6_endLaw : ByteArray := prog_8_method_5_code
def yX6_endLaw : MethodName := ⟨RX6, "endLaw", "(I)V"⟩
abbrev cX6_tellNumber : ByteArray := prog_8_method_6_code
def yX6_tellNumber : MethodName := ⟨RX6, "tellNumber", "(II)V"⟩
abbrev cX6_emit : ByteArray := prog_8_method_7_code
def yX6_emit : MethodName := ⟨RX6, "emit", "(II)I"⟩
abbrev cX6_leadHere : ByteArray := prog_8_method_8_code
def yX6_leadHere : MethodName := ⟨RX6, "leadHere", "(I)V"⟩
abbrev cX6_deed : ByteArray := prog_8_method_9_code
def yX6_deed : MethodName := ⟨RX6, "deed", "(I)I"⟩
abbrev cX6_number : ByteArray := prog_8_method_10_code
def yX6_number : MethodName := ⟨RX6, "number", "(II)I"⟩
abbrev cX6_has : ByteArray := prog_8_method_11_code
def yX6_has : MethodName := ⟨RX6, "has", "(I)Z"⟩
abbrev cX6_start : ByteArray := prog_8_method_12_code
def yX6_start : MethodName := ⟨RX6, "start", "(I)I"⟩
abbrev cX6_stop : ByteArray := prog_8_method_13_code
def yX6_stop : MethodName := ⟨RX6, "stop", "(I)I"⟩
abbrev cX6_step : ByteArray := prog_8_method_14_code
def yX6_step : MethodName := ⟨RX6, "step", "(I)I"⟩
def RX7 : String := "BowsOwed$State"
def TX7 : u_T := fun k => match k with
  | 0 => ("BowsOwed$State", "count", "I", false)
  | 1 => ("BowsOwed$State", "day", "I", false)
  | 2 => ("BowsOwed$State", "hour", "I", false)
  | 3 => ("BowsOwed$State", "x", "I", false)
  | 4 => ("BowsOwed$State", "written", "I", false)
  | 5 => ("BowsOwed$State", "left", "[I", true)
  | 6 => ("BowsOwed$State", "place", "[I", true)
  | 7 => ("BowsOwed$State", "indoors", "[I", true)
  | 8 => ("BowsOwed$State", "owes", "[I", true)
  | _ => ("BowsOwed$State", "book", "[I", true)
def tyX7 : Nat → FieldType := fun k => match k with
  | 0 => .int
  | 1 => .int
  | 2 => .int
  | 3 => .int
  | 4 => .int
  | 5 => .array .int
  | 6 => .array .int
  | 7 => .array .int
  | 8 => .array .int
  | _ => .array .int
theorem nmX7 : ∀ a, a < 10 → ∀ b, b < 10 → a ≠ b → (TX7 a).2.1 ≠ (TX7 b).2.1 := by decide +kernel
theorem tyX7_ok : ∀ k, k < 10 → parseFieldDescriptor (TX7 k).2.2.1 = some (tyX7 k) := by decide +kernel
abbrev cX7_init : ByteArray := prog_9_method_1_code
def yX7_init : MethodName := ⟨RX7, "<init>", "()V"⟩
abbrev cX7_copyFrom : ByteArray := prog_9_method_2_code
def yX7_copyFrom : MethodName := ⟨RX7, "copyFrom", "(LBowsOwed$State;)V"⟩
abbrev cX7_has : ByteArray := prog_9_method_3_code
def yX7_has : MethodName := ⟨RX7, "has", "(I)Z"⟩
abbrev cX7_areTwo : ByteArray := prog_9_method_4_code
def yX7_areTwo : MethodName := ⟨RX7, "areTwo", "(II)Z"⟩
abbrev cX7_out : ByteArray := prog_9_method_5_code
def yX7_out : MethodName := ⟨RX7, "out", "(I)Z"⟩
abbrev cX7_meet : ByteArray := prog_9_method_6_code
def yX7_meet : MethodName := ⟨RX7, "meet", "(II)Z"⟩
abbrev cX7_leftOf : ByteArray := prog_9_method_7_code
def yX7_leftOf : MethodName := ⟨RX7, "leftOf", "(I)I"⟩
abbrev cX7_placeOf : ByteArray := prog_9_method_8_code
def yX7_placeOf : MethodName := ⟨RX7, "placeOf", "(I)I"⟩
abbrev cX7_indoorsOf : ByteArray := prog_9_method_9_code
def yX7_indoorsOf : MethodName := ⟨RX7, "indoorsOf", "(I)I"⟩
abbrev cX7_owed : ByteArray := prog_9_method_10_code
def yX7_owed : MethodName := ⟨RX7, "owed", "(II)I"⟩
abbrev cX7_setOwed : ByteArray := prog_9_method_11_code
def yX7_setOwed : MethodName := ⟨RX7, "setOwed", "(III)V"⟩
abbrev cX7_owesTogether : ByteArray := prog_9_method_12_code
def yX7_owesTogether : MethodName := ⟨RX7, "owesTogether", "(I)I"⟩
abbrev cX7_owedTogether : ByteArray := prog_9_method_13_code
def yX7_owedTogether : MethodName := ⟨RX7, "owedTogether", "(I)I"⟩
abbrev cX7_enter : ByteArray := prog_9_method_14_code
def yX7_enter : MethodName := ⟨RX7, "enter", "(LBowsOwed$People;)V"⟩
abbrev cX7_bends : ByteArray := prog_9_method_15_code
def yX7_bends : MethodName := ⟨RX7, "bends", "(II)V"⟩
abbrev cX7_walks : ByteArray := prog_9_method_16_code
def yX7_walks : MethodName := ⟨RX7, "walks", "(II)V"⟩
abbrev cX7_forgives : ByteArray := prog_9_method_17_code
def yX7_forgives : MethodName := ⟨RX7, "forgives", "()I"⟩
abbrev cX7_clearable : ByteArray := prog_9_method_18_code
def yX7_clearable : MethodName := ⟨RX7, "clearable", "(III)I"⟩
abbrev cX7_clears : ByteArray := prog_9_method_19_code
def yX7_clears : MethodName := ⟨RX7, "clears", "(IIII)V"⟩
abbrev cX7_hoursToCome : ByteArray := prog_9_method_20_code
def yX7_hoursToCome : MethodName := ⟨RX7, "hoursToCome", "()I"⟩
abbrev cX7_sleeps : ByteArray := prog_9_method_21_code
def yX7_sleeps : MethodName := ⟨RX7, "sleeps", "(II)V"⟩
abbrev cX7_ruins : ByteArray := prog_9_method_22_code
def yX7_ruins : MethodName := ⟨RX7, "ruins", "(I)V"⟩
abbrev cX7_write : ByteArray := prog_9_method_23_code
def yX7_write : MethodName := ⟨RX7, "write", "(II)V"⟩
abbrev cX7_booked : ByteArray := prog_9_method_24_code
def yX7_booked : MethodName := ⟨RX7, "booked", "(II)I"⟩
abbrev cX7_draw : ByteArray := prog_9_method_25_code
def yX7_draw : MethodName := ⟨RX7, "draw", "(I)I"⟩
def RX8 : String := "BowsOwed$Tape"
def TX8 : u_T := fun k => match k with
  | 0 => ("BowsOwed$Tape", "bytes", "[I", true)
  | 1 => ("BowsOwed$Tape", "length", "I", false)
  | 2 => ("BowsOwed$Tape", "token", "I", false)
  | 3 => ("BowsOwed$Tape", "value", "I", false)
  | 4 => ("BowsOwed$Tape", "start", "I", false)
  | _ => ("BowsOwed$Tape", "at", "I", false)
def tyX8 : Nat → FieldType := fun k => match k with
  | 0 => .array .int
  | 1 => .int
  | 2 => .int
  | 3 => .int
  | 4 => .int
  | _ => .int
theorem nmX8 : ∀ a, a < 6 → ∀ b, b < 6 → a ≠ b → (TX8 a).2.1 ≠ (TX8 b).2.1 := by decide +kernel
theorem tyX8_ok : ∀ k, k < 6 → parseFieldDescriptor (TX8 k).2.2.1 = some (tyX8 k) := by decide +kernel
abbrev cX8_init : ByteArray := prog_10_method_1_code
def yX8_init : MethodName := ⟨RX8, "<init>", "()V"⟩
abbrev cX8_add : ByteArray := prog_10_method_2_code
def yX8_add : MethodName := ⟨RX8, "add", "(I)V"⟩
abbrev cX8_rewind : ByteArray := prog_10_method_3_code
def yX8_rewind : MethodName := ⟨RX8, "rewind", "()V"⟩
abbrev cX8_next : ByteArray := prog_10_method_4_code
def yX8_next : MethodName := ⟨RX8, "next", "()V"⟩
abbrev cX8_takeWord : ByteArray := prog_10_method_5_code
def yX8_takeWord : MethodName := ⟨RX8, "takeWord", "()V"⟩
abbrev cX8_takeNumber : ByteArray := prog_10_method_6_code
def yX8_takeNumber : MethodName := ⟨RX8, "takeNumber", "()V"⟩
abbrev cX8_takeSign : ByteArray := prog_10_method_7_code
def yX8_takeSign : MethodName := ⟨RX8, "takeSign", "(I)V"⟩
abbrev cX8_byteAt : ByteArray := prog_10_method_8_code
def yX8_byteAt : MethodName := ⟨RX8, "byteAt", "(I)I"⟩
abbrev cX8_isLetter : ByteArray := prog_10_method_9_code
def yX8_isLetter : MethodName := ⟨RX8, "isLetter", "(I)Z"⟩
abbrev cX8_isDigit : ByteArray := prog_10_method_10_code
def yX8_isDigit : MethodName := ⟨RX8, "isDigit", "(I)Z"⟩
def RX9 : String := "BowsOwed$Town"
def TX9 : u_T := fun k => match k with
  | 0 => ("BowsOwed$Town", "state", "LBowsOwed$State;", true)
  | 1 => ("BowsOwed$Town", "laws", "LBowsOwed$Laws;", true)
  | _ => ("BowsOwed$Town", "people", "LBowsOwed$People;", true)
def tyX9 : Nat → FieldType := fun k => match k with
  | 0 => .object "BowsOwed$State"
  | 1 => .object "BowsOwed$Laws"
  | _ => .object "BowsOwed$People"
theorem nmX9 : ∀ a, a < 3 → ∀ b, b < 3 → a ≠ b → (TX9 a).2.1 ≠ (TX9 b).2.1 := by decide +kernel
theorem tyX9_ok : ∀ k, k < 3 → parseFieldDescriptor (TX9 k).2.2.1 = some (tyX9 k) := by decide +kernel
abbrev cX9_init : ByteArray := prog_11_method_1_code
def yX9_init : MethodName := ⟨RX9, "<init>", "(LBowsOwed$People;LBowsOwed$State;LBowsOwed$Script;)V"⟩
abbrev cX9_canBow : ByteArray := prog_11_method_2_code
def yX9_canBow : MethodName := ⟨RX9, "canBow", "(II)Z"⟩
abbrev cX9_bows : ByteArray := prog_11_method_3_code
def yX9_bows : MethodName := ⟨RX9, "bows", "(II)V"⟩
abbrev cX9_passHour : ByteArray := prog_11_method_4_code
def yX9_passHour : MethodName := ⟨RX9, "passHour", "()I"⟩
abbrev cX9_drawDeed : ByteArray := prog_11_method_5_code
def yX9_drawDeed : MethodName := ⟨RX9, "drawDeed", "()V"⟩
def RX10 : String := "BowsOwed$Whole"
def TX10 : u_T := fun k => match k with
  | 0 => ("BowsOwed$Whole", "state", "LBowsOwed$State;", true)
  | 1 => ("BowsOwed$Whole", "necks", "[I", true)
  | 2 => ("BowsOwed$Whole", "texts", "I", false)
  | 3 => ("BowsOwed$Whole", "ruling", "I", false)
  | 4 => ("BowsOwed$Whole", "steps", "I", false)
  | 5 => ("BowsOwed$Whole", "before", "[LBowsOwed$State;", true)
  | _ => ("BowsOwed$Whole", "eldest", "I", false)
def tyX10 : Nat → FieldType := fun k => match k with
  | 0 => .object "BowsOwed$State"
  | 1 => .array .int
  | 2 => .int
  | 3 => .int
  | 4 => .int
  | 5 => .array (.object "BowsOwed$State")
  | _ => .int
theorem nmX10 : ∀ a, a < 7 → ∀ b, b < 7 → a ≠ b → (TX10 a).2.1 ≠ (TX10 b).2.1 := by decide +kernel
theorem tyX10_ok : ∀ k, k < 7 → parseFieldDescriptor (TX10 k).2.2.1 = some (tyX10 k) := by decide +kernel
abbrev cX10_init : ByteArray := prog_12_method_1_code
def yX10_init : MethodName := ⟨RX10, "<init>", "()V"⟩
abbrev cX10_copyFrom : ByteArray := prog_12_method_2_code
def yX10_copyFrom : MethodName := ⟨RX10, "copyFrom", "(LBowsOwed$Whole;)V"⟩
abbrev cX10_keepStep : ByteArray := prog_12_method_3_code
def yX10_keepStep : MethodName := ⟨RX10, "keepStep", "()V"⟩
abbrev cX10_step : ByteArray := prog_12_method_4_code
def yX10_step : MethodName := ⟨RX10, "step", "(I)LBowsOwed$State;"⟩
abbrev cX10_takeBack : ByteArray := prog_12_method_5_code
def yX10_takeBack : MethodName := ⟨RX10, "takeBack", "(LBowsOwed$People;)Z"⟩
def RX11 : String := "BowsOwed"
def TX11 : u_T := fun k => match k with
  | 0 => ("BowsOwed", "people", "LBowsOwed$People;", true)
  | 1 => ("BowsOwed", "now", "LBowsOwed$Whole;", true)
  | 2 => ("BowsOwed", "kept", "LBowsOwed$Whole;", true)
  | 3 => ("BowsOwed", "lawless", "LBowsOwed$Script;", true)
  | 4 => ("BowsOwed", "texts", "[LBowsOwed$Script;", true)
  | 5 => ("BowsOwed", "town", "LBowsOwed$Town;", true)
  | 6 => ("BowsOwed", "foreseen", "LBowsOwed$Town;", true)
  | 7 => ("BowsOwed", "tape", "LBowsOwed$Tape;", true)
  | 8 => ("BowsOwed", "reader", "LBowsOwed$Reader;", true)
  | 9 => ("BowsOwed", "errand", "LBowsOwed$Errand;", true)
  | 10 => ("BowsOwed", "reckoning", "LBowsOwed$Reckoning;", true)
  | _ => ("BowsOwed", "meetings", "LBowsOwed$Meetings;", true)
def tyX11 : Nat → FieldType := fun k => match k with
  | 0 => .object "BowsOwed$People"
  | 1 => .object "BowsOwed$Whole"
  | 2 => .object "BowsOwed$Whole"
  | 3 => .object "BowsOwed$Script"
  | 4 => .array (.object "BowsOwed$Script")
  | 5 => .object "BowsOwed$Town"
  | 6 => .object "BowsOwed$Town"
  | 7 => .object "BowsOwed$Tape"
  | 8 => .object "BowsOwed$Reader"
  | 9 => .object "BowsOwed$Errand"
  | 10 => .object "BowsOwed$Reckoning"
  | _ => .object "BowsOwed$Meetings"
theorem nmX11 : ∀ a, a < 12 → ∀ b, b < 12 → a ≠ b → (TX11 a).2.1 ≠ (TX11 b).2.1 := by decide +kernel
theorem tyX11_ok : ∀ k, k < 12 → parseFieldDescriptor (TX11 k).2.2.1 = some (tyX11 k) := by decide +kernel
abbrev cX11_init : ByteArray := prog_1_method_1_code
def yX11_init : MethodName := ⟨RX11, "<init>", "()V"⟩
abbrev cX11_person : ByteArray := prog_1_method_2_code
def yX11_person : MethodName := ⟨RX11, "person", "(III)I"⟩
abbrev cX11_bow : ByteArray := prog_1_method_3_code
def yX11_bow : MethodName := ⟨RX11, "bow", "(II)I"⟩
abbrev cX11_owe : ByteArray := prog_1_method_4_code
def yX11_owe : MethodName := ⟨RX11, "owe", "(III)Z"⟩
abbrev cX11_walk : ByteArray := prog_1_method_5_code
def yX11_walk : MethodName := ⟨RX11, "walk", "(II)I"⟩
abbrev cX11_feast : ByteArray := prog_1_method_6_code
def yX11_feast : MethodName := ⟨RX11, "feast", "()I"⟩
abbrev cX11_clear : ByteArray := prog_1_method_7_code
def yX11_clear : MethodName := ⟨RX11, "clear", "(III)I"⟩
abbrev cX11_hour : ByteArray := prog_1_method_8_code
def yX11_hour : MethodName := ⟨RX11, "hour", "(I)I"⟩
abbrev cX11_weeks : ByteArray := prog_1_method_9_code
def yX11_weeks : MethodName := ⟨RX11, "weeks", "(II)I"⟩
abbrev cX11_feed : ByteArray := prog_1_method_10_code
def yX11_feed : MethodName := ⟨RX11, "feed", "(IIIII)I"⟩
abbrev cX11_end : ByteArray := prog_1_method_11_code
def yX11_end : MethodName := ⟨RX11, "end", "(I)I"⟩
abbrev cX11_text : ByteArray := prog_1_method_12_code
def yX11_text : MethodName := ⟨RX11, "text", "()I"⟩
abbrev cX11_fault : ByteArray := prog_1_method_13_code
def yX11_fault : MethodName := ⟨RX11, "fault", "(I)I"⟩
abbrev cX11_by : ByteArray := prog_1_method_14_code
def yX11_by : MethodName := ⟨RX11, "by", "(I)Z"⟩
abbrev cX11_played : ByteArray := prog_1_method_15_code
def yX11_played : MethodName := ⟨RX11, "played", "(I)I"⟩
abbrev cX11_undo : ByteArray := prog_1_method_16_code
def yX11_undo : MethodName := ⟨RX11, "undo", "()I"⟩
abbrev cX11_of : ByteArray := prog_1_method_17_code
def yX11_of : MethodName := ⟨RX11, "of", "(II)I"⟩
abbrev cX11_two : ByteArray := prog_1_method_18_code
def yX11_two : MethodName := ⟨RX11, "two", "(III)I"⟩
abbrev cX11_more : ByteArray := prog_1_method_19_code
def yX11_more : MethodName := ⟨RX11, "more", "(III)I"⟩
abbrev cX11_book : ByteArray := prog_1_method_20_code
def yX11_book : MethodName := ⟨RX11, "book", "(II)I"⟩
abbrev cX11_foretold : ByteArray := prog_1_method_21_code
def yX11_foretold : MethodName := ⟨RX11, "foretold", "(III)I"⟩
abbrev cX11_indoors : ByteArray := prog_1_method_22_code
def yX11_indoors : MethodName := ⟨RX11, "indoors", "(II)I"⟩
abbrev cX11_first : ByteArray := prog_1_method_23_code
def yX11_first : MethodName := ⟨RX11, "first", "(I)I"⟩
abbrev cX11_whose : ByteArray := prog_1_method_24_code
def yX11_whose : MethodName := ⟨RX11, "whose", "(I)I"⟩
abbrev cX11_route : ByteArray := prog_1_method_25_code
def yX11_route : MethodName := ⟨RX11, "route", "(II)I"⟩
abbrev cX11_settled : ByteArray := prog_1_method_26_code
def yX11_settled : MethodName := ⟨RX11, "settled", "(Z)I"⟩
abbrev cX11_lane : ByteArray := prog_1_method_27_code
def yX11_lane : MethodName := ⟨RX11, "lane", "(IIIIII)I"⟩
abbrev cX11_doors : ByteArray := prog_1_method_28_code
def yX11_doors : MethodName := ⟨RX11, "doors", "(I)I"⟩
abbrev cX11_neck : ByteArray := prog_1_method_29_code
def yX11_neck : MethodName := ⟨RX11, "neck", "(II)Z"⟩
abbrev cX11_explained : ByteArray := prog_1_method_30_code
def yX11_explained : MethodName := ⟨RX11, "explained", "()I"⟩
abbrev cX11_sure : ByteArray := prog_1_method_31_code
def yX11_sure : MethodName := ⟨RX11, "sure", "(II)I"⟩
abbrev cX11_corner : ByteArray := prog_1_method_32_code
def yX11_corner : MethodName := ⟨RX11, "corner", "()I"⟩
abbrev cX11_image : ByteArray := prog_1_method_33_code
def yX11_image : MethodName := ⟨RX11, "image", "()I"⟩
abbrev cX11_back : ByteArray := prog_1_method_34_code
def yX11_back : MethodName := ⟨RX11, "back", "()I"⟩
abbrev cX11_about : ByteArray := prog_1_method_35_code
def yX11_about : MethodName := ⟨RX11, "about", "(I)I"⟩
abbrev cX11_within : ByteArray := prog_1_method_36_code
def yX11_within : MethodName := ⟨RX11, "within", "(III)Z"⟩
abbrev cX11_clamped : ByteArray := prog_1_method_37_code
def yX11_clamped : MethodName := ⟨RX11, "clamped", "(III)I"⟩
abbrev cX11_isLaw : ByteArray := prog_1_method_38_code
def yX11_isLaw : MethodName := ⟨RX11, "isLaw", "(I)Z"⟩
abbrev cX11_isText : ByteArray := prog_1_method_39_code
def yX11_isText : MethodName := ⟨RX11, "isText", "(I)Z"⟩
abbrev cX11_script : ByteArray := prog_1_method_40_code
def yX11_script : MethodName := ⟨RX11, "script", "(I)LBowsOwed$Script;"⟩
abbrev cX11_necksNow : ByteArray := prog_1_method_41_code
def yX11_necksNow : MethodName := ⟨RX11, "necksNow", "()I"⟩
abbrev cX11_foresee : ByteArray := prog_1_method_42_code
def yX11_foresee : MethodName := ⟨RX11, "foresee", "(II)I"⟩
abbrev cX11_play : ByteArray := prog_1_method_43_code
def yX11_play : MethodName := ⟨RX11, "play", "(LBowsOwed$Script;I)Z"⟩
def RX12 : String := "BowsOwedModel"
def TX12 : u_T := fun k => match k with
  | 0 => ("BowsOwedModel", "a", "[I", true)
  | 1 => ("BowsOwedModel", "image", "[I", true)
  | 2 => ("BowsOwedModel", "tape", "[B", true)
  | 3 => ("BowsOwedModel", "taped", "I", false)
  | 4 => ("BowsOwedModel", "fault", "I", false)
  | 5 => ("BowsOwedModel", "faultAt", "I", false)
  | 6 => ("BowsOwedModel", "clauses", "[I", true)
  | 7 => ("BowsOwedModel", "clauseWord", "[I", true)
  | 8 => ("BowsOwedModel", "clauseAt", "[I", true)
  | 9 => ("BowsOwedModel", "clauseOne", "[I", true)
  | 10 => ("BowsOwedModel", "clauseTwo", "[I", true)
  | 11 => ("BowsOwedModel", "clauseThree", "[I", true)
  | 12 => ("BowsOwedModel", "order", "[I", true)
  | 13 => ("BowsOwedModel", "value", "[I", true)
  | 14 => ("BowsOwedModel", "textLength", "I", false)
  | 15 => ("BowsOwedModel", "at", "I", false)
  | 16 => ("BowsOwedModel", "token", "I", false)
  | 17 => ("BowsOwedModel", "sort", "I", false)
  | 18 => ("BowsOwedModel", "tokenIs", "I", false)
  | 19 => ("BowsOwedModel", "wrong", "I", false)
  | 20 => ("BowsOwedModel", "wrongAt", "I", false)
  | 21 => ("BowsOwedModel", "open", "I", false)
  | 22 => ("BowsOwedModel", "frames", "I", false)
  | 23 => ("BowsOwedModel", "frame", "[I", true)
  | 24 => ("BowsOwedModel", "compare", "[I", true)
  | 25 => ("BowsOwedModel", "waits", "I", false)
  | 26 => ("BowsOwedModel", "wait", "[I", true)
  | 27 => ("BowsOwedModel", "waitFrame", "[I", true)
  | 28 => ("BowsOwedModel", "state", "I", false)
  | 29 => ("BowsOwedModel", "openAt", "[I", true)
  | 30 => ("BowsOwedModel", "newClauses", "I", false)
  | 31 => ("BowsOwedModel", "newKind", "I", false)
  | 32 => ("BowsOwedModel", "newWord", "[I", true)
  | 33 => ("BowsOwedModel", "newAt", "[I", true)
  | 34 => ("BowsOwedModel", "newOne", "[I", true)
  | 35 => ("BowsOwedModel", "newTwo", "[I", true)
  | 36 => ("BowsOwedModel", "newThree", "[I", true)
  | 37 => ("BowsOwedModel", "newOrders", "I", false)
  | 38 => ("BowsOwedModel", "newOrder", "[I", true)
  | 39 => ("BowsOwedModel", "newValue", "[I", true)
  | 40 => ("BowsOwedModel", "w", "[I", true)
  | 41 => ("BowsOwedModel", "name", "[I", true)
  | 42 => ("BowsOwedModel", "pile", "[J", true)
  | 43 => ("BowsOwedModel", "firstRuined", "I", false)
  | 44 => ("BowsOwedModel", "yet", "[I", true)
  | _ => ("BowsOwedModel", "best", "[I", true)
def tyX12 : Nat → FieldType := fun k => match k with
  | 0 => .array .int
  | 1 => .array .int
  | 2 => .array .byte
  | 3 => .int
  | 4 => .int
  | 5 => .int
  | 6 => .array .int
  | 7 => .array .int
  | 8 => .array .int
  | 9 => .array .int
  | 10 => .array .int
  | 11 => .array .int
  | 12 => .array .int
  | 13 => .array .int
  | 14 => .int
  | 15 => .int
  | 16 => .int
  | 17 => .int
  | 18 => .int
  | 19 => .int
  | 20 => .int
  | 21 => .int
  | 22 => .int
  | 23 => .array .int
  | 24 => .array .int
  | 25 => .int
  | 26 => .array .int
  | 27 => .array .int
  | 28 => .int
  | 29 => .array .int
  | 30 => .int
  | 31 => .int
  | 32 => .array .int
  | 33 => .array .int
  | 34 => .array .int
  | 35 => .array .int
  | 36 => .array .int
  | 37 => .int
  | 38 => .array .int
  | 39 => .array .int
  | 40 => .array .int
  | 41 => .array .int
  | 42 => .array .long
  | 43 => .int
  | 44 => .array .int
  | _ => .array .int
theorem nmX12 : ∀ a, a < 46 → ∀ b, b < 46 → a ≠ b → (TX12 a).2.1 ≠ (TX12 b).2.1 := by decide +kernel
theorem tyX12_ok : ∀ k, k < 46 → parseFieldDescriptor (TX12 k).2.2.1 = some (tyX12 k) := by decide +kernel
abbrev cX12_init : ByteArray := prog_14_method_1_code
def yX12_init : MethodName := ⟨RX12, "<init>", "()V"⟩
abbrev cX12_in : ByteArray := prog_14_method_2_code
def yX12_in : MethodName := ⟨RX12, "in", "(III)Z"⟩
abbrev cX12_has : ByteArray := prog_14_method_3_code
def yX12_has : MethodName := ⟨RX12, "has", "(II)Z"⟩
abbrev cX12_held : ByteArray := prog_14_method_4_code
def yX12_held : MethodName := ⟨RX12, "held", "(JII)I"⟩
abbrev cX12_copies : ByteArray := prog_14_method_5_code
def yX12_copies : MethodName := ⟨RX12, "copies", "(Z)V"⟩
abbrev cX12_isOne : ByteArray := prog_14_method_6_code
def yX12_isOne : MethodName := ⟨RX12, "isOne", "(I)Z"⟩
abbrev cX12_areTwo : ByteArray := prog_14_method_7_code
def yX12_areTwo : MethodName := ⟨RX12, "areTwo", "(II)Z"⟩
abbrev cX12_tells : ByteArray := prog_14_method_8_code
def yX12_tells : MethodName := ⟨RX12, "tells", "(II)V"⟩
abbrev cX12_person : ByteArray := prog_14_method_9_code
def yX12_person : MethodName := ⟨RX12, "person", "(III)I"⟩
abbrev cX12_keepsStep : ByteArray := prog_14_method_10_code
def yX12_keepsStep : MethodName := ⟨RX12, "keepsStep", "()V"⟩
abbrev cX12_undo : ByteArray := prog_14_method_11_code
def yX12_undo : MethodName := ⟨RX12, "undo", "()I"⟩
abbrev cX12_put : ByteArray := prog_14_method_12_code
def yX12_put : MethodName := ⟨RX12, "put", "(I)V"⟩
abbrev cX12_feed : ByteArray := prog_14_method_13_code
def yX12_feed : MethodName := ⟨RX12, "feed", "(IIIII)I"⟩
abbrev cX12_end : ByteArray := prog_14_method_14_code
def yX12_end : MethodName := ⟨RX12, "end", "(I)I"⟩
abbrev cX12_isLetter : ByteArray := prog_14_method_15_code
def yX12_isLetter : MethodName := ⟨RX12, "isLetter", "(I)Z"⟩
abbrev cX12_wordOf : ByteArray := prog_14_method_16_code
def yX12_wordOf : MethodName := ⟨RX12, "wordOf", "(J)I"⟩
abbrev cX12_next : ByteArray := prog_14_method_17_code
def yX12_next : MethodName := ⟨RX12, "next", "()V"⟩
abbrev cX12_isSign : ByteArray := prog_14_method_18_code
def yX12_isSign : MethodName := ⟨RX12, "isSign", "(I)Z"⟩
abbrev cX12_isWord : ByteArray := prog_14_method_19_code
def yX12_isWord : MethodName := ⟨RX12, "isWord", "(I)Z"⟩
abbrev cX12_errs : ByteArray := prog_14_method_20_code
def yX12_errs : MethodName := ⟨RX12, "errs", "(I)V"⟩
abbrev cX12_emits : ByteArray := prog_14_method_21_code
def yX12_emits : MethodName := ⟨RX12, "emits", "(II)V"⟩
abbrev cX12_opensFrame : ByteArray := prog_14_method_22_code
def yX12_opensFrame : MethodName := ⟨RX12, "opensFrame", "(I)V"⟩
abbrev cX12_top : ByteArray := prog_14_method_23_code
def yX12_top : MethodName := ⟨RX12, "top", "()I"⟩
abbrev cX12_opensSign : ByteArray := prog_14_method_24_code
def yX12_opensSign : MethodName := ⟨RX12, "opensSign", "(I)Z"⟩
abbrev cX12_rank : ByteArray := prog_14_method_25_code
def yX12_rank : MethodName := ⟨RX12, "rank", "(I)I"⟩
abbrev cX12_works : ByteArray := prog_14_method_26_code
def yX12_works : MethodName := ⟨RX12, "works", "(I)V"⟩
abbrev cX12_waitsFor : ByteArray := prog_14_method_27_code
def yX12_waitsFor : MethodName := ⟨RX12, "waitsFor", "(I)V"⟩
abbrev cX12_asks : ByteArray := prog_14_method_28_code
def yX12_asks : MethodName := ⟨RX12, "asks", "()V"⟩
abbrev cX12_mayName : ByteArray := prog_14_method_29_code
def yX12_mayName : MethodName := ⟨RX12, "mayName", "(II)Z"⟩
abbrev cX12_nameNow : ByteArray := prog_14_method_30_code
def yX12_nameNow : MethodName := ⟨RX12, "nameNow", "()I"⟩
abbrev cX12_begins : ByteArray := prog_14_method_31_code
def yX12_begins : MethodName := ⟨RX12, "begins", "()V"⟩
abbrev cX12_oneIsOver : ByteArray := prog_14_method_32_code
def yX12_oneIsOver : MethodName := ⟨RX12, "oneIsOver", "()V"⟩
abbrev cX12_bySecond : ByteArray := prog_14_method_33_code
def yX12_bySecond : MethodName := ⟨RX12, "bySecond", "()V"⟩
abbrev cX12_askIsOver : ByteArray := prog_14_method_34_code
def yX12_askIsOver : MethodName := ⟨RX12, "askIsOver", "()V"⟩
abbrev cX12_isAsking : ByteArray := prog_14_method_35_code
def yX12_isAsking : MethodName := ⟨RX12, "isAsking", "(I)Z"⟩
abbrev cX12_turnsTo : ByteArray := prog_14_method_36_code
def yX12_turnsTo : MethodName := ⟨RX12, "turnsTo", "(II)V"⟩
abbrev cX12_goesOn : ByteArray := prog_14_method_37_code
def yX12_goesOn : MethodName := ⟨RX12, "goesOn", "()V"⟩
abbrev cX12_asksOn : ByteArray := prog_14_method_38_code
def yX12_asksOn : MethodName := ⟨RX12, "asksOn", "()V"⟩
abbrev cX12_clauseIsOver : ByteArray := prog_14_method_39_code
def yX12_clauseIsOver : MethodName := ⟨RX12, "clauseIsOver", "()V"⟩
abbrev cX12_number : ByteArray := prog_14_method_40_code
def yX12_number : MethodName := ⟨RX12, "number", "(II)I"⟩
abbrev cX12_wasTold : ByteArray := prog_14_method_41_code
def yX12_wasTold : MethodName := ⟨RX12, "wasTold", "(I)Z"⟩
abbrev cX12_numberBehind : ByteArray := prog_14_method_42_code
def yX12_numberBehind : MethodName := ⟨RX12, "numberBehind", "(III)I"⟩
abbrev cX12_doing : ByteArray := prog_14_method_43_code
def yX12_doing : MethodName := ⟨RX12, "doing", "()V"⟩
abbrev cX12_clause : ByteArray := prog_14_method_44_code
def yX12_clause : MethodName := ⟨RX12, "clause", "()V"⟩
abbrev cX12_text : ByteArray := prog_14_method_45_code
def yX12_text : MethodName := ⟨RX12, "text", "()I"⟩
abbrev cX12_fault : ByteArray := prog_14_method_46_code
def yX12_fault : MethodName := ⟨RX12, "fault", "(I)I"⟩
abbrev cX12_laysNow : ByteArray := prog_14_method_47_code
def yX12_laysNow : MethodName := ⟨RX12, "laysNow", "()V"⟩
abbrev cX12_keepsNow : ByteArray := prog_14_method_48_code
def yX12_keepsNow : MethodName := ⟨RX12, "keepsNow", "()V"⟩
abbrev cX12_debtAt : ByteArray := prog_14_method_49_code
def yX12_debtAt : MethodName := ⟨RX12, "debtAt", "(II)I"⟩
abbrev cX12_bound : ByteArray := prog_14_method_50_code
def yX12_bound : MethodName := ⟨RX12, "bound", "(J)J"⟩
abbrev cX12_owedBy : ByteArray := prog_14_method_51_code
def yX12_owedBy : MethodName := ⟨RX12, "owedBy", "(JJ)J"⟩
abbrev cX12_worked : ByteArray := prog_14_method_52_code
def yX12_worked : MethodName := ⟨RX12, "worked", "(IJJ)J"⟩
abbrev cX12_saysOf : ByteArray := prog_14_method_53_code
def yX12_saysOf : MethodName := ⟨RX12, "saysOf", "(I)J"⟩
abbrev cX12_by : ByteArray := prog_14_method_54_code
def yX12_by : MethodName := ⟨RX12, "by", "(I)Z"⟩
abbrev cX12_ordersOf : ByteArray := prog_14_method_55_code
def yX12_ordersOf : MethodName := ⟨RX12, "ordersOf", "(I)I"⟩
abbrev cX12_names : ByteArray := prog_14_method_56_code
def yX12_names : MethodName := ⟨RX12, "names", "(I)V"⟩
abbrev cX12_namesOf : ByteArray := prog_14_method_57_code
def yX12_namesOf : MethodName := ⟨RX12, "namesOf", "(II)V"⟩
abbrev cX12_sizeOf : ByteArray := prog_14_method_58_code
def yX12_sizeOf : MethodName := ⟨RX12, "sizeOf", "(II)I"⟩
abbrev cX12_moreOf : ByteArray := prog_14_method_59_code
def yX12_moreOf : MethodName := ⟨RX12, "moreOf", "(III)I"⟩
abbrev cX12_lateOf : ByteArray := prog_14_method_60_code
def yX12_lateOf : MethodName := ⟨RX12, "lateOf", "(II)I"⟩
abbrev cX12_ruinOf : ByteArray := prog_14_method_61_code
def yX12_ruinOf : MethodName := ⟨RX12, "ruinOf", "(I)I"⟩
abbrev cX12_isOut : ByteArray := prog_14_method_62_code
def yX12_isOut : MethodName := ⟨RX12, "isOut", "(I)Z"⟩
abbrev cX12_doMeet : ByteArray := prog_14_method_63_code
def yX12_doMeet : MethodName := ⟨RX12, "doMeet", "(II)Z"⟩
abbrev cX12_canBow : ByteArray := prog_14_method_64_code
def yX12_canBow : MethodName := ⟨RX12, "canBow", "(II)Z"⟩
abbrev cX12_bows : ByteArray := prog_14_method_65_code
def yX12_bows : MethodName := ⟨RX12, "bows", "(II)V"⟩
abbrev cX12_walks : ByteArray := prog_14_method_66_code
def yX12_walks : MethodName := ⟨RX12, "walks", "(II)V"⟩
abbrev cX12_feasts : ByteArray := prog_14_method_67_code
def yX12_feasts : MethodName := ⟨RX12, "feasts", "()I"⟩
abbrev cX12_allOwedBy : ByteArray := prog_14_method_68_code
def yX12_allOwedBy : MethodName := ⟨RX12, "allOwedBy", "(I)I"⟩
abbrev cX12_allOwedTo : ByteArray := prog_14_method_69_code
def yX12_allOwedTo : MethodName := ⟨RX12, "allOwedTo", "(I)I"⟩
abbrev cX12_writes : ByteArray := prog_14_method_70_code
def yX12_writes : MethodName := ⟨RX12, "writes", "(II)V"⟩
abbrev cX12_canPass : ByteArray := prog_14_method_71_code
def yX12_canPass : MethodName := ⟨RX12, "canPass", "()Z"⟩
abbrev cX12_dayBegins : ByteArray := prog_14_method_72_code
def yX12_dayBegins : MethodName := ⟨RX12, "dayBegins", "()I"⟩
abbrev cX12_hourPasses : ByteArray := prog_14_method_73_code
def yX12_hourPasses : MethodName := ⟨RX12, "hourPasses", "()I"⟩
abbrev cX12_passesThrough : ByteArray := prog_14_method_74_code
def yX12_passesThrough : MethodName := ⟨RX12, "passesThrough", "(I)I"⟩
abbrev cX12_bow : ByteArray := prog_14_method_75_code
def yX12_bow : MethodName := ⟨RX12, "bow", "(II)I"⟩
abbrev cX12_owe : ByteArray := prog_14_method_76_code
def yX12_owe : MethodName := ⟨RX12, "owe", "(III)Z"⟩
abbrev cX12_walk : ByteArray := prog_14_method_77_code
def yX12_walk : MethodName := ⟨RX12, "walk", "(II)I"⟩
abbrev cX12_feast : ByteArray := prog_14_method_78_code
def yX12_feast : MethodName := ⟨RX12, "feast", "()I"⟩
abbrev cX12_clear : ByteArray := prog_14_method_79_code
def yX12_clear : MethodName := ⟨RX12, "clear", "(III)I"⟩
abbrev cX12_hour : ByteArray := prog_14_method_80_code
def yX12_hour : MethodName := ⟨RX12, "hour", "(I)I"⟩
abbrev cX12_draw : ByteArray := prog_14_method_81_code
def yX12_draw : MethodName := ⟨RX12, "draw", "(I)I"⟩
abbrev cX12_happens : ByteArray := prog_14_method_82_code
def yX12_happens : MethodName := ⟨RX12, "happens", "()V"⟩
abbrev cX12_weeks : ByteArray := prog_14_method_83_code
def yX12_weeks : MethodName := ⟨RX12, "weeks", "(II)I"⟩
abbrev cX12_hours : ByteArray := prog_14_method_84_code
def yX12_hours : MethodName := ⟨RX12, "hours", "(I)Z"⟩
abbrev cX12_played : ByteArray := prog_14_method_85_code
def yX12_played : MethodName := ⟨RX12, "played", "(I)I"⟩
abbrev cX12_of : ByteArray := prog_14_method_86_code
def yX12_of : MethodName := ⟨RX12, "of", "(II)I"⟩
abbrev cX12_two : ByteArray := prog_14_method_87_code
def yX12_two : MethodName := ⟨RX12, "two", "(III)I"⟩
abbrev cX12_more : ByteArray := prog_14_method_88_code
def yX12_more : MethodName := ⟨RX12, "more", "(III)I"⟩
abbrev cX12_book : ByteArray := prog_14_method_89_code
def yX12_book : MethodName := ⟨RX12, "book", "(II)I"⟩
abbrev cX12_foretold : ByteArray := prog_14_method_90_code
def yX12_foretold : MethodName := ⟨RX12, "foretold", "(III)I"⟩
abbrev cX12_indoors : ByteArray := prog_14_method_91_code
def yX12_indoors : MethodName := ⟨RX12, "indoors", "(II)I"⟩
abbrev cX12_first : ByteArray := prog_14_method_92_code
def yX12_first : MethodName := ⟨RX12, "first", "(I)I"⟩
abbrev cX12_whose : ByteArray := prog_14_method_93_code
def yX12_whose : MethodName := ⟨RX12, "whose", "(I)I"⟩
abbrev cX12_placesOf : ByteArray := prog_14_method_94_code
def yX12_placesOf : MethodName := ⟨RX12, "placesOf", "(IZ)I"⟩
abbrev cX12_stepTo : ByteArray := prog_14_method_95_code
def yX12_stepTo : MethodName := ⟨RX12, "stepTo", "(II)I"⟩
abbrev cX12_laysYet : ByteArray := prog_14_method_96_code
def yX12_laysYet : MethodName := ⟨RX12, "laysYet", "(II)V"⟩
abbrev cX12_route : ByteArray := prog_14_method_97_code
def yX12_route : MethodName := ⟨RX12, "route", "(II)I"⟩
abbrev cX12_settled : ByteArray := prog_14_method_98_code
def yX12_settled : MethodName := ⟨RX12, "settled", "(Z)I"⟩
abbrev cX12_lane : ByteArray := prog_14_method_99_code
def yX12_lane : MethodName := ⟨RX12, "lane", "(IIIIII)I"⟩
abbrev cX12_owedIn : ByteArray := prog_14_method_100_code
def yX12_owedIn : MethodName := ⟨RX12, "owedIn", "(II)I"⟩
abbrev cX12_doors : ByteArray := prog_14_method_101_code
def yX12_doors : MethodName := ⟨RX12, "doors", "(I)I"⟩
abbrev cX12_few : ByteArray := prog_14_method_102_code
def yX12_few : MethodName := ⟨RX12, "few", "()I"⟩
abbrev cX12_neck : ByteArray := prog_14_method_103_code
def yX12_neck : MethodName := ⟨RX12, "neck", "(II)Z"⟩
abbrev cX12_twoOf : ByteArray := prog_14_method_104_code
def yX12_twoOf : MethodName := ⟨RX12, "twoOf", "(II)I"⟩
abbrev cX12_explains : ByteArray := prog_14_method_105_code
def yX12_explains : MethodName := ⟨RX12, "explains", "(I)Z"⟩
abbrev cX12_explainedWith : ByteArray := prog_14_method_106_code
def yX12_explainedWith : MethodName := ⟨RX12, "explainedWith", "(I)I"⟩
abbrev cX12_explained : ByteArray := prog_14_method_107_code
def yX12_explained : MethodName := ⟨RX12, "explained", "()I"⟩
abbrev cX12_sure : ByteArray := prog_14_method_108_code
def yX12_sure : MethodName := ⟨RX12, "sure", "(II)I"⟩
abbrev cX12_corner : ByteArray := prog_14_method_109_code
def yX12_corner : MethodName := ⟨RX12, "corner", "()I"⟩
abbrev cX12_image : ByteArray := prog_14_method_110_code
def yX12_image : MethodName := ⟨RX12, "image", "()I"⟩
abbrev cX12_back : ByteArray := prog_14_method_111_code
def yX12_back : MethodName := ⟨RX12, "back", "()I"⟩
abbrev cX12_about : ByteArray := prog_14_method_112_code
def yX12_about : MethodName := ⟨RX12, "about", "(I)I"⟩
def RJ11 : String := "java/lang/Character"
def TJ11 : u_T := fun k => match k with
  | _ => ("", "", "", false)
def tyJ11 : Nat → FieldType := fun k => match k with
  | _ => .int
abbrev cJ11_isValidCodePoint_9a6ad : ByteArray := prog_15_method_11_code
def yJ11_isValidCodePoint_9a6ad : MethodName := ⟨RJ11, "isValidCodePoint", "(I)Z"⟩
abbrev cJ11_highSurrogate_5068e : ByteArray := prog_15_method_28_code
def yJ11_highSurrogate_5068e : MethodName := ⟨RJ11, "highSurrogate", "(I)C"⟩
abbrev cJ11_lowSurrogate_5068e : ByteArray := prog_15_method_29_code
def yJ11_lowSurrogate_5068e : MethodName := ⟨RJ11, "lowSurrogate", "(I)C"⟩
def RJ6 : String := "java/lang/Integer"
def TJ6 : u_T := fun k => match k with
  | _ => ("", "", "", false)
def tyJ6 : Nat → FieldType := fun k => match k with
  | _ => .int
abbrev cJ6_numberOfTrailingZeros_0f7a4 : ByteArray := prog_16_method_48_code
def yJ6_numberOfTrailingZeros_0f7a4 : MethodName := ⟨RJ6, "numberOfTrailingZeros", "(I)I"⟩
def RJ9 : String := "java/lang/Math"
def TJ9 : u_T := fun k => match k with
  | _ => ("", "", "", false)
def tyJ9 : Nat → FieldType := fun k => match k with
  | _ => .int
abbrev cJ9_floorMod_7cf53 : ByteArray := prog_17_method_50_code
def yJ9_floorMod_7cf53 : MethodName := ⟨RJ9, "floorMod", "(II)I"⟩
abbrev cJ9_abs_0f7a4 : ByteArray := prog_17_method_59_code
def yJ9_abs_0f7a4 : MethodName := ⟨RJ9, "abs", "(I)I"⟩
abbrev cJ9_max_7cf53 : ByteArray := prog_17_method_65_code
def yJ9_max_7cf53 : MethodName := ⟨RJ9, "max", "(II)I"⟩
abbrev cJ9_max_f86c9 : ByteArray := prog_17_method_66_code
def yJ9_max_f86c9 : MethodName := ⟨RJ9, "max", "(JJ)J"⟩
abbrev cJ9_min_7cf53 : ByteArray := prog_17_method_69_code
def yJ9_min_7cf53 : MethodName := ⟨RJ9, "min", "(II)I"⟩
abbrev cJ9_min_f86c9 : ByteArray := prog_17_method_70_code
def yJ9_min_f86c9 : MethodName := ⟨RJ9, "min", "(JJ)J"⟩
def RJ0 : String := "java/lang/String"
def TJ0 : u_T := fun k => match k with
  | _ => ("", "", "", false)
def tyJ0 : Nat → FieldType := fun k => match k with
  | _ => .int
abbrev cJ0_length_8abf5 : ByteArray := prog_18_method_54_code
def yJ0_length_8abf5 : MethodName := ⟨RJ0, "length", "()I"⟩
abbrev cJ0_charAt_5068e : ByteArray := prog_18_method_56_code
def yJ0_charAt_5068e : MethodName := ⟨RJ0, "charAt", "(I)C"⟩
abbrev cJ0_indexOf_0f7a4 : ByteArray := prog_18_method_79_code
def yJ0_indexOf_0f7a4 : MethodName := ⟨RJ0, "indexOf", "(I)I"⟩
abbrev cJ0_indexOf_7cf53 : ByteArray := prog_18_method_80_code
def yJ0_indexOf_7cf53 : MethodName := ⟨RJ0, "indexOf", "(II)I"⟩
abbrev cJ0_coder_7d493 : ByteArray := prog_18_method_152_code
def yJ0_coder_7d493 : MethodName := ⟨RJ0, "coder", "()B"⟩
abbrev cJ0_isLatin1_aae02 : ByteArray := prog_18_method_154_code
def yJ0_isLatin1_aae02 : MethodName := ⟨RJ0, "isLatin1", "()Z"⟩
abbrev cJ0_checkIndex_df160 : ByteArray := prog_18_method_155_code
def yJ0_checkIndex_df160 : MethodName := ⟨RJ0, "checkIndex", "(II)V"⟩
abbrev cJ0_checkBoundsBeginEnd_23922 : ByteArray := prog_18_method_158_code
def yJ0_checkBoundsBeginEnd_23922 : MethodName := ⟨RJ0, "checkBoundsBeginEnd", "(III)V"⟩
def RJ1 : String := "java/lang/StringLatin1"
def TJ1 : u_T := fun k => match k with
  | _ => ("", "", "", false)
def tyJ1 : Nat → FieldType := fun k => match k with
  | _ => .int
abbrev cJ1_charAt_3b067 : ByteArray := prog_19_method_2_code
def yJ1_charAt_3b067 : MethodName := ⟨RJ1, "charAt", "([BI)C"⟩
abbrev cJ1_canEncode_9a6ad : ByteArray := prog_19_method_4_code
def yJ1_canEncode_9a6ad : MethodName := ⟨RJ1, "canEncode", "(I)Z"⟩
abbrev cJ1_indexOf_4cfef : ByteArray := prog_19_method_22_code
def yJ1_indexOf_4cfef : MethodName := ⟨RJ1, "indexOf", "([BIII)I"⟩
abbrev cJ1_indexOfChar_4cfef : ByteArray := prog_19_method_23_code
def yJ1_indexOfChar_4cfef : MethodName := ⟨RJ1, "indexOfChar", "([BIII)I"⟩
def RJ2 : String := "java/lang/StringUTF16"
def TJ2 : u_T := fun k => match k with
  | _ => ("", "", "", false)
def tyJ2 : Nat → FieldType := fun k => match k with
  | _ => .int
abbrev cJ2_getChar_3b067 : ByteArray := prog_20_method_5_code
def yJ2_getChar_3b067 : MethodName := ⟨RJ2, "getChar", "([BI)C"⟩
abbrev cJ2_length_9d52b : ByteArray := prog_20_method_6_code
def yJ2_length_9d52b : MethodName := ⟨RJ2, "length", "([B)I"⟩
abbrev cJ2_indexOf_4cfef : ByteArray := prog_20_method_40_code
def yJ2_indexOf_4cfef : MethodName := ⟨RJ2, "indexOf", "([BIII)I"⟩
abbrev cJ2_indexOfChar_4cfef : ByteArray := prog_20_method_47_code
def yJ2_indexOfChar_4cfef : MethodName := ⟨RJ2, "indexOfChar", "([BIII)I"⟩
abbrev cJ2_indexOfCharUnsafe_4cfef : ByteArray := prog_20_method_48_code
def yJ2_indexOfCharUnsafe_4cfef : MethodName := ⟨RJ2, "indexOfCharUnsafe", "([BIII)I"⟩
abbrev cJ2_indexOfSupplementary_4cfef : ByteArray := prog_20_method_49_code
def yJ2_indexOfSupplementary_4cfef : MethodName := ⟨RJ2, "indexOfSupplementary", "([BIII)I"⟩
abbrev cJ2_charAt_3b067 : ByteArray := prog_20_method_83_code
def yJ2_charAt_3b067 : MethodName := ⟨RJ2, "charAt", "([BI)C"⟩
abbrev cJ2_checkIndex_2214a : ByteArray := prog_20_method_91_code
def yJ2_checkIndex_2214a : MethodName := ⟨RJ2, "checkIndex", "(I[B)V"⟩
abbrev cJ2_checkBoundsBeginEnd_d044e : ByteArray := prog_20_method_93_code
def yJ2_checkBoundsBeginEnd_d044e : MethodName := ⟨RJ2, "checkBoundsBeginEnd", "(II[B)V"⟩
def RJ10 : String := "java/lang/System"
def TJ10 : u_T := fun k => match k with
  | _ => ("", "", "", false)
def tyJ10 : Nat → FieldType := fun k => match k with
  | _ => .int
def RJ3 : String := "jdk/internal/util/Preconditions"
def TJ3 : u_T := fun k => match k with
  | _ => ("", "", "", false)
def tyJ3 : Nat → FieldType := fun k => match k with
  | _ => .int
abbrev cJ3_checkIndex_8e157 : ByteArray := prog_22_method_11_code
def yJ3_checkIndex_8e157 : MethodName := ⟨RJ3, "checkIndex", "(IILjava/util/function/BiFunction;)I"⟩
abbrev cJ3_checkFromToIndex_8c36e : ByteArray := prog_22_method_12_code
def yJ3_checkFromToIndex_8c36e : MethodName := ⟨RJ3, "checkFromToIndex", "(IIILjava/util/function/BiFunction;)I"⟩
def RL : String := "BowsOwedLaw"
abbrev cL_law : ByteArray := code
def yL_law : MethodName := ⟨RL, "law", "([I)Z"⟩
abbrev vwCl : List vw_C := [(RX0, TX0, 6), (RX1, TX1, 6), (RX2, TX2, 6), (RX3, TX3, 3), (RX4, TX4, 5), (RX5, TX5, 2), (RX6, TX6, 7), (RX7, TX7, 10), (RX8, TX8, 6), (RX9, TX9, 3), (RX10, TX10, 7), (RX11, TX11, 12), (RX12, TX12, 46)]
