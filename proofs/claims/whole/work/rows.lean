section
-- ===== PART A: goes FIRST, ahead of the names: the tables' words, and 'selects' of the private methods out of them =====
/-- a private method of a class that the tables say can be made, by its rows of tables_1 -/
def lw_okq (q : MethodName × Nat) : Prop := (q.1.cls ≠ "java/lang/invoke/MethodHandle" ∧ q.1.cls ≠ "java/lang/invoke/VarHandle") ∧ Cond.instantiable q.1.cls q.2 ∈ tables_1 ∧ Cond.privateMethod q.1 ∈ tables_1 ∧ Cond.instanceMethod q.1 ∈ tables_1
theorem lw_p0 : lw_okq (⟨"StepCalls", "isWay", "(II)Z"⟩, 11) := ⟨⟨by decide +kernel, by decide +kernel⟩, List.mem_of_getElem? (i := 19) (by decide +kernel), List.mem_of_getElem? (i := 581) (by decide +kernel), List.mem_of_getElem? (i := 582) (by decide +kernel)⟩
theorem lw_p1 : lw_okq (⟨"StepCalls", "isAct", "(I)Z"⟩, 11) := ⟨⟨by decide +kernel, by decide +kernel⟩, List.mem_of_getElem? (i := 19) (by decide +kernel), List.mem_of_getElem? (i := 589) (by decide +kernel), List.mem_of_getElem? (i := 590) (by decide +kernel)⟩
theorem lw_p2 : lw_okq (⟨"StepCalls", "followAsIs", "()V"⟩, 11) := ⟨⟨by decide +kernel, by decide +kernel⟩, List.mem_of_getElem? (i := 19) (by decide +kernel), List.mem_of_getElem? (i := 669) (by decide +kernel), List.mem_of_getElem? (i := 670) (by decide +kernel)⟩
theorem lw_p3 : lw_okq (⟨"StepCalls", "followWithHunt", "(II)V"⟩, 11) := ⟨⟨by decide +kernel, by decide +kernel⟩, List.mem_of_getElem? (i := 19) (by decide +kernel), List.mem_of_getElem? (i := 722) (by decide +kernel), List.mem_of_getElem? (i := 723) (by decide +kernel)⟩
theorem lw_p4 : lw_okq (⟨"StepCalls", "followWithSwap", "(II)V"⟩, 11) := ⟨⟨by decide +kernel, by decide +kernel⟩, List.mem_of_getElem? (i := 19) (by decide +kernel), List.mem_of_getElem? (i := 738) (by decide +kernel), List.mem_of_getElem? (i := 739) (by decide +kernel)⟩
theorem lw_p5 : lw_okq (⟨"StepCalls", "weighed", "(III)J"⟩, 11) := ⟨⟨by decide +kernel, by decide +kernel⟩, List.mem_of_getElem? (i := 19) (by decide +kernel), List.mem_of_getElem? (i := 758) (by decide +kernel), List.mem_of_getElem? (i := 759) (by decide +kernel)⟩
theorem lw_p6 : lw_okq (⟨"StepCalls", "broughtBy", "(II)I"⟩, 11) := ⟨⟨by decide +kernel, by decide +kernel⟩, List.mem_of_getElem? (i := 19) (by decide +kernel), List.mem_of_getElem? (i := 775) (by decide +kernel), List.mem_of_getElem? (i := 776) (by decide +kernel)⟩
theorem lw_p7 : lw_okq (⟨"StepCalls", "followWithDead", "(II)V"⟩, 11) := ⟨⟨by decide +kernel, by decide +kernel⟩, List.mem_of_getElem? (i := 19) (by decide +kernel), List.mem_of_getElem? (i := 809) (by decide +kernel), List.mem_of_getElem? (i := 810) (by decide +kernel)⟩
theorem lw_p8 : lw_okq (⟨"StepCalls", "clearTally", "()V"⟩, 11) := ⟨⟨by decide +kernel, by decide +kernel⟩, List.mem_of_getElem? (i := 19) (by decide +kernel), List.mem_of_getElem? (i := 817) (by decide +kernel), List.mem_of_getElem? (i := 818) (by decide +kernel)⟩
theorem lw_p9 : lw_okq (⟨"StepCalls", "tallyFates", "()V"⟩, 11) := ⟨⟨by decide +kernel, by decide +kernel⟩, List.mem_of_getElem? (i := 19) (by decide +kernel), List.mem_of_getElem? (i := 821) (by decide +kernel), List.mem_of_getElem? (i := 822) (by decide +kernel)⟩
theorem lw_p10 : lw_okq (⟨"StepCalls", "mostTallied", "(I)I"⟩, 11) := ⟨⟨by decide +kernel, by decide +kernel⟩, List.mem_of_getElem? (i := 19) (by decide +kernel), List.mem_of_getElem? (i := 825) (by decide +kernel), List.mem_of_getElem? (i := 826) (by decide +kernel)⟩
theorem lw_p11 : lw_okq (⟨"StepCalls", "isRefused", "(II)Z"⟩, 11) := ⟨⟨by decide +kernel, by decide +kernel⟩, List.mem_of_getElem? (i := 19) (by decide +kernel), List.mem_of_getElem? (i := 877) (by decide +kernel), List.mem_of_getElem? (i := 878) (by decide +kernel)⟩
theorem lw_p12 : lw_okq (⟨"StepCalls", "countImages", "()I"⟩, 11) := ⟨⟨by decide +kernel, by decide +kernel⟩, List.mem_of_getElem? (i := 19) (by decide +kernel), List.mem_of_getElem? (i := 889) (by decide +kernel), List.mem_of_getElem? (i := 890) (by decide +kernel)⟩
theorem lw_p13 : lw_okq (⟨"StepCallsModel", "firstDraft", "()V"⟩, 28) := ⟨⟨by decide +kernel, by decide +kernel⟩, List.mem_of_getElem? (i := 902) (by decide +kernel), List.mem_of_getElem? (i := 908) (by decide +kernel), List.mem_of_getElem? (i := 909) (by decide +kernel)⟩
theorem lw_p14 : lw_okq (⟨"StepCallsModel", "keepDraft", "()V"⟩, 28) := ⟨⟨by decide +kernel, by decide +kernel⟩, List.mem_of_getElem? (i := 902) (by decide +kernel), List.mem_of_getElem? (i := 912) (by decide +kernel), List.mem_of_getElem? (i := 913) (by decide +kernel)⟩
theorem lw_p15 : lw_okq (⟨"StepCallsModel", "takes", "()V"⟩, 28) := ⟨⟨by decide +kernel, by decide +kernel⟩, List.mem_of_getElem? (i := 902) (by decide +kernel), List.mem_of_getElem? (i := 1018) (by decide +kernel), List.mem_of_getElem? (i := 1019) (by decide +kernel)⟩
def lw_privs_1 : List (MethodName × Nat) := [(⟨"StepCalls", "isWay", "(II)Z"⟩, 11), (⟨"StepCalls", "isAct", "(I)Z"⟩, 11), (⟨"StepCalls", "followAsIs", "()V"⟩, 11), (⟨"StepCalls", "followWithHunt", "(II)V"⟩, 11), (⟨"StepCalls", "followWithSwap", "(II)V"⟩, 11), (⟨"StepCalls", "weighed", "(III)J"⟩, 11), (⟨"StepCalls", "broughtBy", "(II)I"⟩, 11), (⟨"StepCalls", "followWithDead", "(II)V"⟩, 11), (⟨"StepCalls", "clearTally", "()V"⟩, 11), (⟨"StepCalls", "tallyFates", "()V"⟩, 11), (⟨"StepCalls", "mostTallied", "(I)I"⟩, 11), (⟨"StepCalls", "isRefused", "(II)Z"⟩, 11), (⟨"StepCalls", "countImages", "()I"⟩, 11), (⟨"StepCallsModel", "firstDraft", "()V"⟩, 28), (⟨"StepCallsModel", "keepDraft", "()V"⟩, 28), (⟨"StepCallsModel", "takes", "()V"⟩, 28)]
theorem lw_r1 : ∀ q ∈ lw_privs_1, lw_okq q := List.forall_mem_cons.mpr ⟨lw_p0, List.forall_mem_cons.mpr ⟨lw_p1, List.forall_mem_cons.mpr ⟨lw_p2, List.forall_mem_cons.mpr ⟨lw_p3, List.forall_mem_cons.mpr ⟨lw_p4, List.forall_mem_cons.mpr ⟨lw_p5, List.forall_mem_cons.mpr ⟨lw_p6, List.forall_mem_cons.mpr ⟨lw_p7, List.forall_mem_cons.mpr ⟨lw_p8, List.forall_mem_cons.mpr ⟨lw_p9, List.forall_mem_cons.mpr ⟨lw_p10, List.forall_mem_cons.mpr ⟨lw_p11, List.forall_mem_cons.mpr ⟨lw_p12, List.forall_mem_cons.mpr ⟨lw_p13, List.forall_mem_cons.mpr ⟨lw_p14, List.forall_mem_cons.mpr ⟨lw_p15, fun _ h => absurd h List.not_mem_nil⟩⟩⟩⟩⟩⟩⟩⟩⟩⟩⟩⟩⟩⟩⟩⟩
theorem lw_p16 : lw_okq (⟨"StepCallsModel", "byteAt", "(I)I"⟩, 28) := ⟨⟨by decide +kernel, by decide +kernel⟩, List.mem_of_getElem? (i := 902) (by decide +kernel), List.mem_of_getElem? (i := 1022) (by decide +kernel), List.mem_of_getElem? (i := 1023) (by decide +kernel)⟩
theorem lw_p17 : lw_okq (⟨"StepCallsModel", "needs", "(ZI)V"⟩, 28) := ⟨⟨by decide +kernel, by decide +kernel⟩, List.mem_of_getElem? (i := 902) (by decide +kernel), List.mem_of_getElem? (i := 1030) (by decide +kernel), List.mem_of_getElem? (i := 1031) (by decide +kernel)⟩
theorem lw_p18 : lw_okq (⟨"StepCallsModel", "readLine", "()V"⟩, 28) := ⟨⟨by decide +kernel, by decide +kernel⟩, List.mem_of_getElem? (i := 902) (by decide +kernel), List.mem_of_getElem? (i := 1034) (by decide +kernel), List.mem_of_getElem? (i := 1035) (by decide +kernel)⟩
theorem lw_p19 : lw_okq (⟨"StepCallsModel", "lineNow", "()I"⟩, 28) := ⟨⟨by decide +kernel, by decide +kernel⟩, List.mem_of_getElem? (i := 902) (by decide +kernel), List.mem_of_getElem? (i := 1038) (by decide +kernel), List.mem_of_getElem? (i := 1039) (by decide +kernel)⟩
theorem lw_p20 : lw_okq (⟨"StepCallsModel", "is", "(III)Z"⟩, 28) := ⟨⟨by decide +kernel, by decide +kernel⟩, List.mem_of_getElem? (i := 902) (by decide +kernel), List.mem_of_getElem? (i := 1042) (by decide +kernel), List.mem_of_getElem? (i := 1043) (by decide +kernel)⟩
theorem lw_p21 : lw_okq (⟨"StepCallsModel", "ends", "(II)Z"⟩, 28) := ⟨⟨by decide +kernel, by decide +kernel⟩, List.mem_of_getElem? (i := 902) (by decide +kernel), List.mem_of_getElem? (i := 1046) (by decide +kernel), List.mem_of_getElem? (i := 1047) (by decide +kernel)⟩
theorem lw_p22 : lw_okq (⟨"StepCallsModel", "goesOn", "(III)Z"⟩, 28) := ⟨⟨by decide +kernel, by decide +kernel⟩, List.mem_of_getElem? (i := 902) (by decide +kernel), List.mem_of_getElem? (i := 1050) (by decide +kernel), List.mem_of_getElem? (i := 1051) (by decide +kernel)⟩
theorem lw_p23 : lw_okq (⟨"StepCallsModel", "readLineOf", "(I)V"⟩, 28) := ⟨⟨by decide +kernel, by decide +kernel⟩, List.mem_of_getElem? (i := 902) (by decide +kernel), List.mem_of_getElem? (i := 1054) (by decide +kernel), List.mem_of_getElem? (i := 1055) (by decide +kernel)⟩
theorem lw_p24 : lw_okq (⟨"StepCallsModel", "readSubscriber", "()V"⟩, 28) := ⟨⟨by decide +kernel, by decide +kernel⟩, List.mem_of_getElem? (i := 902) (by decide +kernel), List.mem_of_getElem? (i := 1058) (by decide +kernel), List.mem_of_getElem? (i := 1059) (by decide +kernel)⟩
theorem lw_p25 : lw_okq (⟨"StepCallsModel", "looked", "(II)I"⟩, 28) := ⟨⟨by decide +kernel, by decide +kernel⟩, List.mem_of_getElem? (i := 902) (by decide +kernel), List.mem_of_getElem? (i := 1062) (by decide +kernel), List.mem_of_getElem? (i := 1063) (by decide +kernel)⟩
theorem lw_p26 : lw_okq (⟨"StepCallsModel", "readWorth", "(II)I"⟩, 28) := ⟨⟨by decide +kernel, by decide +kernel⟩, List.mem_of_getElem? (i := 902) (by decide +kernel), List.mem_of_getElem? (i := 1070) (by decide +kernel), List.mem_of_getElem? (i := 1071) (by decide +kernel)⟩
theorem lw_p27 : lw_okq (⟨"StepCallsModel", "readPlan", "()V"⟩, 28) := ⟨⟨by decide +kernel, by decide +kernel⟩, List.mem_of_getElem? (i := 902) (by decide +kernel), List.mem_of_getElem? (i := 1074) (by decide +kernel), List.mem_of_getElem? (i := 1075) (by decide +kernel)⟩
theorem lw_p28 : lw_okq (⟨"StepCallsModel", "readGroup", "(I)V"⟩, 28) := ⟨⟨by decide +kernel, by decide +kernel⟩, List.mem_of_getElem? (i := 902) (by decide +kernel), List.mem_of_getElem? (i := 1081) (by decide +kernel), List.mem_of_getElem? (i := 1082) (by decide +kernel)⟩
theorem lw_p29 : lw_okq (⟨"StepCallsModel", "starts", "()V"⟩, 28) := ⟨⟨by decide +kernel, by decide +kernel⟩, List.mem_of_getElem? (i := 902) (by decide +kernel), List.mem_of_getElem? (i := 1093) (by decide +kernel), List.mem_of_getElem? (i := 1094) (by decide +kernel)⟩
theorem lw_p30 : lw_okq (⟨"StepCallsModel", "of", "(II)I"⟩, 28) := ⟨⟨by decide +kernel, by decide +kernel⟩, List.mem_of_getElem? (i := 902) (by decide +kernel), List.mem_of_getElem? (i := 1097) (by decide +kernel), List.mem_of_getElem? (i := 1098) (by decide +kernel)⟩
theorem lw_p31 : lw_okq (⟨"StepCallsModel", "callsNow", "()I"⟩, 28) := ⟨⟨by decide +kernel, by decide +kernel⟩, List.mem_of_getElem? (i := 902) (by decide +kernel), List.mem_of_getElem? (i := 1104) (by decide +kernel), List.mem_of_getElem? (i := 1105) (by decide +kernel)⟩
def lw_privs_2 : List (MethodName × Nat) := [(⟨"StepCallsModel", "byteAt", "(I)I"⟩, 28), (⟨"StepCallsModel", "needs", "(ZI)V"⟩, 28), (⟨"StepCallsModel", "readLine", "()V"⟩, 28), (⟨"StepCallsModel", "lineNow", "()I"⟩, 28), (⟨"StepCallsModel", "is", "(III)Z"⟩, 28), (⟨"StepCallsModel", "ends", "(II)Z"⟩, 28), (⟨"StepCallsModel", "goesOn", "(III)Z"⟩, 28), (⟨"StepCallsModel", "readLineOf", "(I)V"⟩, 28), (⟨"StepCallsModel", "readSubscriber", "()V"⟩, 28), (⟨"StepCallsModel", "looked", "(II)I"⟩, 28), (⟨"StepCallsModel", "readWorth", "(II)I"⟩, 28), (⟨"StepCallsModel", "readPlan", "()V"⟩, 28), (⟨"StepCallsModel", "readGroup", "(I)V"⟩, 28), (⟨"StepCallsModel", "starts", "()V"⟩, 28), (⟨"StepCallsModel", "of", "(II)I"⟩, 28), (⟨"StepCallsModel", "callsNow", "()I"⟩, 28)]
theorem lw_r2 : ∀ q ∈ lw_privs_2, lw_okq q := List.forall_mem_cons.mpr ⟨lw_p16, List.forall_mem_cons.mpr ⟨lw_p17, List.forall_mem_cons.mpr ⟨lw_p18, List.forall_mem_cons.mpr ⟨lw_p19, List.forall_mem_cons.mpr ⟨lw_p20, List.forall_mem_cons.mpr ⟨lw_p21, List.forall_mem_cons.mpr ⟨lw_p22, List.forall_mem_cons.mpr ⟨lw_p23, List.forall_mem_cons.mpr ⟨lw_p24, List.forall_mem_cons.mpr ⟨lw_p25, List.forall_mem_cons.mpr ⟨lw_p26, List.forall_mem_cons.mpr ⟨lw_p27, List.forall_mem_cons.mpr ⟨lw_p28, List.forall_mem_cons.mpr ⟨lw_p29, List.forall_mem_cons.mpr ⟨lw_p30, List.forall_mem_cons.mpr ⟨lw_p31, fun _ h => absurd h List.not_mem_nil⟩⟩⟩⟩⟩⟩⟩⟩⟩⟩⟩⟩⟩⟩⟩⟩
theorem lw_p32 : lw_okq (⟨"StepCallsModel", "allUses", "()I"⟩, 28) := ⟨⟨by decide +kernel, by decide +kernel⟩, List.mem_of_getElem? (i := 902) (by decide +kernel), List.mem_of_getElem? (i := 1108) (by decide +kernel), List.mem_of_getElem? (i := 1109) (by decide +kernel)⟩
theorem lw_p33 : lw_okq (⟨"StepCallsModel", "isOne", "(I)Z"⟩, 28) := ⟨⟨by decide +kernel, by decide +kernel⟩, List.mem_of_getElem? (i := 902) (by decide +kernel), List.mem_of_getElem? (i := 1116) (by decide +kernel), List.mem_of_getElem? (i := 1117) (by decide +kernel)⟩
theorem lw_p34 : lw_okq (⟨"StepCallsModel", "ofGroup", "(II)I"⟩, 28) := ⟨⟨by decide +kernel, by decide +kernel⟩, List.mem_of_getElem? (i := 902) (by decide +kernel), List.mem_of_getElem? (i := 1128) (by decide +kernel), List.mem_of_getElem? (i := 1129) (by decide +kernel)⟩
theorem lw_p35 : lw_okq (⟨"StepCallsModel", "held", "(I)I"⟩, 28) := ⟨⟨by decide +kernel, by decide +kernel⟩, List.mem_of_getElem? (i := 902) (by decide +kernel), List.mem_of_getElem? (i := 1132) (by decide +kernel), List.mem_of_getElem? (i := 1133) (by decide +kernel)⟩
theorem lw_p36 : lw_okq (⟨"StepCallsModel", "taken", "(I)I"⟩, 28) := ⟨⟨by decide +kernel, by decide +kernel⟩, List.mem_of_getElem? (i := 902) (by decide +kernel), List.mem_of_getElem? (i := 1136) (by decide +kernel), List.mem_of_getElem? (i := 1137) (by decide +kernel)⟩
theorem lw_p37 : lw_okq (⟨"StepCallsModel", "usesOf", "(II)I"⟩, 28) := ⟨⟨by decide +kernel, by decide +kernel⟩, List.mem_of_getElem? (i := 902) (by decide +kernel), List.mem_of_getElem? (i := 1140) (by decide +kernel), List.mem_of_getElem? (i := 1141) (by decide +kernel)⟩
theorem lw_p38 : lw_okq (⟨"StepCallsModel", "isWay", "(II)Z"⟩, 28) := ⟨⟨by decide +kernel, by decide +kernel⟩, List.mem_of_getElem? (i := 902) (by decide +kernel), List.mem_of_getElem? (i := 1148) (by decide +kernel), List.mem_of_getElem? (i := 1149) (by decide +kernel)⟩
theorem lw_p39 : lw_okq (⟨"StepCallsModel", "whoHas", "(I)I"⟩, 28) := ⟨⟨by decide +kernel, by decide +kernel⟩, List.mem_of_getElem? (i := 902) (by decide +kernel), List.mem_of_getElem? (i := 1163) (by decide +kernel), List.mem_of_getElem? (i := 1164) (by decide +kernel)⟩
theorem lw_p40 : lw_okq (⟨"StepCallsModel", "becomes", "(II)I"⟩, 28) := ⟨⟨by decide +kernel, by decide +kernel⟩, List.mem_of_getElem? (i := 902) (by decide +kernel), List.mem_of_getElem? (i := 1167) (by decide +kernel), List.mem_of_getElem? (i := 1168) (by decide +kernel)⟩
theorem lw_p41 : lw_okq (⟨"StepCallsModel", "hasWays", "(II)V"⟩, 28) := ⟨⟨by decide +kernel, by decide +kernel⟩, List.mem_of_getElem? (i := 902) (by decide +kernel), List.mem_of_getElem? (i := 1184) (by decide +kernel), List.mem_of_getElem? (i := 1185) (by decide +kernel)⟩
theorem lw_p42 : lw_okq (⟨"StepCallsModel", "becomesOfGroup", "(III)V"⟩, 28) := ⟨⟨by decide +kernel, by decide +kernel⟩, List.mem_of_getElem? (i := 902) (by decide +kernel), List.mem_of_getElem? (i := 1188) (by decide +kernel), List.mem_of_getElem? (i := 1189) (by decide +kernel)⟩
theorem lw_p43 : lw_okq (⟨"StepCallsModel", "settles", "()V"⟩, 28) := ⟨⟨by decide +kernel, by decide +kernel⟩, List.mem_of_getElem? (i := 902) (by decide +kernel), List.mem_of_getElem? (i := 1192) (by decide +kernel), List.mem_of_getElem? (i := 1193) (by decide +kernel)⟩
theorem lw_p44 : lw_okq (⟨"StepCallsModel", "dials", "(II)I"⟩, 28) := ⟨⟨by decide +kernel, by decide +kernel⟩, List.mem_of_getElem? (i := 902) (by decide +kernel), List.mem_of_getElem? (i := 1212) (by decide +kernel), List.mem_of_getElem? (i := 1213) (by decide +kernel)⟩
theorem lw_p45 : lw_okq (⟨"StepCallsModel", "connects", "(III)V"⟩, 28) := ⟨⟨by decide +kernel, by decide +kernel⟩, List.mem_of_getElem? (i := 902) (by decide +kernel), List.mem_of_getElem? (i := 1216) (by decide +kernel), List.mem_of_getElem? (i := 1217) (by decide +kernel)⟩
theorem lw_p46 : lw_okq (⟨"StepCallsModel", "becomesOf", "(III)V"⟩, 28) := ⟨⟨by decide +kernel, by decide +kernel⟩, List.mem_of_getElem? (i := 902) (by decide +kernel), List.mem_of_getElem? (i := 1220) (by decide +kernel), List.mem_of_getElem? (i := 1221) (by decide +kernel)⟩
theorem lw_p47 : lw_okq (⟨"StepCallsModel", "hangsUp", "(I)V"⟩, 28) := ⟨⟨by decide +kernel, by decide +kernel⟩, List.mem_of_getElem? (i := 902) (by decide +kernel), List.mem_of_getElem? (i := 1228) (by decide +kernel), List.mem_of_getElem? (i := 1229) (by decide +kernel)⟩
def lw_privs_3 : List (MethodName × Nat) := [(⟨"StepCallsModel", "allUses", "()I"⟩, 28), (⟨"StepCallsModel", "isOne", "(I)Z"⟩, 28), (⟨"StepCallsModel", "ofGroup", "(II)I"⟩, 28), (⟨"StepCallsModel", "held", "(I)I"⟩, 28), (⟨"StepCallsModel", "taken", "(I)I"⟩, 28), (⟨"StepCallsModel", "usesOf", "(II)I"⟩, 28), (⟨"StepCallsModel", "isWay", "(II)Z"⟩, 28), (⟨"StepCallsModel", "whoHas", "(I)I"⟩, 28), (⟨"StepCallsModel", "becomes", "(II)I"⟩, 28), (⟨"StepCallsModel", "hasWays", "(II)V"⟩, 28), (⟨"StepCallsModel", "becomesOfGroup", "(III)V"⟩, 28), (⟨"StepCallsModel", "settles", "()V"⟩, 28), (⟨"StepCallsModel", "dials", "(II)I"⟩, 28), (⟨"StepCallsModel", "connects", "(III)V"⟩, 28), (⟨"StepCallsModel", "becomesOf", "(III)V"⟩, 28), (⟨"StepCallsModel", "hangsUp", "(I)V"⟩, 28)]
theorem lw_r3 : ∀ q ∈ lw_privs_3, lw_okq q := List.forall_mem_cons.mpr ⟨lw_p32, List.forall_mem_cons.mpr ⟨lw_p33, List.forall_mem_cons.mpr ⟨lw_p34, List.forall_mem_cons.mpr ⟨lw_p35, List.forall_mem_cons.mpr ⟨lw_p36, List.forall_mem_cons.mpr ⟨lw_p37, List.forall_mem_cons.mpr ⟨lw_p38, List.forall_mem_cons.mpr ⟨lw_p39, List.forall_mem_cons.mpr ⟨lw_p40, List.forall_mem_cons.mpr ⟨lw_p41, List.forall_mem_cons.mpr ⟨lw_p42, List.forall_mem_cons.mpr ⟨lw_p43, List.forall_mem_cons.mpr ⟨lw_p44, List.forall_mem_cons.mpr ⟨lw_p45, List.forall_mem_cons.mpr ⟨lw_p46, List.forall_mem_cons.mpr ⟨lw_p47, fun _ h => absurd h List.not_mem_nil⟩⟩⟩⟩⟩⟩⟩⟩⟩⟩⟩⟩⟩⟩⟩⟩
theorem lw_p48 : lw_okq (⟨"StepCallsModel", "leaves", "(I)V"⟩, 28) := ⟨⟨by decide +kernel, by decide +kernel⟩, List.mem_of_getElem? (i := 902) (by decide +kernel), List.mem_of_getElem? (i := 1232) (by decide +kernel), List.mem_of_getElem? (i := 1233) (by decide +kernel)⟩
theorem lw_p49 : lw_okq (⟨"StepCallsModel", "planGoes", "(I)V"⟩, 28) := ⟨⟨by decide +kernel, by decide +kernel⟩, List.mem_of_getElem? (i := 902) (by decide +kernel), List.mem_of_getElem? (i := 1240) (by decide +kernel), List.mem_of_getElem? (i := 1241) (by decide +kernel)⟩
theorem lw_p50 : lw_okq (⟨"StepCallsModel", "acts", "(II)I"⟩, 28) := ⟨⟨by decide +kernel, by decide +kernel⟩, List.mem_of_getElem? (i := 902) (by decide +kernel), List.mem_of_getElem? (i := 1244) (by decide +kernel), List.mem_of_getElem? (i := 1245) (by decide +kernel)⟩
theorem lw_p51 : lw_okq (⟨"StepCallsModel", "lostMany", "()I"⟩, 28) := ⟨⟨by decide +kernel, by decide +kernel⟩, List.mem_of_getElem? (i := 902) (by decide +kernel), List.mem_of_getElem? (i := 1252) (by decide +kernel), List.mem_of_getElem? (i := 1253) (by decide +kernel)⟩
theorem lw_p52 : lw_okq (⟨"StepCallsModel", "isLostBy", "(II)Z"⟩, 28) := ⟨⟨by decide +kernel, by decide +kernel⟩, List.mem_of_getElem? (i := 902) (by decide +kernel), List.mem_of_getElem? (i := 1268) (by decide +kernel), List.mem_of_getElem? (i := 1269) (by decide +kernel)⟩
theorem lw_p53 : lw_okq (⟨"StepCallsModel", "startsJudging", "()V"⟩, 28) := ⟨⟨by decide +kernel, by decide +kernel⟩, List.mem_of_getElem? (i := 902) (by decide +kernel), List.mem_of_getElem? (i := 1280) (by decide +kernel), List.mem_of_getElem? (i := 1281) (by decide +kernel)⟩
theorem lw_p54 : lw_okq (⟨"StepCallsModel", "judges", "(II)V"⟩, 28) := ⟨⟨by decide +kernel, by decide +kernel⟩, List.mem_of_getElem? (i := 902) (by decide +kernel), List.mem_of_getElem? (i := 1284) (by decide +kernel), List.mem_of_getElem? (i := 1285) (by decide +kernel)⟩
theorem lw_p55 : lw_okq (⟨"StepCallsModel", "judged", "(I)I"⟩, 28) := ⟨⟨by decide +kernel, by decide +kernel⟩, List.mem_of_getElem? (i := 902) (by decide +kernel), List.mem_of_getElem? (i := 1288) (by decide +kernel), List.mem_of_getElem? (i := 1289) (by decide +kernel)⟩
theorem lw_p56 : lw_okq (⟨"StepCallsModel", "findOdds", "(III)V"⟩, 28) := ⟨⟨by decide +kernel, by decide +kernel⟩, List.mem_of_getElem? (i := 902) (by decide +kernel), List.mem_of_getElem? (i := 1310) (by decide +kernel), List.mem_of_getElem? (i := 1311) (by decide +kernel)⟩
theorem lw_p57 : lw_okq (⟨"StepCallsModel", "isSoWith", "(III)Z"⟩, 28) := ⟨⟨by decide +kernel, by decide +kernel⟩, List.mem_of_getElem? (i := 902) (by decide +kernel), List.mem_of_getElem? (i := 1337) (by decide +kernel), List.mem_of_getElem? (i := 1338) (by decide +kernel)⟩
theorem lw_p58 : lw_okq (⟨"StepCallsModel", "setsOf", "(I)I"⟩, 28) := ⟨⟨by decide +kernel, by decide +kernel⟩, List.mem_of_getElem? (i := 902) (by decide +kernel), List.mem_of_getElem? (i := 1345) (by decide +kernel), List.mem_of_getElem? (i := 1346) (by decide +kernel)⟩
theorem lw_p59 : lw_okq (⟨"StepCallsModel", "copies", "(II)V"⟩, 28) := ⟨⟨by decide +kernel, by decide +kernel⟩, List.mem_of_getElem? (i := 902) (by decide +kernel), List.mem_of_getElem? (i := 1363) (by decide +kernel), List.mem_of_getElem? (i := 1364) (by decide +kernel)⟩
def lw_privs_4 : List (MethodName × Nat) := [(⟨"StepCallsModel", "leaves", "(I)V"⟩, 28), (⟨"StepCallsModel", "planGoes", "(I)V"⟩, 28), (⟨"StepCallsModel", "acts", "(II)I"⟩, 28), (⟨"StepCallsModel", "lostMany", "()I"⟩, 28), (⟨"StepCallsModel", "isLostBy", "(II)Z"⟩, 28), (⟨"StepCallsModel", "startsJudging", "()V"⟩, 28), (⟨"StepCallsModel", "judges", "(II)V"⟩, 28), (⟨"StepCallsModel", "judged", "(I)I"⟩, 28), (⟨"StepCallsModel", "findOdds", "(III)V"⟩, 28), (⟨"StepCallsModel", "isSoWith", "(III)Z"⟩, 28), (⟨"StepCallsModel", "setsOf", "(I)I"⟩, 28), (⟨"StepCallsModel", "copies", "(II)V"⟩, 28)]
theorem lw_r4 : ∀ q ∈ lw_privs_4, lw_okq q := List.forall_mem_cons.mpr ⟨lw_p48, List.forall_mem_cons.mpr ⟨lw_p49, List.forall_mem_cons.mpr ⟨lw_p50, List.forall_mem_cons.mpr ⟨lw_p51, List.forall_mem_cons.mpr ⟨lw_p52, List.forall_mem_cons.mpr ⟨lw_p53, List.forall_mem_cons.mpr ⟨lw_p54, List.forall_mem_cons.mpr ⟨lw_p55, List.forall_mem_cons.mpr ⟨lw_p56, List.forall_mem_cons.mpr ⟨lw_p57, List.forall_mem_cons.mpr ⟨lw_p58, List.forall_mem_cons.mpr ⟨lw_p59, fun _ h => absurd h List.not_mem_nil⟩⟩⟩⟩⟩⟩⟩⟩⟩⟩⟩⟩
def lw_privs : List (MethodName × Nat) := lw_privs_1 ++ (lw_privs_2 ++ (lw_privs_3 ++ (lw_privs_4)))
def lw_tbl : List Cond := k2_sels lw_privs ++ tables_1
theorem lw_privs_ok : ∀ q ∈ lw_privs, lw_okq q := by
  show ∀ q ∈ lw_privs_1 ++ (lw_privs_2 ++ (lw_privs_3 ++ (lw_privs_4))), lw_okq q
  exact List.forall_mem_append.mpr ⟨lw_r1, List.forall_mem_append.mpr ⟨lw_r2, List.forall_mem_append.mpr ⟨lw_r3, lw_r4⟩⟩⟩
def RX0 : String := "StepCalls$Best"
def TX0 : u_T := fun k => match k with
  | 0 => ("StepCalls$Best", "which", "I", false)
  | _ => ("StepCalls$Best", "least", "I", false)
def tyX0 : Nat → FieldType := fun k => match k with
  | 0 => .int
  | _ => .int
theorem nmX0 : ∀ a, a < 2 → ∀ b, b < 2 → a ≠ b → (TX0 a).2.1 ≠ (TX0 b).2.1 := by decide +kernel
theorem tyX0_ok : ∀ k, k < 2 → parseFieldDescriptor (TX0 k).2.2.1 = some (tyX0 k) := by decide +kernel
abbrev cX0_init : ByteArray := prog_2_method_1_code
def yX0_init : MethodName := ⟨RX0, "<init>", "()V"⟩
abbrev cX0_begin : ByteArray := prog_2_method_2_code
def yX0_begin : MethodName := ⟨RX0, "begin", "(I)V"⟩
abbrev cX0_offer : ByteArray := prog_2_method_3_code
def yX0_offer : MethodName := ⟨RX0, "offer", "(II)V"⟩
abbrev cX0_told : ByteArray := prog_2_method_4_code
def yX0_told : MethodName := ⟨RX0, "told", "(I)I"⟩
def RX1 : String := "StepCalls$Exchange"
def TX1 : u_T := fun k => match k with
  | 0 => ("StepCalls$Exchange", "ones", "I", false)
  | 1 => ("StepCalls$Exchange", "finders", "I", false)
  | 2 => ("StepCalls$Exchange", "calls", "I", false)
  | 3 => ("StepCalls$Exchange", "numbers", "[I", true)
  | 4 => ("StepCalls$Exchange", "partners", "[I", true)
  | 5 => ("StepCalls$Exchange", "roles", "[I", true)
  | 6 => ("StepCalls$Exchange", "holds", "[I", true)
  | _ => ("StepCalls$Exchange", "groups", "[LStepCalls$Group;", true)
def tyX1 : Nat → FieldType := fun k => match k with
  | 0 => .int
  | 1 => .int
  | 2 => .int
  | 3 => .array .int
  | 4 => .array .int
  | 5 => .array .int
  | 6 => .array .int
  | _ => .array (.object "StepCalls$Group")
theorem nmX1 : ∀ a, a < 8 → ∀ b, b < 8 → a ≠ b → (TX1 a).2.1 ≠ (TX1 b).2.1 := by decide +kernel
theorem tyX1_ok : ∀ k, k < 8 → parseFieldDescriptor (TX1 k).2.2.1 = some (tyX1 k) := by decide +kernel
abbrev cX1_init : ByteArray := prog_3_method_1_code
def yX1_init : MethodName := ⟨RX1, "<init>", "()V"⟩
abbrev cX1_clear : ByteArray := prog_3_method_2_code
def yX1_clear : MethodName := ⟨RX1, "clear", "()V"⟩
abbrev cX1_copyFrom : ByteArray := prog_3_method_3_code
def yX1_copyFrom : MethodName := ⟨RX1, "copyFrom", "(LStepCalls$Exchange;)V"⟩
abbrev cX1_has : ByteArray := prog_3_method_4_code
def yX1_has : MethodName := ⟨RX1, "has", "(I)Z"⟩
abbrev cX1_addOne : ByteArray := prog_3_method_5_code
def yX1_addOne : MethodName := ⟨RX1, "addOne", "(I)V"⟩
abbrev cX1_owner : ByteArray := prog_3_method_6_code
def yX1_owner : MethodName := ⟨RX1, "owner", "(I)I"⟩
abbrev cX1_ring : ByteArray := prog_3_method_7_code
def yX1_ring : MethodName := ⟨RX1, "ring", "(II)I"⟩
abbrev cX1_join : ByteArray := prog_3_method_8_code
def yX1_join : MethodName := ⟨RX1, "join", "(III)V"⟩
abbrev cX1_part : ByteArray := prog_3_method_9_code
def yX1_part : MethodName := ⟨RX1, "part", "(I)I"⟩
abbrev cX1_release : ByteArray := prog_3_method_10_code
def yX1_release : MethodName := ⟨RX1, "release", "(I)V"⟩
abbrev cX1_inCalls : ByteArray := prog_3_method_11_code
def yX1_inCalls : MethodName := ⟨RX1, "inCalls", "()I"⟩
abbrev cX1_allUses : ByteArray := prog_3_method_12_code
def yX1_allUses : MethodName := ⟨RX1, "allUses", "()I"⟩
abbrev cX1_allWays : ByteArray := prog_3_method_13_code
def yX1_allWays : MethodName := ⟨RX1, "allWays", "()I"⟩
abbrev cX1_allDead : ByteArray := prog_3_method_14_code
def yX1_allDead : MethodName := ⟨RX1, "allDead", "()I"⟩
def RX2 : String := "StepCalls$Group"
def TX2 : u_T := fun k => match k with
  | 0 => ("StepCalls$Group", "kind", "I", false)
  | 1 => ("StepCalls$Group", "size", "I", false)
  | 2 => ("StepCalls$Group", "deadSet", "I", false)
  | 3 => ("StepCalls$Group", "heldSet", "I", false)
  | 4 => ("StepCalls$Group", "latest", "I", false)
  | _ => ("StepCalls$Group", "used", "[I", true)
def tyX2 : Nat → FieldType := fun k => match k with
  | 0 => .int
  | 1 => .int
  | 2 => .int
  | 3 => .int
  | 4 => .int
  | _ => .array .int
theorem nmX2 : ∀ a, a < 6 → ∀ b, b < 6 → a ≠ b → (TX2 a).2.1 ≠ (TX2 b).2.1 := by decide +kernel
theorem tyX2_ok : ∀ k, k < 6 → parseFieldDescriptor (TX2 k).2.2.1 = some (tyX2 k) := by decide +kernel
abbrev cX2_init : ByteArray := prog_4_method_1_code
def yX2_init : MethodName := ⟨RX2, "<init>", "()V"⟩
abbrev cX2_clear : ByteArray := prog_4_method_2_code
def yX2_clear : MethodName := ⟨RX2, "clear", "()V"⟩
abbrev cX2_copyFrom : ByteArray := prog_4_method_3_code
def yX2_copyFrom : MethodName := ⟨RX2, "copyFrom", "(LStepCalls$Group;)V"⟩
abbrev cX2_isFreeFrom : ByteArray := prog_4_method_4_code
def yX2_isFreeFrom : MethodName := ⟨RX2, "isFreeFrom", "(I)Z"⟩
abbrev cX2_resize : ByteArray := prog_4_method_5_code
def yX2_resize : MethodName := ⟨RX2, "resize", "(I)V"⟩
abbrev cX2_isDead : ByteArray := prog_4_method_6_code
def yX2_isDead : MethodName := ⟨RX2, "isDead", "(I)Z"⟩
abbrev cX2_isFree : ByteArray := prog_4_method_7_code
def yX2_isFree : MethodName := ⟨RX2, "isFree", "(I)Z"⟩
abbrev cX2_pick : ByteArray := prog_4_method_8_code
def yX2_pick : MethodName := ⟨RX2, "pick", "()I"⟩
abbrev cX2_inTurn : ByteArray := prog_4_method_9_code
def yX2_inTurn : MethodName := ⟨RX2, "inTurn", "(I)I"⟩
def RX3 : String := "StepCalls$Image"
def TX3 : u_T := fun k => match k with
  | 0 => ("StepCalls$Image", "there", "Z", false)
  | 1 => ("StepCalls$Image", "exchange", "LStepCalls$Exchange;", true)
  | _ => ("StepCalls$Image", "script", "LStepCalls$Script;", true)
def tyX3 : Nat → FieldType := fun k => match k with
  | 0 => .boolean
  | 1 => .object "StepCalls$Exchange"
  | _ => .object "StepCalls$Script"
theorem nmX3 : ∀ a, a < 3 → ∀ b, b < 3 → a ≠ b → (TX3 a).2.1 ≠ (TX3 b).2.1 := by decide +kernel
theorem tyX3_ok : ∀ k, k < 3 → parseFieldDescriptor (TX3 k).2.2.1 = some (tyX3 k) := by decide +kernel
abbrev cX3_init : ByteArray := prog_5_method_1_code
def yX3_init : MethodName := ⟨RX3, "<init>", "()V"⟩
def RX4 : String := "StepCalls$Reader"
def TX4 : u_T := fun k => match k with
  | 0 => ("StepCalls$Reader", "tape", "LStepCalls$Tape;", true)
  | 1 => ("StepCalls$Reader", "exchange", "LStepCalls$Exchange;", true)
  | 2 => ("StepCalls$Reader", "script", "LStepCalls$Script;", true)
  | 3 => ("StepCalls$Reader", "lines", "I", false)
  | 4 => ("StepCalls$Reader", "fault", "I", false)
  | 5 => ("StepCalls$Reader", "place", "I", false)
  | 6 => ("StepCalls$Reader", "findersTold", "Z", false)
  | 7 => ("StepCalls$Reader", "planTold", "Z", false)
  | _ => ("StepCalls$Reader", "groupsTold", "I", false)
def tyX4 : Nat → FieldType := fun k => match k with
  | 0 => .object "StepCalls$Tape"
  | 1 => .object "StepCalls$Exchange"
  | 2 => .object "StepCalls$Script"
  | 3 => .int
  | 4 => .int
  | 5 => .int
  | 6 => .boolean
  | 7 => .boolean
  | _ => .int
theorem nmX4 : ∀ a, a < 9 → ∀ b, b < 9 → a ≠ b → (TX4 a).2.1 ≠ (TX4 b).2.1 := by decide +kernel
theorem tyX4_ok : ∀ k, k < 9 → parseFieldDescriptor (TX4 k).2.2.1 = some (tyX4 k) := by decide +kernel
abbrev cX4_init : ByteArray := prog_6_method_1_code
def yX4_init : MethodName := ⟨RX4, "<init>", "(LStepCalls$Tape;)V"⟩
abbrev cX4_readAll : ByteArray := prog_6_method_2_code
def yX4_readAll : MethodName := ⟨RX4, "readAll", "()Z"⟩
abbrev cX4_begin : ByteArray := prog_6_method_3_code
def yX4_begin : MethodName := ⟨RX4, "begin", "()V"⟩
abbrev cX4_wrong : ByteArray := prog_6_method_4_code
def yX4_wrong : MethodName := ⟨RX4, "wrong", "(I)Z"⟩
abbrev cX4_stands : ByteArray := prog_6_method_5_code
def yX4_stands : MethodName := ⟨RX4, "stands", "(I)Z"⟩
abbrev cX4_takes : ByteArray := prog_6_method_6_code
def yX4_takes : MethodName := ⟨RX4, "takes", "(I)Z"⟩
abbrev cX4_takesNumber : ByteArray := prog_6_method_7_code
def yX4_takesNumber : MethodName := ⟨RX4, "takesNumber", "(II)Z"⟩
abbrev cX4_readLine : ByteArray := prog_6_method_8_code
def yX4_readLine : MethodName := ⟨RX4, "readLine", "()Z"⟩
abbrev cX4_readOne : ByteArray := prog_6_method_9_code
def yX4_readOne : MethodName := ⟨RX4, "readOne", "()Z"⟩
abbrev cX4_readFinders : ByteArray := prog_6_method_10_code
def yX4_readFinders : MethodName := ⟨RX4, "readFinders", "()Z"⟩
abbrev cX4_readGroup : ByteArray := prog_6_method_11_code
def yX4_readGroup : MethodName := ⟨RX4, "readGroup", "(I)Z"⟩
abbrev cX4_readPlan : ByteArray := prog_6_method_12_code
def yX4_readPlan : MethodName := ⟨RX4, "readPlan", "()Z"⟩
abbrev cX4_hasAllOnes : ByteArray := prog_6_method_13_code
def yX4_hasAllOnes : MethodName := ⟨RX4, "hasAllOnes", "()Z"⟩
def RX5 : String := "StepCalls$Script"
def TX5 : u_T := fun k => match k with
  | 0 => ("StepCalls$Script", "acts", "I", false)
  | 1 => ("StepCalls$Script", "seen", "I", false)
  | 2 => ("StepCalls$Script", "who", "[I", true)
  | 3 => ("StepCalls$Script", "dialled", "[I", true)
  | 4 => ("StepCalls$Script", "seenActs", "[I", true)
  | _ => ("StepCalls$Script", "seenFates", "[I", true)
def tyX5 : Nat → FieldType := fun k => match k with
  | 0 => .int
  | 1 => .int
  | 2 => .array .int
  | 3 => .array .int
  | 4 => .array .int
  | _ => .array .int
theorem nmX5 : ∀ a, a < 6 → ∀ b, b < 6 → a ≠ b → (TX5 a).2.1 ≠ (TX5 b).2.1 := by decide +kernel
theorem tyX5_ok : ∀ k, k < 6 → parseFieldDescriptor (TX5 k).2.2.1 = some (tyX5 k) := by decide +kernel
abbrev cX5_init : ByteArray := prog_7_method_1_code
def yX5_init : MethodName := ⟨RX5, "<init>", "()V"⟩
abbrev cX5_clear : ByteArray := prog_7_method_2_code
def yX5_clear : MethodName := ⟨RX5, "clear", "()V"⟩
abbrev cX5_copyFrom : ByteArray := prog_7_method_3_code
def yX5_copyFrom : MethodName := ⟨RX5, "copyFrom", "(LStepCalls$Script;)V"⟩
abbrev cX5_addAct : ByteArray := prog_7_method_4_code
def yX5_addAct : MethodName := ⟨RX5, "addAct", "(II)V"⟩
abbrev cX5_dials : ByteArray := prog_7_method_5_code
def yX5_dials : MethodName := ⟨RX5, "dials", "()I"⟩
def RX6 : String := "StepCalls$Sheet"
def TX6 : u_T := fun k => match k with
  | 0 => ("StepCalls$Sheet", "lane", "I", false)
  | 1 => ("StepCalls$Sheet", "length", "I", false)
  | _ => ("StepCalls$Sheet", "cells", "[I", true)
def tyX6 : Nat → FieldType := fun k => match k with
  | 0 => .int
  | 1 => .int
  | _ => .array .int
theorem nmX6 : ∀ a, a < 3 → ∀ b, b < 3 → a ≠ b → (TX6 a).2.1 ≠ (TX6 b).2.1 := by decide +kernel
theorem tyX6_ok : ∀ k, k < 3 → parseFieldDescriptor (TX6 k).2.2.1 = some (tyX6 k) := by decide +kernel
abbrev cX6_init : ByteArray := prog_8_method_1_code
def yX6_init : MethodName := ⟨RX6, "<init>", "()V"⟩
abbrev cX6_renew : ByteArray := prog_8_method_2_code
def yX6_renew : MethodName := ⟨RX6, "renew", "(II)V"⟩
abbrev cX6_has : ByteArray := prog_8_method_3_code
def yX6_has : MethodName := ⟨RX6, "has", "(J)Z"⟩
abbrev cX6_faultAs : ByteArray := prog_8_method_4_code
def yX6_faultAs : MethodName := ⟨RX6, "faultAs", "(I)I"⟩
abbrev cX6_narrowed : ByteArray := prog_8_method_5_code
def yX6_narrowed : MethodName := ⟨RX6, "narrowed", "(I)I"⟩
def RX7 : String := "StepCalls$Tape"
def TX7 : u_T := fun k => match k with
  | 0 => ("StepCalls$Tape", "bytes", "[I", true)
  | 1 => ("StepCalls$Tape", "length", "I", false)
  | 2 => ("StepCalls$Tape", "token", "I", false)
  | 3 => ("StepCalls$Tape", "place", "I", false)
  | 4 => ("StepCalls$Tape", "behind", "I", false)
  | _ => ("StepCalls$Tape", "value", "I", false)
def tyX7 : Nat → FieldType := fun k => match k with
  | 0 => .array .int
  | 1 => .int
  | 2 => .int
  | 3 => .int
  | 4 => .int
  | _ => .int
theorem nmX7 : ∀ a, a < 6 → ∀ b, b < 6 → a ≠ b → (TX7 a).2.1 ≠ (TX7 b).2.1 := by decide +kernel
theorem tyX7_ok : ∀ k, k < 6 → parseFieldDescriptor (TX7 k).2.2.1 = some (tyX7 k) := by decide +kernel
abbrev cX7_init : ByteArray := prog_9_method_1_code
def yX7_init : MethodName := ⟨RX7, "<init>", "()V"⟩
abbrev cX7_rewind : ByteArray := prog_9_method_2_code
def yX7_rewind : MethodName := ⟨RX7, "rewind", "()V"⟩
abbrev cX7_next : ByteArray := prog_9_method_3_code
def yX7_next : MethodName := ⟨RX7, "next", "()V"⟩
abbrev cX7_kindAt : ByteArray := prog_9_method_4_code
def yX7_kindAt : MethodName := ⟨RX7, "kindAt", "(I)I"⟩
abbrev cX7_measure : ByteArray := prog_9_method_5_code
def yX7_measure : MethodName := ⟨RX7, "measure", "()V"⟩
abbrev cX7_spells : ByteArray := prog_9_method_6_code
def yX7_spells : MethodName := ⟨RX7, "spells", "(Ljava/lang/String;)Z"⟩
def RX8 : String := "StepCalls$Trial"
def TX8 : u_T := fun k => match k with
  | 0 => ("StepCalls$Trial", "exchange", "LStepCalls$Exchange;", true)
  | 1 => ("StepCalls$Trial", "fates", "[I", true)
  | 2 => ("StepCalls$Trial", "connected", "I", false)
  | 3 => ("StepCalls$Trial", "lost", "I", false)
  | 4 => ("StepCalls$Trial", "firstLost", "I", false)
  | _ => ("StepCalls$Trial", "passed", "I", false)
def tyX8 : Nat → FieldType := fun k => match k with
  | 0 => .object "StepCalls$Exchange"
  | 1 => .array .int
  | 2 => .int
  | 3 => .int
  | 4 => .int
  | _ => .int
theorem nmX8 : ∀ a, a < 6 → ∀ b, b < 6 → a ≠ b → (TX8 a).2.1 ≠ (TX8 b).2.1 := by decide +kernel
theorem tyX8_ok : ∀ k, k < 6 → parseFieldDescriptor (TX8 k).2.2.1 = some (tyX8 k) := by decide +kernel
abbrev cX8_init : ByteArray := prog_10_method_1_code
def yX8_init : MethodName := ⟨RX8, "<init>", "()V"⟩
abbrev cX8_follow : ByteArray := prog_10_method_2_code
def yX8_follow : MethodName := ⟨RX8, "follow", "(LStepCalls$Script;I)V"⟩
abbrev cX8_fateOf : ByteArray := prog_10_method_3_code
def yX8_fateOf : MethodName := ⟨RX8, "fateOf", "(II)I"⟩
abbrev cX8_note : ByteArray := prog_10_method_4_code
def yX8_note : MethodName := ⟨RX8, "note", "(IZ)V"⟩
abbrev cX8_wantedWayOf : ByteArray := prog_10_method_5_code
def yX8_wantedWayOf : MethodName := ⟨RX8, "wantedWayOf", "(LStepCalls$Script;I)Z"⟩
abbrev cX8_wantedFinder : ByteArray := prog_10_method_6_code
def yX8_wantedFinder : MethodName := ⟨RX8, "wantedFinder", "(LStepCalls$Script;)Z"⟩
abbrev cX8_isAsSeen : ByteArray := prog_10_method_7_code
def yX8_isAsSeen : MethodName := ⟨RX8, "isAsSeen", "(LStepCalls$Script;)Z"⟩
def RX9 : String := "StepCalls"
def TX9 : u_T := fun k => match k with
  | 0 => ("StepCalls", "now", "LStepCalls$Exchange;", true)
  | 1 => ("StepCalls", "script", "LStepCalls$Script;", true)
  | 2 => ("StepCalls", "trial", "LStepCalls$Trial;", true)
  | 3 => ("StepCalls", "best", "LStepCalls$Best;", true)
  | 4 => ("StepCalls", "tally", "[[I", true)
  | 5 => ("StepCalls", "tape", "LStepCalls$Tape;", true)
  | 6 => ("StepCalls", "reader", "LStepCalls$Reader;", true)
  | 7 => ("StepCalls", "images", "[LStepCalls$Image;", true)
  | 8 => ("StepCalls", "sheets", "[LStepCalls$Sheet;", true)
  | 9 => ("StepCalls", "textFault", "I", false)
  | _ => ("StepCalls", "readFault", "I", false)
def tyX9 : Nat → FieldType := fun k => match k with
  | 0 => .object "StepCalls$Exchange"
  | 1 => .object "StepCalls$Script"
  | 2 => .object "StepCalls$Trial"
  | 3 => .object "StepCalls$Best"
  | 4 => .array (.array .int)
  | 5 => .object "StepCalls$Tape"
  | 6 => .object "StepCalls$Reader"
  | 7 => .array (.object "StepCalls$Image")
  | 8 => .array (.object "StepCalls$Sheet")
  | 9 => .int
  | _ => .int
theorem nmX9 : ∀ a, a < 11 → ∀ b, b < 11 → a ≠ b → (TX9 a).2.1 ≠ (TX9 b).2.1 := by decide +kernel
theorem tyX9_ok : ∀ k, k < 11 → parseFieldDescriptor (TX9 k).2.2.1 = some (tyX9 k) := by decide +kernel
abbrev cX9_init : ByteArray := prog_1_method_1_code
def yX9_init : MethodName := ⟨RX9, "<init>", "()V"⟩
abbrev cX9_feed : ByteArray := prog_1_method_2_code
def yX9_feed : MethodName := ⟨RX9, "feed", "(I)I"⟩
abbrev cX9_end : ByteArray := prog_1_method_3_code
def yX9_end : MethodName := ⟨RX9, "end", "(I)I"⟩
abbrev cX9_text : ByteArray := prog_1_method_4_code
def yX9_text : MethodName := ⟨RX9, "text", "()I"⟩
abbrev cX9_fault : ByteArray := prog_1_method_5_code
def yX9_fault : MethodName := ⟨RX9, "fault", "()I"⟩
abbrev cX9_rule : ByteArray := prog_1_method_6_code
def yX9_rule : MethodName := ⟨RX9, "rule", "(I)I"⟩
abbrev cX9_one : ByteArray := prog_1_method_7_code
def yX9_one : MethodName := ⟨RX9, "one", "(II)I"⟩
abbrev cX9_group : ByteArray := prog_1_method_8_code
def yX9_group : MethodName := ⟨RX9, "group", "(II)I"⟩
abbrev cX9_uses : ByteArray := prog_1_method_9_code
def yX9_uses : MethodName := ⟨RX9, "uses", "(II)I"⟩
abbrev cX9_act : ByteArray := prog_1_method_10_code
def yX9_act : MethodName := ⟨RX9, "act", "(II)I"⟩
abbrev cX9_number : ByteArray := prog_1_method_11_code
def yX9_number : MethodName := ⟨RX9, "number", "(II)I"⟩
abbrev cX9_finders : ByteArray := prog_1_method_12_code
def yX9_finders : MethodName := ⟨RX9, "finders", "(I)I"⟩
abbrev cX9_hunt : ByteArray := prog_1_method_13_code
def yX9_hunt : MethodName := ⟨RX9, "hunt", "(II)I"⟩
abbrev cX9_ways : ByteArray := prog_1_method_14_code
def yX9_ways : MethodName := ⟨RX9, "ways", "(II)I"⟩
abbrev cX9_dead : ByteArray := prog_1_method_15_code
def yX9_dead : MethodName := ⟨RX9, "dead", "(IIZ)I"⟩
abbrev cX9_plan : ByteArray := prog_1_method_16_code
def yX9_plan : MethodName := ⟨RX9, "plan", "(II)I"⟩
abbrev cX9_cut : ByteArray := prog_1_method_17_code
def yX9_cut : MethodName := ⟨RX9, "cut", "(I)I"⟩
abbrev cX9_dial : ByteArray := prog_1_method_18_code
def yX9_dial : MethodName := ⟨RX9, "dial", "(II)I"⟩
abbrev cX9_hang : ByteArray := prog_1_method_19_code
def yX9_hang : MethodName := ⟨RX9, "hang", "(I)I"⟩
abbrev cX9_runs : ByteArray := prog_1_method_20_code
def yX9_runs : MethodName := ⟨RX9, "runs", "(I)I"⟩
abbrev cX9_fate : ByteArray := prog_1_method_21_code
def yX9_fate : MethodName := ⟨RX9, "fate", "(I)I"⟩
abbrev cX9_ahead : ByteArray := prog_1_method_22_code
def yX9_ahead : MethodName := ⟨RX9, "ahead", "(I)I"⟩
abbrev cX9_need : ByteArray := prog_1_method_23_code
def yX9_need : MethodName := ⟨RX9, "need", "(I)I"⟩
abbrev cX9_few : ByteArray := prog_1_method_24_code
def yX9_few : MethodName := ⟨RX9, "few", "()I"⟩
abbrev cX9_grade : ByteArray := prog_1_method_25_code
def yX9_grade : MethodName := ⟨RX9, "grade", "(II)I"⟩
abbrev cX9_swap : ByteArray := prog_1_method_26_code
def yX9_swap : MethodName := ⟨RX9, "swap", "(I)I"⟩
abbrev cX9_leave : ByteArray := prog_1_method_27_code
def yX9_leave : MethodName := ⟨RX9, "leave", "(I)I"⟩
abbrev cX9_more : ByteArray := prog_1_method_28_code
def yX9_more : MethodName := ⟨RX9, "more", "(I)I"⟩
abbrev cX9_luck : ByteArray := prog_1_method_29_code
def yX9_luck : MethodName := ⟨RX9, "luck", "(IIII)J"⟩
abbrev cX9_mean : ByteArray := prog_1_method_30_code
def yX9_mean : MethodName := ⟨RX9, "mean", "(II)J"⟩
abbrev cX9_see : ByteArray := prog_1_method_31_code
def yX9_see : MethodName := ⟨RX9, "see", "(II)I"⟩
abbrev cX9_forget : ByteArray := prog_1_method_32_code
def yX9_forget : MethodName := ⟨RX9, "forget", "(I)I"⟩
abbrev cX9_hunts : ByteArray := prog_1_method_33_code
def yX9_hunts : MethodName := ⟨RX9, "hunts", "(I)I"⟩
abbrev cX9_deads : ByteArray := prog_1_method_34_code
def yX9_deads : MethodName := ⟨RX9, "deads", "(I)I"⟩
abbrev cX9_ask : ByteArray := prog_1_method_35_code
def yX9_ask : MethodName := ⟨RX9, "ask", "(II)I"⟩
abbrev cX9_drift : ByteArray := prog_1_method_36_code
def yX9_drift : MethodName := ⟨RX9, "drift", "(III)I"⟩
abbrev cX9_keep : ByteArray := prog_1_method_37_code
def yX9_keep : MethodName := ⟨RX9, "keep", "(I)I"⟩
abbrev cX9_back : ByteArray := prog_1_method_38_code
def yX9_back : MethodName := ⟨RX9, "back", "(I)I"⟩
abbrev cX9_sheet : ByteArray := prog_1_method_39_code
def yX9_sheet : MethodName := ⟨RX9, "sheet", "(III)I"⟩
abbrev cX9_lay : ByteArray := prog_1_method_40_code
def yX9_lay : MethodName := ⟨RX9, "lay", "(III)I"⟩
abbrev cX9_read : ByteArray := prog_1_method_41_code
def yX9_read : MethodName := ⟨RX9, "read", "(IIII)I"⟩
abbrev cX9_torn : ByteArray := prog_1_method_42_code
def yX9_torn : MethodName := ⟨RX9, "torn", "()I"⟩
abbrev cX9_count : ByteArray := prog_1_method_43_code
def yX9_count : MethodName := ⟨RX9, "count", "(I)I"⟩
abbrev cX9_isNumber : ByteArray := prog_1_method_44_code
def yX9_isNumber : MethodName := ⟨RX9, "isNumber", "(I)Z"⟩
abbrev cX9_isDialled : ByteArray := prog_1_method_45_code
def yX9_isDialled : MethodName := ⟨RX9, "isDialled", "(I)Z"⟩
abbrev cX9_isGroup : ByteArray := prog_1_method_46_code
def yX9_isGroup : MethodName := ⟨RX9, "isGroup", "(I)Z"⟩
abbrev cX9_isWay : ByteArray := prog_1_method_47_code
def yX9_isWay : MethodName := ⟨RX9, "isWay", "(II)Z"⟩
abbrev cX9_isAct : ByteArray := prog_1_method_48_code
def yX9_isAct : MethodName := ⟨RX9, "isAct", "(I)Z"⟩
abbrev cX9_isBit : ByteArray := prog_1_method_49_code
def yX9_isBit : MethodName := ⟨RX9, "isBit", "(I)Z"⟩
abbrev cX9_isOdds : ByteArray := prog_1_method_50_code
def yX9_isOdds : MethodName := ⟨RX9, "isOdds", "(I)Z"⟩
abbrev cX9_isSheet : ByteArray := prog_1_method_51_code
def yX9_isSheet : MethodName := ⟨RX9, "isSheet", "(I)Z"⟩
abbrev cX9_isLane : ByteArray := prog_1_method_52_code
def yX9_isLane : MethodName := ⟨RX9, "isLane", "(I)Z"⟩
abbrev cX9_dialIn : ByteArray := prog_1_method_53_code
def yX9_dialIn : MethodName := ⟨RX9, "dialIn", "(LStepCalls$Exchange;II)I"⟩
abbrev cX9_hangIn : ByteArray := prog_1_method_54_code
def yX9_hangIn : MethodName := ⟨RX9, "hangIn", "(LStepCalls$Exchange;I)I"⟩
abbrev cX9_isRefused : ByteArray := prog_1_method_55_code
def yX9_isRefused : MethodName := ⟨RX9, "isRefused", "(II)Z"⟩
abbrev cX9_followAsIs : ByteArray := prog_1_method_56_code
def yX9_followAsIs : MethodName := ⟨RX9, "followAsIs", "()V"⟩
abbrev cX9_followWithHunt : ByteArray := prog_1_method_57_code
def yX9_followWithHunt : MethodName := ⟨RX9, "followWithHunt", "(II)V"⟩
abbrev cX9_followWithDead : ByteArray := prog_1_method_58_code
def yX9_followWithDead : MethodName := ⟨RX9, "followWithDead", "(II)V"⟩
abbrev cX9_followWithSwap : ByteArray := prog_1_method_59_code
def yX9_followWithSwap : MethodName := ⟨RX9, "followWithSwap", "(II)V"⟩
abbrev cX9_clearTally : ByteArray := prog_1_method_60_code
def yX9_clearTally : MethodName := ⟨RX9, "clearTally", "()V"⟩
abbrev cX9_tallyFates : ByteArray := prog_1_method_61_code
def yX9_tallyFates : MethodName := ⟨RX9, "tallyFates", "()V"⟩
abbrev cX9_mostTallied : ByteArray := prog_1_method_62_code
def yX9_mostTallied : MethodName := ⟨RX9, "mostTallied", "(I)I"⟩
abbrev cX9_weighed : ByteArray := prog_1_method_63_code
def yX9_weighed : MethodName := ⟨RX9, "weighed", "(III)J"⟩
abbrev cX9_broughtBy : ByteArray := prog_1_method_64_code
def yX9_broughtBy : MethodName := ⟨RX9, "broughtBy", "(II)I"⟩
abbrev cX9_power : ByteArray := prog_1_method_65_code
def yX9_power : MethodName := ⟨RX9, "power", "(II)J"⟩
abbrev cX9_fraction : ByteArray := prog_1_method_66_code
def yX9_fraction : MethodName := ⟨RX9, "fraction", "(JJI)J"⟩
abbrev cX9_divisor : ByteArray := prog_1_method_67_code
def yX9_divisor : MethodName := ⟨RX9, "divisor", "(JJ)J"⟩
abbrev cX9_countImages : ByteArray := prog_1_method_68_code
def yX9_countImages : MethodName := ⟨RX9, "countImages", "()I"⟩
def RX10 : String := "StepCallsModel"
def TX10 : u_T := fun k => match k with
  | 0 => ("StepCallsModel", "st", "[I", true)
  | 1 => ("StepCallsModel", "now", "[I", true)
  | 2 => ("StepCallsModel", "isKept", "[Z", true)
  | 3 => ("StepCallsModel", "draft", "[I", true)
  | 4 => ("StepCallsModel", "hasFinders", "Z", false)
  | 5 => ("StepCallsModel", "hasPlan", "Z", false)
  | 6 => ("StepCallsModel", "toldGroups", "I", false)
  | 7 => ("StepCallsModel", "highest", "I", false)
  | 8 => ("StepCallsModel", "tape", "[I", true)
  | 9 => ("StepCallsModel", "taped", "I", false)
  | 10 => ("StepCallsModel", "pos", "I", false)
  | 11 => ("StepCallsModel", "begun", "I", false)
  | 12 => ("StepCallsModel", "sort", "I", false)
  | 13 => ("StepCallsModel", "value", "I", false)
  | 14 => ("StepCallsModel", "fault", "I", false)
  | 15 => ("StepCallsModel", "wrongAt", "I", false)
  | 16 => ("StepCallsModel", "fates", "[I", true)
  | 17 => ("StepCallsModel", "bestCode", "I", false)
  | 18 => ("StepCallsModel", "fewestLost", "I", false)
  | 19 => ("StepCallsModel", "mateSum", "J", false)
  | 20 => ("StepCallsModel", "lostSum", "J", false)
  | 21 => ("StepCallsModel", "allWays", "J", false)
  | 22 => ("StepCallsModel", "byFate", "[I", true)
  | 23 => ("StepCallsModel", "lanes", "[I", true)
  | 24 => ("StepCallsModel", "sizes", "[I", true)
  | 25 => ("StepCallsModel", "cells", "[I", true)
  | 26 => ("StepCallsModel", "torn", "I", false)
  | _ => ("StepCallsModel", "before", "[I", true)
def tyX10 : Nat → FieldType := fun k => match k with
  | 0 => .array .int
  | 1 => .array .int
  | 2 => .array .boolean
  | 3 => .array .int
  | 4 => .boolean
  | 5 => .boolean
  | 6 => .int
  | 7 => .int
  | 8 => .array .int
  | 9 => .int
  | 10 => .int
  | 11 => .int
  | 12 => .int
  | 13 => .int
  | 14 => .int
  | 15 => .int
  | 16 => .array .int
  | 17 => .int
  | 18 => .int
  | 19 => .long
  | 20 => .long
  | 21 => .long
  | 22 => .array .int
  | 23 => .array .int
  | 24 => .array .int
  | 25 => .array .int
  | 26 => .int
  | _ => .array .int
theorem nmX10 : ∀ a, a < 28 → ∀ b, b < 28 → a ≠ b → (TX10 a).2.1 ≠ (TX10 b).2.1 := by decide +kernel
theorem tyX10_ok : ∀ k, k < 28 → parseFieldDescriptor (TX10 k).2.2.1 = some (tyX10 k) := by decide +kernel
abbrev cX10_init : ByteArray := prog_12_method_1_code
def yX10_init : MethodName := ⟨RX10, "<init>", "()V"⟩
abbrev cX10_in : ByteArray := prog_12_method_3_code
def yX10_in : MethodName := ⟨RX10, "in", "(JJJ)Z"⟩
abbrev cX10_flag : ByteArray := prog_12_method_4_code
def yX10_flag : MethodName := ⟨RX10, "flag", "(Z)I"⟩
abbrev cX10_isNumber : ByteArray := prog_12_method_5_code
def yX10_isNumber : MethodName := ⟨RX10, "isNumber", "(I)Z"⟩
abbrev cX10_isDialled : ByteArray := prog_12_method_6_code
def yX10_isDialled : MethodName := ⟨RX10, "isDialled", "(I)Z"⟩
abbrev cX10_firstDraft : ByteArray := prog_12_method_7_code
def yX10_firstDraft : MethodName := ⟨RX10, "firstDraft", "()V"⟩
abbrev cX10_keepDraft : ByteArray := prog_12_method_8_code
def yX10_keepDraft : MethodName := ⟨RX10, "keepDraft", "()V"⟩
abbrev cX10_feed : ByteArray := prog_12_method_9_code
def yX10_feed : MethodName := ⟨RX10, "feed", "(I)I"⟩
abbrev cX10_end : ByteArray := prog_12_method_10_code
def yX10_end : MethodName := ⟨RX10, "end", "(I)I"⟩
abbrev cX10_needs : ByteArray := prog_12_method_11_code
def yX10_needs : MethodName := ⟨RX10, "needs", "(ZI)V"⟩
abbrev cX10_byteAt : ByteArray := prog_12_method_12_code
def yX10_byteAt : MethodName := ⟨RX10, "byteAt", "(I)I"⟩
abbrev cX10_is : ByteArray := prog_12_method_13_code
def yX10_is : MethodName := ⟨RX10, "is", "(III)Z"⟩
abbrev cX10_ends : ByteArray := prog_12_method_14_code
def yX10_ends : MethodName := ⟨RX10, "ends", "(II)Z"⟩
abbrev cX10_goesOn : ByteArray := prog_12_method_15_code
def yX10_goesOn : MethodName := ⟨RX10, "goesOn", "(III)Z"⟩
abbrev cX10_lineNow : ByteArray := prog_12_method_16_code
def yX10_lineNow : MethodName := ⟨RX10, "lineNow", "()I"⟩
abbrev cX10_takes : ByteArray := prog_12_method_17_code
def yX10_takes : MethodName := ⟨RX10, "takes", "()V"⟩
abbrev cX10_looked : ByteArray := prog_12_method_18_code
def yX10_looked : MethodName := ⟨RX10, "looked", "(II)I"⟩
abbrev cX10_readWorth : ByteArray := prog_12_method_19_code
def yX10_readWorth : MethodName := ⟨RX10, "readWorth", "(II)I"⟩
abbrev cX10_readSubscriber : ByteArray := prog_12_method_20_code
def yX10_readSubscriber : MethodName := ⟨RX10, "readSubscriber", "()V"⟩
abbrev cX10_readGroup : ByteArray := prog_12_method_21_code
def yX10_readGroup : MethodName := ⟨RX10, "readGroup", "(I)V"⟩
abbrev cX10_readPlan : ByteArray := prog_12_method_22_code
def yX10_readPlan : MethodName := ⟨RX10, "readPlan", "()V"⟩
abbrev cX10_readLineOf : ByteArray := prog_12_method_23_code
def yX10_readLineOf : MethodName := ⟨RX10, "readLineOf", "(I)V"⟩
abbrev cX10_readLine : ByteArray := prog_12_method_24_code
def yX10_readLine : MethodName := ⟨RX10, "readLine", "()V"⟩
abbrev cX10_text : ByteArray := prog_12_method_25_code
def yX10_text : MethodName := ⟨RX10, "text", "()I"⟩
abbrev cX10_fault : ByteArray := prog_12_method_26_code
def yX10_fault : MethodName := ⟨RX10, "fault", "()I"⟩
abbrev cX10_isOne : ByteArray := prog_12_method_27_code
def yX10_isOne : MethodName := ⟨RX10, "isOne", "(I)Z"⟩
abbrev cX10_isGroup : ByteArray := prog_12_method_28_code
def yX10_isGroup : MethodName := ⟨RX10, "isGroup", "(I)Z"⟩
abbrev cX10_isPart : ByteArray := prog_12_method_29_code
def yX10_isPart : MethodName := ⟨RX10, "isPart", "(I)Z"⟩
abbrev cX10_starts : ByteArray := prog_12_method_30_code
def yX10_starts : MethodName := ⟨RX10, "starts", "()V"⟩
abbrev cX10_settles : ByteArray := prog_12_method_31_code
def yX10_settles : MethodName := ⟨RX10, "settles", "()V"⟩
abbrev cX10_of : ByteArray := prog_12_method_32_code
def yX10_of : MethodName := ⟨RX10, "of", "(II)I"⟩
abbrev cX10_becomesOf : ByteArray := prog_12_method_33_code
def yX10_becomesOf : MethodName := ⟨RX10, "becomesOf", "(III)V"⟩
abbrev cX10_ofGroup : ByteArray := prog_12_method_34_code
def yX10_ofGroup : MethodName := ⟨RX10, "ofGroup", "(II)I"⟩
abbrev cX10_becomesOfGroup : ByteArray := prog_12_method_35_code
def yX10_becomesOfGroup : MethodName := ⟨RX10, "becomesOfGroup", "(III)V"⟩
abbrev cX10_usesOf : ByteArray := prog_12_method_36_code
def yX10_usesOf : MethodName := ⟨RX10, "usesOf", "(II)I"⟩
abbrev cX10_callsNow : ByteArray := prog_12_method_37_code
def yX10_callsNow : MethodName := ⟨RX10, "callsNow", "()I"⟩
abbrev cX10_held : ByteArray := prog_12_method_38_code
def yX10_held : MethodName := ⟨RX10, "held", "(I)I"⟩
abbrev cX10_taken : ByteArray := prog_12_method_39_code
def yX10_taken : MethodName := ⟨RX10, "taken", "(I)I"⟩
abbrev cX10_whoHas : ByteArray := prog_12_method_40_code
def yX10_whoHas : MethodName := ⟨RX10, "whoHas", "(I)I"⟩
abbrev cX10_connects : ByteArray := prog_12_method_41_code
def yX10_connects : MethodName := ⟨RX10, "connects", "(III)V"⟩
abbrev cX10_dials : ByteArray := prog_12_method_42_code
def yX10_dials : MethodName := ⟨RX10, "dials", "(II)I"⟩
abbrev cX10_leaves : ByteArray := prog_12_method_43_code
def yX10_leaves : MethodName := ⟨RX10, "leaves", "(I)V"⟩
abbrev cX10_hangsUp : ByteArray := prog_12_method_44_code
def yX10_hangsUp : MethodName := ⟨RX10, "hangsUp", "(I)V"⟩
abbrev cX10_acts : ByteArray := prog_12_method_45_code
def yX10_acts : MethodName := ⟨RX10, "acts", "(II)I"⟩
abbrev cX10_planGoes : ByteArray := prog_12_method_46_code
def yX10_planGoes : MethodName := ⟨RX10, "planGoes", "(I)V"⟩
abbrev cX10_isLost : ByteArray := prog_12_method_47_code
def yX10_isLost : MethodName := ⟨RX10, "isLost", "(I)Z"⟩
abbrev cX10_lostMany : ByteArray := prog_12_method_48_code
def yX10_lostMany : MethodName := ⟨RX10, "lostMany", "()I"⟩
abbrev cX10_allUses : ByteArray := prog_12_method_49_code
def yX10_allUses : MethodName := ⟨RX10, "allUses", "()I"⟩
abbrev cX10_rule : ByteArray := prog_12_method_50_code
def yX10_rule : MethodName := ⟨RX10, "rule", "(I)I"⟩
abbrev cX10_one : ByteArray := prog_12_method_51_code
def yX10_one : MethodName := ⟨RX10, "one", "(II)I"⟩
abbrev cX10_group : ByteArray := prog_12_method_52_code
def yX10_group : MethodName := ⟨RX10, "group", "(II)I"⟩
abbrev cX10_isWay : ByteArray := prog_12_method_53_code
def yX10_isWay : MethodName := ⟨RX10, "isWay", "(II)Z"⟩
abbrev cX10_uses : ByteArray := prog_12_method_54_code
def yX10_uses : MethodName := ⟨RX10, "uses", "(II)I"⟩
abbrev cX10_act : ByteArray := prog_12_method_55_code
def yX10_act : MethodName := ⟨RX10, "act", "(II)I"⟩
abbrev cX10_becomes : ByteArray := prog_12_method_56_code
def yX10_becomes : MethodName := ⟨RX10, "becomes", "(II)I"⟩
abbrev cX10_number : ByteArray := prog_12_method_57_code
def yX10_number : MethodName := ⟨RX10, "number", "(II)I"⟩
abbrev cX10_finders : ByteArray := prog_12_method_58_code
def yX10_finders : MethodName := ⟨RX10, "finders", "(I)I"⟩
abbrev cX10_hunt : ByteArray := prog_12_method_59_code
def yX10_hunt : MethodName := ⟨RX10, "hunt", "(II)I"⟩
abbrev cX10_hasWays : ByteArray := prog_12_method_60_code
def yX10_hasWays : MethodName := ⟨RX10, "hasWays", "(II)V"⟩
abbrev cX10_ways : ByteArray := prog_12_method_61_code
def yX10_ways : MethodName := ⟨RX10, "ways", "(II)I"⟩
abbrev cX10_dead : ByteArray := prog_12_method_62_code
def yX10_dead : MethodName := ⟨RX10, "dead", "(IIZ)I"⟩
abbrev cX10_plan : ByteArray := prog_12_method_63_code
def yX10_plan : MethodName := ⟨RX10, "plan", "(II)I"⟩
abbrev cX10_cut : ByteArray := prog_12_method_64_code
def yX10_cut : MethodName := ⟨RX10, "cut", "(I)I"⟩
abbrev cX10_dial : ByteArray := prog_12_method_65_code
def yX10_dial : MethodName := ⟨RX10, "dial", "(II)I"⟩
abbrev cX10_hang : ByteArray := prog_12_method_66_code
def yX10_hang : MethodName := ⟨RX10, "hang", "(I)I"⟩
abbrev cX10_runs : ByteArray := prog_12_method_67_code
def yX10_runs : MethodName := ⟨RX10, "runs", "(I)I"⟩
abbrev cX10_fate : ByteArray := prog_12_method_68_code
def yX10_fate : MethodName := ⟨RX10, "fate", "(I)I"⟩
abbrev cX10_ahead : ByteArray := prog_12_method_69_code
def yX10_ahead : MethodName := ⟨RX10, "ahead", "(I)I"⟩
abbrev cX10_isLostBy : ByteArray := prog_12_method_70_code
def yX10_isLostBy : MethodName := ⟨RX10, "isLostBy", "(II)Z"⟩
abbrev cX10_need : ByteArray := prog_12_method_71_code
def yX10_need : MethodName := ⟨RX10, "need", "(I)I"⟩
abbrev cX10_few : ByteArray := prog_12_method_72_code
def yX10_few : MethodName := ⟨RX10, "few", "()I"⟩
abbrev cX10_startsJudging : ByteArray := prog_12_method_73_code
def yX10_startsJudging : MethodName := ⟨RX10, "startsJudging", "()V"⟩
abbrev cX10_judges : ByteArray := prog_12_method_74_code
def yX10_judges : MethodName := ⟨RX10, "judges", "(II)V"⟩
abbrev cX10_judged : ByteArray := prog_12_method_75_code
def yX10_judged : MethodName := ⟨RX10, "judged", "(I)I"⟩
abbrev cX10_grade : ByteArray := prog_12_method_76_code
def yX10_grade : MethodName := ⟨RX10, "grade", "(II)I"⟩
abbrev cX10_swap : ByteArray := prog_12_method_77_code
def yX10_swap : MethodName := ⟨RX10, "swap", "(I)I"⟩
abbrev cX10_leave : ByteArray := prog_12_method_78_code
def yX10_leave : MethodName := ⟨RX10, "leave", "(I)I"⟩
abbrev cX10_more : ByteArray := prog_12_method_79_code
def yX10_more : MethodName := ⟨RX10, "more", "(I)I"⟩
abbrev cX10_common : ByteArray := prog_12_method_80_code
def yX10_common : MethodName := ⟨RX10, "common", "(JJ)J"⟩
abbrev cX10_told : ByteArray := prog_12_method_81_code
def yX10_told : MethodName := ⟨RX10, "told", "(JJI)J"⟩
abbrev cX10_findOdds : ByteArray := prog_12_method_82_code
def yX10_findOdds : MethodName := ⟨RX10, "findOdds", "(III)V"⟩
abbrev cX10_luck : ByteArray := prog_12_method_83_code
def yX10_luck : MethodName := ⟨RX10, "luck", "(IIII)J"⟩
abbrev cX10_mean : ByteArray := prog_12_method_84_code
def yX10_mean : MethodName := ⟨RX10, "mean", "(II)J"⟩
abbrev cX10_see : ByteArray := prog_12_method_85_code
def yX10_see : MethodName := ⟨RX10, "see", "(II)I"⟩
abbrev cX10_forget : ByteArray := prog_12_method_86_code
def yX10_forget : MethodName := ⟨RX10, "forget", "(I)I"⟩
abbrev cX10_isSoWith : ByteArray := prog_12_method_87_code
def yX10_isSoWith : MethodName := ⟨RX10, "isSoWith", "(III)Z"⟩
abbrev cX10_hunts : ByteArray := prog_12_method_88_code
def yX10_hunts : MethodName := ⟨RX10, "hunts", "(I)I"⟩
abbrev cX10_setsOf : ByteArray := prog_12_method_89_code
def yX10_setsOf : MethodName := ⟨RX10, "setsOf", "(I)I"⟩
abbrev cX10_deads : ByteArray := prog_12_method_90_code
def yX10_deads : MethodName := ⟨RX10, "deads", "(I)I"⟩
abbrev cX10_ask : ByteArray := prog_12_method_91_code
def yX10_ask : MethodName := ⟨RX10, "ask", "(II)I"⟩
abbrev cX10_drift : ByteArray := prog_12_method_92_code
def yX10_drift : MethodName := ⟨RX10, "drift", "(III)I"⟩
abbrev cX10_copies : ByteArray := prog_12_method_93_code
def yX10_copies : MethodName := ⟨RX10, "copies", "(II)V"⟩
abbrev cX10_keep : ByteArray := prog_12_method_94_code
def yX10_keep : MethodName := ⟨RX10, "keep", "(I)I"⟩
abbrev cX10_back : ByteArray := prog_12_method_95_code
def yX10_back : MethodName := ⟨RX10, "back", "(I)I"⟩
abbrev cX10_isSheet : ByteArray := prog_12_method_96_code
def yX10_isSheet : MethodName := ⟨RX10, "isSheet", "(II)Z"⟩
abbrev cX10_sheet : ByteArray := prog_12_method_97_code
def yX10_sheet : MethodName := ⟨RX10, "sheet", "(III)I"⟩
abbrev cX10_lay : ByteArray := prog_12_method_98_code
def yX10_lay : MethodName := ⟨RX10, "lay", "(III)I"⟩
abbrev cX10_read : ByteArray := prog_12_method_99_code
def yX10_read : MethodName := ⟨RX10, "read", "(IIII)I"⟩
abbrev cX10_torn : ByteArray := prog_12_method_100_code
def yX10_torn : MethodName := ⟨RX10, "torn", "()I"⟩
abbrev cX10_count : ByteArray := prog_12_method_101_code
def yX10_count : MethodName := ⟨RX10, "count", "(I)I"⟩
def RJ6 : String := "java/lang/Integer"
def TJ6 : u_T := fun k => match k with
  | _ => ("", "", "", false)
def tyJ6 : Nat → FieldType := fun k => match k with
  | _ => .int
theorem nmJ6 : ∀ a, a < 0 → ∀ b, b < 0 → a ≠ b → (TJ6 a).2.1 ≠ (TJ6 b).2.1 := by decide +kernel
theorem tyJ6_ok : ∀ k, k < 0 → parseFieldDescriptor (TJ6 k).2.2.1 = some (tyJ6 k) := by decide +kernel
abbrev cJ6_bitCount_0f7a4 : ByteArray := prog_13_method_49_code
def yJ6_bitCount_0f7a4 : MethodName := ⟨RJ6, "bitCount", "(I)I"⟩
def RJ9 : String := "java/lang/Math"
def TJ9 : u_T := fun k => match k with
  | _ => ("", "", "", false)
def tyJ9 : Nat → FieldType := fun k => match k with
  | _ => .int
theorem nmJ9 : ∀ a, a < 0 → ∀ b, b < 0 → a ≠ b → (TJ9 a).2.1 ≠ (TJ9 b).2.1 := by decide +kernel
theorem tyJ9_ok : ∀ k, k < 0 → parseFieldDescriptor (TJ9 k).2.2.1 = some (tyJ9 k) := by decide +kernel
abbrev cJ9_max_7cf53 : ByteArray := prog_14_method_65_code
def yJ9_max_7cf53 : MethodName := ⟨RJ9, "max", "(II)I"⟩
def RJ0 : String := "java/lang/String"
def TJ0 : u_T := fun k => match k with
  | _ => ("", "", "", false)
def tyJ0 : Nat → FieldType := fun k => match k with
  | _ => .int
theorem nmJ0 : ∀ a, a < 0 → ∀ b, b < 0 → a ≠ b → (TJ0 a).2.1 ≠ (TJ0 b).2.1 := by decide +kernel
theorem tyJ0_ok : ∀ k, k < 0 → parseFieldDescriptor (TJ0 k).2.2.1 = some (tyJ0 k) := by decide +kernel
abbrev cJ0_length_8abf5 : ByteArray := prog_15_method_54_code
def yJ0_length_8abf5 : MethodName := ⟨RJ0, "length", "()I"⟩
abbrev cJ0_charAt_5068e : ByteArray := prog_15_method_56_code
def yJ0_charAt_5068e : MethodName := ⟨RJ0, "charAt", "(I)C"⟩
abbrev cJ0_coder_7d493 : ByteArray := prog_15_method_152_code
def yJ0_coder_7d493 : MethodName := ⟨RJ0, "coder", "()B"⟩
abbrev cJ0_isLatin1_aae02 : ByteArray := prog_15_method_154_code
def yJ0_isLatin1_aae02 : MethodName := ⟨RJ0, "isLatin1", "()Z"⟩
abbrev cJ0_checkIndex_df160 : ByteArray := prog_15_method_155_code
def yJ0_checkIndex_df160 : MethodName := ⟨RJ0, "checkIndex", "(II)V"⟩
def RJ1 : String := "java/lang/StringLatin1"
def TJ1 : u_T := fun k => match k with
  | _ => ("", "", "", false)
def tyJ1 : Nat → FieldType := fun k => match k with
  | _ => .int
theorem nmJ1 : ∀ a, a < 0 → ∀ b, b < 0 → a ≠ b → (TJ1 a).2.1 ≠ (TJ1 b).2.1 := by decide +kernel
theorem tyJ1_ok : ∀ k, k < 0 → parseFieldDescriptor (TJ1 k).2.2.1 = some (tyJ1 k) := by decide +kernel
abbrev cJ1_charAt_3b067 : ByteArray := prog_16_method_2_code
def yJ1_charAt_3b067 : MethodName := ⟨RJ1, "charAt", "([BI)C"⟩
def RJ2 : String := "java/lang/StringUTF16"
def TJ2 : u_T := fun k => match k with
  | _ => ("", "", "", false)
def tyJ2 : Nat → FieldType := fun k => match k with
  | _ => .int
theorem nmJ2 : ∀ a, a < 0 → ∀ b, b < 0 → a ≠ b → (TJ2 a).2.1 ≠ (TJ2 b).2.1 := by decide +kernel
theorem tyJ2_ok : ∀ k, k < 0 → parseFieldDescriptor (TJ2 k).2.2.1 = some (tyJ2 k) := by decide +kernel
abbrev cJ2_getChar_3b067 : ByteArray := prog_17_method_5_code
def yJ2_getChar_3b067 : MethodName := ⟨RJ2, "getChar", "([BI)C"⟩
abbrev cJ2_length_9d52b : ByteArray := prog_17_method_6_code
def yJ2_length_9d52b : MethodName := ⟨RJ2, "length", "([B)I"⟩
abbrev cJ2_charAt_3b067 : ByteArray := prog_17_method_83_code
def yJ2_charAt_3b067 : MethodName := ⟨RJ2, "charAt", "([BI)C"⟩
abbrev cJ2_checkIndex_2214a : ByteArray := prog_17_method_91_code
def yJ2_checkIndex_2214a : MethodName := ⟨RJ2, "checkIndex", "(I[B)V"⟩
def RJ3 : String := "jdk/internal/util/Preconditions"
def TJ3 : u_T := fun k => match k with
  | _ => ("", "", "", false)
def tyJ3 : Nat → FieldType := fun k => match k with
  | _ => .int
theorem nmJ3 : ∀ a, a < 0 → ∀ b, b < 0 → a ≠ b → (TJ3 a).2.1 ≠ (TJ3 b).2.1 := by decide +kernel
theorem tyJ3_ok : ∀ k, k < 0 → parseFieldDescriptor (TJ3 k).2.2.1 = some (tyJ3 k) := by decide +kernel
abbrev cJ3_checkIndex_8e157 : ByteArray := prog_18_method_11_code
def yJ3_checkIndex_8e157 : MethodName := ⟨RJ3, "checkIndex", "(IILjava/util/function/BiFunction;)I"⟩
def RL : String := "StepCallsLaw"
abbrev cL_law : ByteArray := code
def yL_law : MethodName := ⟨RL, "law", "([I)Z"⟩
abbrev vwCl : List vw_C := [(RX0, TX0, 2), (RX1, TX1, 8), (RX2, TX2, 6), (RX3, TX3, 3), (RX4, TX4, 9), (RX5, TX5, 6), (RX6, TX6, 3), (RX7, TX7, 6), (RX8, TX8, 6), (RX9, TX9, 11), (RX10, TX10, 28)]

/-- the words of the tables that every method's contract carries -/
def TB : List Cond := lw_tbl.filter goodWord
theorem tb_of {w : Cond} (i : Nat) (h : lw_tbl[i]? = some w ∧ goodWord w = true) : w ∈ TB := List.mem_filter.mpr ⟨List.mem_of_getElem? h.1, h.2⟩
theorem tb_good {w : Cond} (h : w ∈ TB) : (w.onTables && w.keeps) = true ∨ ∃ ty, w = .arrayClass ty := good_of_word (List.mem_filter.mp h).2
theorem tb_all {ws : List Cond} (h : ∀ w ∈ ws, w ∈ TB) : GoodIn TB ws := fun w hw => ⟨h w hw, tb_good (h w hw)⟩
theorem tb_big {ws : List Cond} {a : Array Value} {s : State} (h : ∀ w ∈ lw_tbl, w.before a s = true) : ∀ w ∈ TB, w.before a s = true := fun w hw => h w (List.mem_filter.mp hw).1
end
section
abbrev Mem : Type := (Nat → Nat → Int32) × (Nat → Int64)
def rd (M : Mem) (i k : Nat) : Int32 := M.1 i k
def rl (M : Mem) (k : Nat) : Int64 := M.2 k
def wr (M : Mem) (i k : Nat) (v : Int32) : Mem := (fun j => if j = i then upd (M.1 j) k v else M.1 j, M.2)
def wl (M : Mem) (k : Nat) (v : Int64) : Mem := (M.1, fun q => if q = k then v else M.2 q)
theorem rd_wr {M : Mem} {i k j q : Nat} {v : Int32} : rd (wr M i k v) j q = if j = i ∧ q = k then v else rd M j q := by
  show (if j = i then upd (M.1 j) k v else M.1 j) q = _
  by_cases h : j = i
  · by_cases h2 : q = k
    · simp [h, h2, upd]
    · simp [h, h2, upd, rd]
  · simp [h, rd]
theorem rl_wr {M : Mem} {i k q : Nat} {v : Int32} : rl (wr M i k v) q = rl M q := rfl
theorem rd_wl {M : Mem} {k i q : Nat} {v : Int64} : rd (wl M k v) i q = rd M i q := rfl
theorem rl_wl {M : Mem} {k q : Nat} {v : Int64} : rl (wl M k v) q = if q = k then v else rl M q := rfl
/-- what each cell is: the place of its class, or 11 on for arrays; how long an array is -/
def kds : List Nat := [9, 1, 11, 11, 11, 11, 13, 2, 11, 2, 11, 2, 11, 2, 11, 2, 11, 5, 11, 11, 11, 11, 8, 1, 11, 11, 11, 11, 13, 2, 11, 2, 11, 2, 11, 2, 11, 2, 11, 11, 0, 16, 11, 11, 11, 11, 11, 11, 11, 11, 7, 11, 4, 1, 11, 11, 11, 11, 13, 2, 11, 2, 11, 2, 11, 2, 11, 2, 11, 5, 11, 11, 11, 11, 14, 3, 1, 11, 11, 11, 11, 13, 2, 11, 2, 11, 2, 11, 2, 11, 2, 11, 5, 11, 11, 11, 11, 3, 1, 11, 11, 11, 11, 13, 2, 11, 2, 11, 2, 11, 2, 11, 2, 11, 5, 11, 11, 11, 11, 15, 6, 11, 6, 11, 6, 11, 6, 11, 10, 11, 11, 12, 11, 11, 11, 11, 11, 11, 11, 11]
def lns : List Nat := [0, 0, 6, 6, 6, 6, 0, 0, 4, 0, 4, 0, 4, 0, 4, 0, 4, 0, 8, 8, 6, 6, 0, 0, 6, 6, 6, 6, 0, 0, 4, 0, 4, 0, 4, 0, 4, 0, 4, 8, 0, 0, 7, 7, 7, 7, 7, 7, 7, 7, 0, 160, 0, 0, 6, 6, 6, 6, 0, 0, 4, 0, 4, 0, 4, 0, 4, 0, 4, 0, 8, 8, 6, 6, 0, 0, 0, 6, 6, 6, 6, 0, 0, 4, 0, 4, 0, 4, 0, 4, 0, 4, 0, 8, 8, 6, 6, 0, 0, 6, 6, 6, 6, 0, 0, 4, 0, 4, 0, 4, 0, 4, 0, 4, 0, 8, 8, 6, 6, 0, 0, 40, 0, 40, 0, 40, 0, 40, 0, 288, 96, 2, 96, 160, 8, 56, 4, 4, 160, 96]
def kd (i : Nat) : Nat := kds.getD i 99
def ln (i : Nat) : Nat := lns.getD i 0
def isK (c i : Nat) : Prop := i < 140 ∧ kd i = c
def isA (n i : Nat) : Prop := i < 140 ∧ kd i = 11 ∧ ln i = n
def isZ (n i : Nat) : Prop := i < 140 ∧ kd i = 12 ∧ ln i = n
/-- what the worlds of one run share: the launch, where the cells lie, the classes' numbers, the arrays' classes, the texts' places -/
abbrev WD : Type := Launch × (Nat → Nat) × va_G × (Nat → ClassId) × (Nat → Nat) × (Nat → Nat)
/-- a frame that runs, and what it comes to -/
abbrev FR : Type := (Program × Env × Room) × (State × MethodId × Array Value × List Frame) × (Method × Code × Nat) × (Nat × Nat) × (State → Prop)
def adr (ω : WD) (i : Nat) : Nat := ω.2.1 i
abbrev fsX (c : Nat) (ω : WD) (f : Nat → Int32) (g : Nat → Int64) (i : Nat) : List Value := match c with
  | 0 => [.int (f 0), .int (f 1)]
  | 1 => [.int (f 0), .int (f 1), .int (f 2), .ref (adr ω (i+1)), .ref (adr ω (i+2)), .ref (adr ω (i+3)), .ref (adr ω (i+4)), .ref (adr ω (i+5))]
  | 2 => [.int (f 0), .int (f 1), .int (f 2), .int (f 3), .int (f 4), .ref (adr ω (i+1))]
  | 3 => [.int (f 0), .ref (adr ω (i+1)), .ref (adr ω (i+17))]
  | 4 => [.ref (adr ω 50), .ref (adr ω (i+1)), .ref (adr ω (i+17)), .int (f 3), .int (f 4), .int (f 5), .int (f 6), .int (f 7), .int (f 8)]
  | 5 => [.int (f 0), .int (f 1), .ref (adr ω (i+1)), .ref (adr ω (i+2)), .ref (adr ω (i+3)), .ref (adr ω (i+4))]
  | 6 => [.int (f 0), .int (f 1), .ref (adr ω (i+1))]
  | 7 => [.ref (adr ω (i+1)), .int (f 1), .int (f 2), .int (f 3), .int (f 4), .int (f 5)]
  | 8 => [.ref (adr ω (i+1)), .ref (adr ω (i+17)), .int (f 2), .int (f 3), .int (f 4), .int (f 5)]
  | 9 => [.ref (adr ω (i+1)), .ref (adr ω (i+17)), .ref (adr ω (i+22)), .ref (adr ω (i+40)), .ref (adr ω (i+41)), .ref (adr ω (i+50)), .ref (adr ω (i+52)), .ref (adr ω (i+74)), .ref (adr ω (i+119)), .int (f 9), .int (f 10)]
  | _ => [.ref (adr ω (i+1)), .ref (adr ω (i+2)), .ref (adr ω (i+3)), .ref (adr ω (i+4)), .int (f 4), .int (f 5), .int (f 6), .int (f 7), .ref (adr ω (i+5)), .int (f 9), .int (f 10), .int (f 11), .int (f 12), .int (f 13), .int (f 14), .int (f 15), .ref (adr ω (i+6)), .int (f 17), .int (f 18), .long (g 19), .long (g 20), .long (g 21), .ref (adr ω (i+7)), .ref (adr ω (i+8)), .ref (adr ω (i+9)), .ref (adr ω (i+10)), .int (f 26), .ref (adr ω (i+11))]
def contX (ω : WD) (f : Nat → Int32) (g : Nat → Int64) (i : Nat) : va_E :=
  if kd i < 11 then .inr (kd i, fsX (kd i) ω f g i) else if kd i = 11 then .inl (ω.2.2.2.1 0, ln i, .inl f) else if kd i = 12 then .inl (ω.2.2.2.1 1, ln i, .inl f)
  else if kd i = 13 then .inl (ω.2.2.2.1 2, 5, .inr (.inr (.inr (.inr (fun t => some (adr ω (i + 1 + 2 * t)))))))
  else if kd i = 14 then .inl (ω.2.2.2.1 3, 2, .inr (.inr (.inr (.inr (fun t => some (adr ω (i + 1 + 22 * t)))))))
  else if kd i = 15 then .inl (ω.2.2.2.1 4, 4, .inr (.inr (.inr (.inr (fun t => some (adr ω (i + 1 + 2 * t)))))))
  else .inl (ω.2.2.2.1 5, 8, .inr (.inr (.inr (.inr (fun t => some (adr ω (i + 1 + t)))))))
def cont (ω : WD) (M : Mem) (i : Nat) : va_E := contX ω (M.1 i) M.2 i
def cellsOf (ω : WD) (M : Mem) : va_W := (List.range 140).map fun i => (adr ω i, cont ω M i)
abbrev tysOf (ω : WD) : List (ClassId × FieldType) := [(ω.2.2.2.1 0, .int), (ω.2.2.2.1 1, .boolean), (ω.2.2.2.1 2, .object "StepCalls$Group"), (ω.2.2.2.1 3, .object "StepCalls$Image"), (ω.2.2.2.1 4, .object "StepCalls$Sheet"), (ω.2.2.2.1 5, .array .int)]
def inj (ω : WD) : Prop := ∀ i j, i < 140 → j < 140 → adr ω i = adr ω j → i = j
def gA (ω : WD) (sz : Nat) : Nat → Prop := fun q => (∃ i, i < 140 ∧ q = adr ω i) ∨ sz ≤ q
theorem cells_get {ω : WD} {M : Mem} {i : Nat} (h : i < 140) : (cellsOf ω M)[i]? = some (adr ω i, cont ω M i) := by
  unfold cellsOf
  rw [List.getElem?_map, List.getElem?_range h]
  rfl
theorem cells_at {ω : WD} {M : Mem} {k : Nat} {q : Nat × va_E} (h : (cellsOf ω M)[k]? = some q) : k < 140 ∧ q = (adr ω k, cont ω M k) := by
  have hk : k < 140 := by
    have := (List.getElem?_eq_some_iff.mp h).1
    simpa [cellsOf] using this
  rw [cells_get hk] at h
  exact ⟨hk, (Option.some.inj h).symm⟩
theorem cells_D {ω : WD} {M : Mem} {sz : Nat} (h : inj ω) : va_D (gA ω sz) (cellsOf ω M) := by
  refine ⟨fun i j p q hi hj e => ?_, fun k q hk => ?_⟩
  · obtain ⟨h1, rfl⟩ := cells_at hi
    obtain ⟨h2, rfl⟩ := cells_at hj
    exact h i j h1 h2 e
  · obtain ⟨h1, rfl⟩ := cells_at hk
    exact Or.inl ⟨k, h1, rfl⟩
theorem cells_set {ω : WD} {M M' : Mem} {i : Nat} {e : va_E} (h1 : cont ω M' i = e) (h2 : ∀ j, j < 140 → j ≠ i → cont ω M' j = cont ω M j) : (cellsOf ω M).set i (adr ω i, e) = cellsOf ω M' := by
  apply List.ext_getElem?
  intro k
  by_cases hk : k < 140
  · rw [cells_get hk, List.getElem?_set]
    by_cases e1 : i = k
    · subst e1
      rw [if_pos rfl, if_pos (by simpa [cellsOf] using hk), h1]
    · rw [if_neg e1, cells_get hk, h2 k hk (fun e => e1 e.symm)]
  · rw [List.getElem?_eq_none (by simpa [cellsOf] using hk), List.getElem?_eq_none (by simpa [cellsOf] using hk)]
theorem cont_ne {ω : WD} {M : Mem} {i k j : Nat} {v : Int32} (h : j ≠ i) : cont ω (wr M i k v) j = cont ω M j := by
  unfold cont
  show contX ω (if j = i then upd (M.1 j) k v else M.1 j) M.2 j = _
  rw [if_neg h]
theorem cont_eq {ω : WD} {M : Mem} {i k : Nat} {v : Int32} : cont ω (wr M i k v) i = contX ω (upd (M.1 i) k v) M.2 i := by
  unfold cont
  show contX ω (if i = i then upd (M.1 i) k v else M.1 i) M.2 i = _
  rw [if_pos rfl]
theorem cont_obj {ω : WD} {M : Mem} {c i : Nat} (h : isK c i) (hc : c < 11) : cont ω M i = .inr (c, fsX c ω (M.1 i) M.2 i) := by
  unfold cont contX
  rw [h.2, if_pos hc]
theorem contX_obj {ω : WD} {f : Nat → Int32} {g : Nat → Int64} {c i : Nat} (h : isK c i) (hc : c < 11) : contX ω f g i = .inr (c, fsX c ω f g i) := by
  unfold contX
  rw [h.2, if_pos hc]
theorem contX_arr {ω : WD} {f : Nat → Int32} {g : Nat → Int64} {n i : Nat} (h : isA n i) : contX ω f g i = .inl (ω.2.2.2.1 0, n, .inl f) := by
  unfold contX
  rw [h.2.1, h.2.2]
  rfl
theorem contX_zrr {ω : WD} {f : Nat → Int32} {g : Nat → Int64} {n i : Nat} (h : isZ n i) : contX ω f g i = .inl (ω.2.2.2.1 1, n, .inl f) := by
  unfold contX
  rw [h.2.1, h.2.2]
  rfl
theorem one_model : ∀ j, j < 140 → kd j = 10 → j = 128 := by decide +kernel
theorem cont_L {ω : WD} {f : Nat → Int32} {g g' : Nat → Int64} {j : Nat} (h : j < 140) (h2 : j ≠ 128) : contX ω f g' j = contX ω f g j := by
  have hk : kd j ≠ 10 := fun e => h2 (one_model j h e)
  unfold contX
  by_cases hc : kd j < 11
  · rw [if_pos hc, if_pos hc]
    have : kd j = 0 ∨ kd j = 1 ∨ kd j = 2 ∨ kd j = 3 ∨ kd j = 4 ∨ kd j = 5 ∨ kd j = 6 ∨ kd j = 7 ∨ kd j = 8 ∨ kd j = 9 := by omega
    rcases this with e | e | e | e | e | e | e | e | e | e <;> (rw [e]; first | done | rfl)
  · rw [if_neg hc, if_neg hc]
/-- what else a contract takes of its state: the links between nest mates; the texts -/
def XW (ω : WD) (U : State) : Prop := va_Nw (.methodLinkNest RX4 121 yX9_isNumber "StepCalls") U ∧ va_Nw (.methodLinkNest RX4 153 yX9_isDialled "StepCalls") U
theorem XW.calling {ω : WD} {U : State} {g : JFrame} {mk : MethodId} {a : Array Value} (h : XW ω U) : XW ω (U.calling g mk a) := ⟨va_Nw.same rfl rfl h.1, va_Nw.same rfl rfl h.2⟩
theorem XW.warm {ω : WD} {s U : State} (hW : s.WarmedH U.vm) (h : XW ω s) : XW ω U := ⟨va_Nw.warmM hW h.1, va_Nw.warmM hW h.2⟩
/-- THE JUDGEMENT: the frame, at pc with these locals and this stack, the memory M, comes to what it is to come to -/
def G (ω : WD) (ρ : FR) (M : Mem) (pc : Nat) (lv : List (Nat × Value)) (st : List Value) : Prop :=
  ∀ (ls : Array Slot) (H : Heap) (locs : List Loc), lv_has ls ρ.2.2.1.2.2 lv → va_P ω.2.2.1 vwCl (cellsOf ω M) H → va_S (gA ω ρ.2.1.1.heap.size) ρ.2.1.1.heap H locs →
    W ρ.1.1 ω.1 ρ.1.2.1 ρ.1.2.2 ρ.2.1.1 ρ.2.1.2.1 ρ.2.1.2.2.1 ρ.2.1.2.2.2 ρ.2.2.1.1 ρ.2.2.1.2.1 H locs ρ.2.2.2.1.1 ρ.2.2.2.1.2 ρ.2.2.2.2 (F0 ρ.2.1.2.1 pc ls st)
/-- what is known of the frame: its code, its class, its depth, how many locals -/
def Cx (ω : WD) (ρ : FR) (cc : ByteArray) (own : String) (d n : Nat) : Prop :=
  ρ.1.1.tables.exec = Jvm.exec ∧ ρ.2.2.1.2.1.code = cc ∧ ρ.2.2.1.2.1.maxLocals = n ∧ ρ.2.1.1.vm.findClass own = some ρ.2.1.2.1.cls ∧ (∀ w ∈ TB, w.before ρ.2.1.2.2.1 ρ.2.1.1 = true) ∧ va_K ω.2.2.1 vwCl (tysOf ω) ρ.2.1.1 ∧ inj ω ∧ (d ≤ ρ.1.2.2.frames ∧ 36 * d ≤ ρ.1.2.2.locals) ∧ (ρ.2.2.2.1.1 ≤ ρ.1.2.2.cells ∧ ρ.2.2.2.1.2 ≤ ρ.1.2.2.slots) ∧ XW ω ρ.2.1.1 ∧ ρ.2.2.1.2.2 = n
def lset (lv : List (Nat × Value)) (i : Nat) (v : Value) : List (Nat × Value) := (i, v) :: lv.filter (fun q => !(q.1 == i) && !(q.1 + 1 == i && q.2.category == 2))
def lsetL (lv : List (Nat × Value)) (i : Nat) (v : Value) : List (Nat × Value) := (i, v) :: lv.filter (fun q => !(q.1 == i) && (!(q.1 == i + 1) && !(q.1 + 1 == i && q.2.category == 2)))
section GR
variable {ω : WD} {ρ : FR} {M : Mem} {cc : ByteArray} {own : String} {d n pc : Nat} {lv : List (Nat × Value)} {rest : List Value}
/-- fewer locals, in another order -/
theorem G_sub {lv' : List (Nat × Value)} {st : List Value} (ks : List Nat) (hl : lv_pick lv ks = lv') (k : G ω ρ M pc lv' st) : G ω ρ M pc lv st := fun ls H locs h hP hS => k ls H locs (lv_sub h ks hl) hP hS
theorem G_iadd {x y : Int32} (K : Cx ω ρ cc own d n) (hd : decode cc pc = .ok (.iadd, 1)) (k : G ω ρ M (pc + 1) lv (.int (x + y) :: rest)) : G ω ρ M pc lv (.int y :: .int x :: rest) := fun ls H locs h hP hS => lv_iadd K.1 K.2.1 hd (k ls H locs h hP hS)
theorem G_isub {x y : Int32} (K : Cx ω ρ cc own d n) (hd : decode cc pc = .ok (.isub, 1)) (k : G ω ρ M (pc + 1) lv (.int (x - y) :: rest)) : G ω ρ M pc lv (.int y :: .int x :: rest) := fun ls H locs h hP hS => lv_isub K.1 K.2.1 hd (k ls H locs h hP hS)
theorem G_imul {x y : Int32} (K : Cx ω ρ cc own d n) (hd : decode cc pc = .ok (.imul, 1)) (k : G ω ρ M (pc + 1) lv (.int (x * y) :: rest)) : G ω ρ M pc lv (.int y :: .int x :: rest) := fun ls H locs h hP hS => lv_imul K.1 K.2.1 hd (k ls H locs h hP hS)
theorem G_iand {x y : Int32} (K : Cx ω ρ cc own d n) (hd : decode cc pc = .ok (.iand, 1)) (k : G ω ρ M (pc + 1) lv (.int (x &&& y) :: rest)) : G ω ρ M pc lv (.int y :: .int x :: rest) := fun ls H locs h hP hS => lv_iand K.1 K.2.1 hd (k ls H locs h hP hS)
theorem G_ior {x y : Int32} (K : Cx ω ρ cc own d n) (hd : decode cc pc = .ok (.ior, 1)) (k : G ω ρ M (pc + 1) lv (.int (x ||| y) :: rest)) : G ω ρ M pc lv (.int y :: .int x :: rest) := fun ls H locs h hP hS => lv_ior K.1 K.2.1 hd (k ls H locs h hP hS)
theorem G_ixor {x y : Int32} (K : Cx ω ρ cc own d n) (hd : decode cc pc = .ok (.ixor, 1)) (k : G ω ρ M (pc + 1) lv (.int (x ^^^ y) :: rest)) : G ω ρ M pc lv (.int y :: .int x :: rest) := fun ls H locs h hP hS => lv_ixor K.1 K.2.1 hd (k ls H locs h hP hS)
theorem G_ishl {x y : Int32} (K : Cx ω ρ cc own d n) (hd : decode cc pc = .ok (.ishl, 1)) (k : G ω ρ M (pc + 1) lv (.int (x <<< (y &&& 31)) :: rest)) : G ω ρ M pc lv (.int y :: .int x :: rest) := fun ls H locs h hP hS => lv_ishl K.1 K.2.1 hd (k ls H locs h hP hS)
theorem G_ishr {x y : Int32} (K : Cx ω ρ cc own d n) (hd : decode cc pc = .ok (.ishr, 1)) (k : G ω ρ M (pc + 1) lv (.int (x >>> (y &&& 31)) :: rest)) : G ω ρ M pc lv (.int y :: .int x :: rest) := fun ls H locs h hP hS => lv_ishr K.1 K.2.1 hd (k ls H locs h hP hS)
theorem G_ladd {x y : Int64} (K : Cx ω ρ cc own d n) (hd : decode cc pc = .ok (.ladd, 1)) (k : G ω ρ M (pc + 1) lv (.long (x + y) :: rest)) : G ω ρ M pc lv (.long y :: .long x :: rest) := fun ls H locs h hP hS => lv_ladd K.1 K.2.1 hd (k ls H locs h hP hS)
theorem G_lsub {x y : Int64} (K : Cx ω ρ cc own d n) (hd : decode cc pc = .ok (.lsub, 1)) (k : G ω ρ M (pc + 1) lv (.long (x - y) :: rest)) : G ω ρ M pc lv (.long y :: .long x :: rest) := fun ls H locs h hP hS => lv_lsub K.1 K.2.1 hd (k ls H locs h hP hS)
theorem G_lmul {x y : Int64} (K : Cx ω ρ cc own d n) (hd : decode cc pc = .ok (.lmul, 1)) (k : G ω ρ M (pc + 1) lv (.long (x * y) :: rest)) : G ω ρ M pc lv (.long y :: .long x :: rest) := fun ls H locs h hP hS => lv_lmul K.1 K.2.1 hd (k ls H locs h hP hS)
theorem G_iushr {x y : Int32} (K : Cx ω ρ cc own d n) (hd : decode cc pc = .ok (.iushr, 1)) (k : G ω ρ M (pc + 1) lv (.int ((x.toUInt32 >>> (y.toUInt32 &&& Int32.toUInt32 31)).toInt32) :: rest)) : G ω ρ M pc lv (.int y :: .int x :: rest) := fun ls H locs h hP hS => lv_iushr K.1 K.2.1 hd rfl (k ls H locs h hP hS)
theorem G_idiv {x y : Int32} (K : Cx ω ρ cc own d n) (hd : decode cc pc = .ok (.idiv, 1)) (hz : ¬ y = 0) (k : G ω ρ M (pc + 1) lv (.int (x / y) :: rest)) : G ω ρ M pc lv (.int y :: .int x :: rest) := fun ls H locs h hP hS => lv_idiv K.1 K.2.1 hd hz (k ls H locs h hP hS)
theorem G_irem {x y : Int32} (K : Cx ω ρ cc own d n) (hd : decode cc pc = .ok (.irem, 1)) (hz : ¬ y = 0) (k : G ω ρ M (pc + 1) lv (.int (x - x / y * y) :: rest)) : G ω ρ M pc lv (.int y :: .int x :: rest) := fun ls H locs h hP hS => lv_irem K.1 K.2.1 hd hz (k ls H locs h hP hS)
theorem G_ldiv {x y : Int64} (K : Cx ω ρ cc own d n) (hd : decode cc pc = .ok (.ldiv, 1)) (hz : ¬ y = 0) (k : G ω ρ M (pc + 1) lv (.long (x / y) :: rest)) : G ω ρ M pc lv (.long y :: .long x :: rest) := fun ls H locs h hP hS => lv_ldiv K.1 K.2.1 hd hz (k ls H locs h hP hS)
theorem G_lrem {x y : Int64} (K : Cx ω ρ cc own d n) (hd : decode cc pc = .ok (.lrem, 1)) (hz : ¬ y = 0) (k : G ω ρ M (pc + 1) lv (.long (x - x / y * y) :: rest)) : G ω ρ M pc lv (.long y :: .long x :: rest) := fun ls H locs h hP hS => lv_lrem K.1 K.2.1 hd hz (k ls H locs h hP hS)
theorem G_i2l {x : Int32} (K : Cx ω ρ cc own d n) (hd : decode cc pc = .ok (.i2l, 1)) (k : G ω ρ M (pc + 1) lv (.long x.toInt64 :: rest)) : G ω ρ M pc lv (.int x :: rest) := fun ls H locs h hP hS => lv_i2l K.1 K.2.1 hd rfl (k ls H locs h hP hS)
theorem G_l2i {x : Int64} (K : Cx ω ρ cc own d n) (hd : decode cc pc = .ok (.l2i, 1)) (k : G ω ρ M (pc + 1) lv (.int x.toInt32 :: rest)) : G ω ρ M pc lv (.long x :: rest) := fun ls H locs h hP hS => lv_l2i K.1 K.2.1 hd rfl (k ls H locs h hP hS)
theorem G_i2b {x : Int32} (K : Cx ω ρ cc own d n) (hd : decode cc pc = .ok (.i2b, 1)) (k : G ω ρ M (pc + 1) lv (.int x.toInt8.toInt32 :: rest)) : G ω ρ M pc lv (.int x :: rest) := fun ls H locs h hP hS => lv_i2b K.1 K.2.1 hd rfl (k ls H locs h hP hS)
theorem G_i2s {x : Int32} (K : Cx ω ρ cc own d n) (hd : decode cc pc = .ok (.i2s, 1)) (k : G ω ρ M (pc + 1) lv (.int x.toInt16.toInt32 :: rest)) : G ω ρ M pc lv (.int x :: rest) := fun ls H locs h hP hS => lv_i2s K.1 K.2.1 hd rfl (k ls H locs h hP hS)
theorem G_i2c {x : Int32} (K : Cx ω ρ cc own d n) (hd : decode cc pc = .ok (.i2c, 1)) (k : G ω ρ M (pc + 1) lv (.int (x.toUInt32 % 65536).toInt32 :: rest)) : G ω ρ M pc lv (.int x :: rest) := fun ls H locs h hP hS => lv_i2c K.1 K.2.1 hd rfl (k ls H locs h hP hS)
theorem G_iconst {a : Int} {v : Int32} (K : Cx ω ρ cc own d n) (hd : decode cc pc = .ok (.iconst a, 1)) (hv : Int32.ofInt a = v) (k : G ω ρ M (pc + 1) lv (.int v :: rest)) : G ω ρ M pc lv rest := fun ls H locs h hP hS => lv_iconst K.1 K.2.1 hd hv (k ls H locs h hP hS)
theorem G_bipush {a : Int} {v : Int32} (K : Cx ω ρ cc own d n) (hd : decode cc pc = .ok (.bipush a, 2)) (hv : (Int8.ofInt a).toInt32 = v) (k : G ω ρ M (pc + 2) lv (.int v :: rest)) : G ω ρ M pc lv rest := fun ls H locs h hP hS => lv_bipush K.1 K.2.1 hd hv (k ls H locs h hP hS)
theorem G_sipush {a : Int} {v : Int32} (K : Cx ω ρ cc own d n) (hd : decode cc pc = .ok (.sipush a, 3)) (hv : (Int16.ofInt a).toInt32 = v) (k : G ω ρ M (pc + 3) lv (.int v :: rest)) : G ω ρ M pc lv rest := fun ls H locs h hP hS => lv_sipush K.1 K.2.1 hd hv (k ls H locs h hP hS)
theorem G_lconst {a : Fin 2} {v : Int64} (K : Cx ω ρ cc own d n) (hd : decode cc pc = .ok (.lconst a, 1)) (hv : Int64.ofNat (a : Nat) = v) (k : G ω ρ M (pc + 1) lv (.long v :: rest)) : G ω ρ M pc lv rest := fun ls H locs h hP hS => lv_lconst K.1 K.2.1 hd hv (k ls H locs h hP hS)
theorem G_ldc2 {idx : Nat} {v : Int64} (K : Cx ω ρ cc own d n) (hd : decode cc pc = .ok (.ldc2_w idx, 3)) (hw : Cond.constantLong own idx v ∈ TB) (k : G ω ρ M (pc + 3) lv (.long v :: rest)) : G ω ρ M pc lv rest := fun ls H locs h hP hS => lv_ldc2 K.1 K.2.1 K.2.2.2.1 (K.2.2.2.2.1 _ hw) hd (k ls H locs h hP hS)
theorem G_dup {va : Value} (K : Cx ω ρ cc own d n) (hd : decode cc pc = .ok (.dup, 1)) (hc : va.category = 1) (k : G ω ρ M (pc + 1) lv (va :: va :: rest)) : G ω ρ M pc lv (va :: rest) := fun ls H locs h hP hS => lv_dup K.1 K.2.1 hd hc (k ls H locs h hP hS)
theorem G_dup2 {va vb : Value} (K : Cx ω ρ cc own d n) (hd : decode cc pc = .ok (.dup2, 1)) (hc : va.category = 1) (hc2 : vb.category = 1) (k : G ω ρ M (pc + 1) lv (va :: vb :: va :: vb :: rest)) : G ω ρ M pc lv (va :: vb :: rest) := fun ls H locs h hP hS => lv_dup2_11 K.1 K.2.1 hd hc hc2 (k ls H locs h hP hS)
theorem G_pop {va : Value} (K : Cx ω ρ cc own d n) (hd : decode cc pc = .ok (.pop, 1)) (hc : va.category = 1) (k : G ω ρ M (pc + 1) lv rest) : G ω ρ M pc lv (va :: rest) := fun ls H locs h hP hS => lv_pop K.1 K.2.1 hd hc (k ls H locs h hP hS)
theorem G_lcmp {x y : Int64} (K : Cx ω ρ cc own d n) (hd : decode cc pc = .ok (.lcmp, 1)) (k : G ω ρ M (pc + 1) lv (.int (lg_cmp x y) :: rest)) : G ω ρ M pc lv (.long y :: .long x :: rest) := fun ls H locs h hP hS => W.lcmp K.1 K.2.1 hd (k ls H locs h hP hS)
theorem G_iload {a : Nat} {x : Int32} (K : Cx ω ρ cc own d n) (hd : decode cc pc = .ok (.iload a, 2)) (j : Nat) (hj : lv[j]? = some (a, .int x)) (k : G ω ρ M (pc + 2) lv (.int x :: rest)) : G ω ρ M pc lv rest := fun ls H locs h hP hS => lv_iload K.1 K.2.1 hd (lv_at h j hj) (k ls H locs h hP hS)
theorem G_iload_n {a : Fin 4} {x : Int32} (K : Cx ω ρ cc own d n) (hd : decode cc pc = .ok (.iload_n a, 1)) (j : Nat) (hj : lv[j]? = some ((a : Nat), .int x)) (k : G ω ρ M (pc + 1) lv (.int x :: rest)) : G ω ρ M pc lv rest := fun ls H locs h hP hS => lv_iload_n K.1 K.2.1 hd rfl (lv_at h j hj) (k ls H locs h hP hS)
theorem G_lload {a : Nat} {x : Int64} (K : Cx ω ρ cc own d n) (hd : decode cc pc = .ok (.lload a, 2)) (j : Nat) (hj : lv[j]? = some (a, .long x)) (k : G ω ρ M (pc + 2) lv (.long x :: rest)) : G ω ρ M pc lv rest := fun ls H locs h hP hS => lv_lload K.1 K.2.1 hd (lv_at h j hj) (k ls H locs h hP hS)
theorem G_lload_n {a : Fin 4} {x : Int64} (K : Cx ω ρ cc own d n) (hd : decode cc pc = .ok (.lload_n a, 1)) (j : Nat) (hj : lv[j]? = some ((a : Nat), .long x)) (k : G ω ρ M (pc + 1) lv (.long x :: rest)) : G ω ρ M pc lv rest := fun ls H locs h hP hS => lv_lload_n K.1 K.2.1 hd rfl (lv_at h j hj) (k ls H locs h hP hS)
theorem G_aload {a : Nat} {x : Nat} (K : Cx ω ρ cc own d n) (hd : decode cc pc = .ok (.aload a, 2)) (j : Nat) (hj : lv[j]? = some (a, .ref x)) (k : G ω ρ M (pc + 2) lv (.ref x :: rest)) : G ω ρ M pc lv rest := fun ls H locs h hP hS => lv_aload K.1 K.2.1 hd (lv_at h j hj) (k ls H locs h hP hS)
theorem G_aload_n {a : Fin 4} {x : Nat} (K : Cx ω ρ cc own d n) (hd : decode cc pc = .ok (.aload_n a, 1)) (j : Nat) (hj : lv[j]? = some ((a : Nat), .ref x)) (k : G ω ρ M (pc + 1) lv (.ref x :: rest)) : G ω ρ M pc lv rest := fun ls H locs h hP hS => lv_aload_n K.1 K.2.1 hd rfl (lv_at h j hj) (k ls H locs h hP hS)
theorem G_istore {a : Nat} {x : Int32} {lv' : List (Nat × Value)} (K : Cx ω ρ cc own d n) (hd : decode cc pc = .ok (.istore a, 2)) (ha : a < n) (hl : lset lv a (.int x) = lv') (k : G ω ρ M (pc + 2) lv' rest) : G ω ρ M pc lv (.int x :: rest) := fun ls H locs h hP hS => lv_istore K.1 K.2.1 hd h (K.2.2.2.2.2.2.2.2.2.2 ▸ ha) hl (fun ls2 h2 => k ls2 H locs h2 hP hS)
theorem G_istore_n {a : Fin 4} {x : Int32} {lv' : List (Nat × Value)} (K : Cx ω ρ cc own d n) (hd : decode cc pc = .ok (.istore_n a, 1)) (ha : (a : Nat) < n) (hl : lset lv (a : Nat) (.int x) = lv') (k : G ω ρ M (pc + 1) lv' rest) : G ω ρ M pc lv (.int x :: rest) := fun ls H locs h hP hS => lv_istore_n K.1 K.2.1 hd rfl h (K.2.2.2.2.2.2.2.2.2.2 ▸ ha) hl (fun ls2 h2 => k ls2 H locs h2 hP hS)
theorem G_lstore {a : Nat} {x : Int64} {lv' : List (Nat × Value)} (K : Cx ω ρ cc own d n) (hd : decode cc pc = .ok (.lstore a, 2)) (ha : a + 1 < n) (hl : lsetL lv a (.long x) = lv') (k : G ω ρ M (pc + 2) lv' rest) : G ω ρ M pc lv (.long x :: rest) := fun ls H locs h hP hS => lv_lstore K.1 K.2.1 hd h (K.2.2.2.2.2.2.2.2.2.2 ▸ ha) hl (fun ls2 h2 => k ls2 H locs h2 hP hS)
theorem G_lstore_n {a : Fin 4} {x : Int64} {lv' : List (Nat × Value)} (K : Cx ω ρ cc own d n) (hd : decode cc pc = .ok (.lstore_n a, 1)) (ha : (a : Nat) + 1 < n) (hl : lsetL lv (a : Nat) (.long x) = lv') (k : G ω ρ M (pc + 1) lv' rest) : G ω ρ M pc lv (.long x :: rest) := fun ls H locs h hP hS => lv_lstore_n K.1 K.2.1 hd rfl h (K.2.2.2.2.2.2.2.2.2.2 ▸ ha) hl (fun ls2 h2 => k ls2 H locs h2 hP hS)
theorem G_astore {a : Nat} {x : Nat} {lv' : List (Nat × Value)} (K : Cx ω ρ cc own d n) (hd : decode cc pc = .ok (.astore a, 2)) (ha : a < n) (hl : lset lv a (.ref x) = lv') (k : G ω ρ M (pc + 2) lv' rest) : G ω ρ M pc lv (.ref x :: rest) := fun ls H locs h hP hS => lv_astore K.1 K.2.1 hd h (K.2.2.2.2.2.2.2.2.2.2 ▸ ha) hl (fun ls2 h2 => k ls2 H locs h2 hP hS)
theorem G_astore_n {a : Fin 4} {x : Nat} {lv' : List (Nat × Value)} (K : Cx ω ρ cc own d n) (hd : decode cc pc = .ok (.astore_n a, 1)) (ha : (a : Nat) < n) (hl : lset lv (a : Nat) (.ref x) = lv') (k : G ω ρ M (pc + 1) lv' rest) : G ω ρ M pc lv (.ref x :: rest) := fun ls H locs h hP hS => lv_astore_n K.1 K.2.1 hd rfl h (K.2.2.2.2.2.2.2.2.2.2 ▸ ha) hl (fun ls2 h2 => k ls2 H locs h2 hP hS)
theorem G_iinc {a : Nat} {z : Int} {x v : Int32} {lv' : List (Nat × Value)} (K : Cx ω ρ cc own d n) (hd : decode cc pc = .ok (.iinc a z, 3)) (j : Nat) (hj : lv[j]? = some (a, .int x)) (hv : x + Int32.ofInt z = v) (ha : a < n) (hl : lset lv a (.int v) = lv') (k : G ω ρ M (pc + 3) lv' rest) : G ω ρ M pc lv rest := fun ls H locs h hP hS => lv_iinc K.1 K.2.1 hd h hj hv (K.2.2.2.2.2.2.2.2.2.2 ▸ ha) hl (fun ls2 h2 => k ls2 H locs h2 hP hS)
theorem G_icmp_ge {x y : Int32} {off : Int} {tgt : Nat} (K : Cx ω ρ cc own d n) (hd : decode cc pc = .ok (.if_icmp .ge off, 3)) (ht : (pc : Int) + off = (tgt : Int)) (kt : y ≤ x → G ω ρ M tgt lv rest) (kf : ¬ y ≤ x → G ω ρ M (pc + 3) lv rest) : G ω ρ M pc lv (.int y :: .int x :: rest) := fun ls H locs h hP hS => lv_icmp_ge K.1 K.2.1 hd ht (fun c => kt c ls H locs h hP hS) (fun c => kf c ls H locs h hP hS)
theorem G_icmp_eq {x y : Int32} {off : Int} {tgt : Nat} (K : Cx ω ρ cc own d n) (hd : decode cc pc = .ok (.if_icmp .eq off, 3)) (ht : (pc : Int) + off = (tgt : Int)) (kt : x = y → G ω ρ M tgt lv rest) (kf : ¬ x = y → G ω ρ M (pc + 3) lv rest) : G ω ρ M pc lv (.int y :: .int x :: rest) := fun ls H locs h hP hS => lv_icmp_eq K.1 K.2.1 hd ht (fun c => kt c ls H locs h hP hS) (fun c => kf c ls H locs h hP hS)
theorem G_icmp_ne {x y : Int32} {off : Int} {tgt : Nat} (K : Cx ω ρ cc own d n) (hd : decode cc pc = .ok (.if_icmp .ne off, 3)) (ht : (pc : Int) + off = (tgt : Int)) (kt : ¬ x = y → G ω ρ M tgt lv rest) (kf : x = y → G ω ρ M (pc + 3) lv rest) : G ω ρ M pc lv (.int y :: .int x :: rest) := fun ls H locs h hP hS => lv_icmp_ne K.1 K.2.1 hd ht (fun c => kt c ls H locs h hP hS) (fun c => kf c ls H locs h hP hS)
theorem G_icmp_lt {x y : Int32} {off : Int} {tgt : Nat} (K : Cx ω ρ cc own d n) (hd : decode cc pc = .ok (.if_icmp .lt off, 3)) (ht : (pc : Int) + off = (tgt : Int)) (kt : x < y → G ω ρ M tgt lv rest) (kf : ¬ x < y → G ω ρ M (pc + 3) lv rest) : G ω ρ M pc lv (.int y :: .int x :: rest) := fun ls H locs h hP hS => lv_icmp_lt K.1 K.2.1 hd ht (fun c => kt c ls H locs h hP hS) (fun c => kf c ls H locs h hP hS)
theorem G_icmp_gt {x y : Int32} {off : Int} {tgt : Nat} (K : Cx ω ρ cc own d n) (hd : decode cc pc = .ok (.if_icmp .gt off, 3)) (ht : (pc : Int) + off = (tgt : Int)) (kt : y < x → G ω ρ M tgt lv rest) (kf : ¬ y < x → G ω ρ M (pc + 3) lv rest) : G ω ρ M pc lv (.int y :: .int x :: rest) := fun ls H locs h hP hS => lv_icmp_gt K.1 K.2.1 hd ht (fun c => kt c ls H locs h hP hS) (fun c => kf c ls H locs h hP hS)
theorem G_icmp_le {x y : Int32} {off : Int} {tgt : Nat} (K : Cx ω ρ cc own d n) (hd : decode cc pc = .ok (.if_icmp .le off, 3)) (ht : (pc : Int) + off = (tgt : Int)) (kt : x ≤ y → G ω ρ M tgt lv rest) (kf : ¬ x ≤ y → G ω ρ M (pc + 3) lv rest) : G ω ρ M pc lv (.int y :: .int x :: rest) := fun ls H locs h hP hS => lv_icmp_le K.1 K.2.1 hd ht (fun c => kt c ls H locs h hP hS) (fun c => kf c ls H locs h hP hS)
theorem G_if_eq {x : Int32} {off : Int} {tgt : Nat} (K : Cx ω ρ cc own d n) (hd : decode cc pc = .ok (.ifCond .eq off, 3)) (ht : (pc : Int) + off = (tgt : Int)) (kt : x = 0 → G ω ρ M tgt lv rest) (kf : ¬ x = 0 → G ω ρ M (pc + 3) lv rest) : G ω ρ M pc lv (.int x :: rest) := fun ls H locs h hP hS => lv_if_eq K.1 K.2.1 hd ht (fun c => kt c ls H locs h hP hS) (fun c => kf c ls H locs h hP hS)
theorem G_if_ne {x : Int32} {off : Int} {tgt : Nat} (K : Cx ω ρ cc own d n) (hd : decode cc pc = .ok (.ifCond .ne off, 3)) (ht : (pc : Int) + off = (tgt : Int)) (kt : ¬ x = 0 → G ω ρ M tgt lv rest) (kf : x = 0 → G ω ρ M (pc + 3) lv rest) : G ω ρ M pc lv (.int x :: rest) := fun ls H locs h hP hS => lv_if_ne K.1 K.2.1 hd ht (fun c => kt c ls H locs h hP hS) (fun c => kf c ls H locs h hP hS)
theorem G_if_lt {x : Int32} {off : Int} {tgt : Nat} (K : Cx ω ρ cc own d n) (hd : decode cc pc = .ok (.ifCond .lt off, 3)) (ht : (pc : Int) + off = (tgt : Int)) (kt : x < 0 → G ω ρ M tgt lv rest) (kf : ¬ x < 0 → G ω ρ M (pc + 3) lv rest) : G ω ρ M pc lv (.int x :: rest) := fun ls H locs h hP hS => lv_if_lt K.1 K.2.1 hd ht (fun c => kt c ls H locs h hP hS) (fun c => kf c ls H locs h hP hS)
theorem G_if_ge {x : Int32} {off : Int} {tgt : Nat} (K : Cx ω ρ cc own d n) (hd : decode cc pc = .ok (.ifCond .ge off, 3)) (ht : (pc : Int) + off = (tgt : Int)) (kt : 0 ≤ x → G ω ρ M tgt lv rest) (kf : ¬ 0 ≤ x → G ω ρ M (pc + 3) lv rest) : G ω ρ M pc lv (.int x :: rest) := fun ls H locs h hP hS => lv_if_ge K.1 K.2.1 hd ht (fun c => kt c ls H locs h hP hS) (fun c => kf c ls H locs h hP hS)
theorem G_if_gt {x : Int32} {off : Int} {tgt : Nat} (K : Cx ω ρ cc own d n) (hd : decode cc pc = .ok (.ifCond .gt off, 3)) (ht : (pc : Int) + off = (tgt : Int)) (kt : 0 < x → G ω ρ M tgt lv rest) (kf : ¬ 0 < x → G ω ρ M (pc + 3) lv rest) : G ω ρ M pc lv (.int x :: rest) := fun ls H locs h hP hS => lv_if_gt K.1 K.2.1 hd ht (fun c => kt c ls H locs h hP hS) (fun c => kf c ls H locs h hP hS)
theorem G_if_le {x : Int32} {off : Int} {tgt : Nat} (K : Cx ω ρ cc own d n) (hd : decode cc pc = .ok (.ifCond .le off, 3)) (ht : (pc : Int) + off = (tgt : Int)) (kt : x ≤ 0 → G ω ρ M tgt lv rest) (kf : ¬ x ≤ 0 → G ω ρ M (pc + 3) lv rest) : G ω ρ M pc lv (.int x :: rest) := fun ls H locs h hP hS => lv_if_le K.1 K.2.1 hd ht (fun c => kt c ls H locs h hP hS) (fun c => kf c ls H locs h hP hS)
theorem G_goto {off : Int} {tgt : Nat} (K : Cx ω ρ cc own d n) (hd : decode cc pc = .ok (.goto off, 3)) (ht : (pc : Int) + off = (tgt : Int)) (k : G ω ρ M tgt lv rest) : G ω ρ M pc lv rest := fun ls H locs h hP hS => lv_goto K.1 K.2.1 hd ht (k ls H locs h hP hS)
theorem G_tableIn {dflt lo hi : Int} {offs : Array Int} {len : Nat} {x : Int32} {off : Int} {tgt : Nat} (K : Cx ω ρ cc own d n) (hd : decode cc pc = .ok (.tableswitch dflt lo hi offs, len)) (h1 : ¬ x.toInt < lo) (h2 : ¬ hi < x.toInt) (ho : offs[(x.toInt - lo).toNat]? = some off) (ht : (pc : Int) + off = (tgt : Int)) (k : G ω ρ M tgt lv rest) : G ω ρ M pc lv (.int x :: rest) := fun ls H locs h hP hS => lv_tableIn K.1 K.2.1 hd h1 h2 ho ht (k ls H locs h hP hS)
theorem G_tableOut {dflt lo hi : Int} {offs : Array Int} {len : Nat} {x : Int32} {tgt : Nat} (K : Cx ω ρ cc own d n) (hd : decode cc pc = .ok (.tableswitch dflt lo hi offs, len)) (hx : x.toInt < lo ∨ hi < x.toInt) (ht : (pc : Int) + dflt = (tgt : Int)) (k : G ω ρ M tgt lv rest) : G ω ρ M pc lv (.int x :: rest) := fun ls H locs h hP hS => lv_tableOut K.1 K.2.1 hd hx ht (k ls H locs h hP hS)
theorem sw_toInt {x : Int32} {a : Int} (h : x.toInt = a) : x = Int32.ofInt a := by rw [← h]; exact (Int32.ofInt_toInt x).symm
/-- fields -/
theorem G_get {C : String} {T : u_T} {N ci i q idx : Nat} {v : Value} (K : Cx ω ρ cc own d n) (hk : isK ci i) (hc : ci < 11) (hci : vwCl[ci]? = some (C, T, N)) (hin : ∀ w ∈ u_ws C T N, w ∈ TB) (hq : q < N) (hl : Cond.fieldLink own idx C (T q).2.1 (T q).2.2.1 ∈ TB) (hsame : (T q).1 = C) (hv : (fsX ci ω (M.1 i) M.2 i)[q]? = some v) (hd : decode cc pc = .ok (.getfield idx, 3)) (k : G ω ρ M (pc + 3) lv (v :: rest)) : G ω ρ M pc lv (.ref (adr ω i) :: rest) := fun ls H locs h hP hS =>
  va_get K.1 K.2.1 K.2.2.2.2.1 hin K.2.2.2.1 K.2.2.2.2.2.1 hP i ((cells_get hk.1).trans (by rw [cont_obj hk hc])) hci q hq (K.2.2.2.2.1 _ hl) (fun x hx => by rw [hsame] at hx; exact hx) hv hd (k ls H locs h hP hS)
theorem G_put {C : String} {T : u_T} {N ci i q idx : Nat} {v : Int32} {ty : FieldType} (K : Cx ω ρ cc own d n) (hk : isK ci i) (hc : ci < 11) (hci : vwCl[ci]? = some (C, T, N)) (hin : ∀ w ∈ u_ws C T N, w ∈ TB) (ty0 : Nat → FieldType) (hty : ∀ k, k < N → parseFieldDescriptor (T k).2.2.1 = some (ty0 k)) (hnm : ∀ a, a < N → ∀ b, b < N → a ≠ b → (T a).2.1 ≠ (T b).2.1) (hq : q < N) (hl : Cond.fieldLink own idx C (T q).2.1 (T q).2.2.1 ∈ TB) (hsame : (T q).1 = C) (hfin : (T q).2.2.2 = false) (hdsc : parseFieldDescriptor (T q).2.2.1 = some ty) (hn : narrow ty (.int v) = .int v) (hfit : fits ty (.int v) = true) (hlen : ∀ f g, q < (fsX ci ω f g i).length) (hs : ∀ f : Nat → Int32, (fsX ci ω f M.2 i).set q (.int v) = fsX ci ω (upd f q v) M.2 i) (hd : decode cc pc = .ok (.putfield idx, 3)) (k : G ω ρ (wr M i q v) (pc + 3) lv rest) : G ω ρ M pc lv (.int v :: .ref (adr ω i) :: rest) := fun ls H locs h hP hS => by
  have he : (cellsOf ω M)[i]? = some (adr ω i, .inr (ci, fsX ci ω (M.1 i) M.2 i)) := (cells_get hk.1).trans (by rw [cont_obj hk hc])
  refine va_put (ty := ty) (v := .int v) K.1 K.2.1 K.2.2.2.2.1 hin ty0 hty hnm K.2.2.2.1 K.2.2.2.2.2.1 hP (cells_D K.2.2.2.2.2.2.1) hS i he hci q hq (K.2.2.2.2.1 _ hl) (fun x hx => by rw [hsame] at hx; exact hx) hfin hdsc hn hfit (hlen _ _) hd (fun H1 locs1 hP1 _ hS1 => ?_)
  refine k ls H1 locs1 h ?_ hS1
  rw [hs, cells_set (M' := wr M i q v) (by rw [cont_eq, contX_obj hk hc]) (fun j _ hj => cont_ne hj)] at hP1
  exact hP1
theorem G_putL {C : String} {T : u_T} {N q idx : Nat} {v : Int64} (K : Cx ω ρ cc own d n) (hci : vwCl[10]? = some (C, T, N)) (hin : ∀ w ∈ u_ws C T N, w ∈ TB) (ty0 : Nat → FieldType) (hty : ∀ k, k < N → parseFieldDescriptor (T k).2.2.1 = some (ty0 k)) (hnm : ∀ a, a < N → ∀ b, b < N → a ≠ b → (T a).2.1 ≠ (T b).2.1) (hq : q < N) (hl : Cond.fieldLink own idx C (T q).2.1 (T q).2.2.1 ∈ TB) (hsame : (T q).1 = C) (hfin : (T q).2.2.2 = false) (hdsc : parseFieldDescriptor (T q).2.2.1 = some .long) (hlen : ∀ f g, q < (fsX 10 ω f g 128).length) (hs : ∀ g : Nat → Int64, (fsX 10 ω (M.1 128) g 128).set q (.long v) = fsX 10 ω (M.1 128) (fun z => if z = q then v else g z) 128) (hd : decode cc pc = .ok (.putfield idx, 3)) (k : G ω ρ (wl M q v) (pc + 3) lv rest) : G ω ρ M pc lv (.long v :: .ref (adr ω 128) :: rest) := fun ls H locs h hP hS => by
  have hk : isK 10 128 := ⟨by decide, rfl⟩
  have he : (cellsOf ω M)[128]? = some (adr ω 128, .inr (10, fsX 10 ω (M.1 128) M.2 128)) := (cells_get hk.1).trans (by rw [cont_obj hk (by decide)])
  refine va_put (ty := .long) (v := .long v) K.1 K.2.1 K.2.2.2.2.1 hin ty0 hty hnm K.2.2.2.1 K.2.2.2.2.2.1 hP (cells_D K.2.2.2.2.2.2.1) hS 128 he hci q hq (K.2.2.2.2.1 _ hl) (fun x hx => by rw [hsame] at hx; exact hx) hfin hdsc rfl rfl (hlen _ _) hd (fun H1 locs1 hP1 _ hS1 => ?_)
  refine k ls H1 locs1 h ?_ hS1
  rw [hs, cells_set (M := M) (M' := wl M q v) (e := .inr (10, fsX 10 ω (M.1 128) (fun z => if z = q then v else M.2 z) 128)) (contX_obj hk (by decide)) (fun j h1 hj => cont_L h1 hj)] at hP1
  exact hP1
/-- arrays -/
theorem G_iald {i N : Nat} {x : Int32} (K : Cx ω ρ cc own d n) (hk : isA N i) (hx : vp_in x N) (hd : decode cc pc = .ok (.iaload, 1)) (k : G ω ρ M (pc + 1) lv (.int (rd M i x.toNatClampNeg) :: rest)) : G ω ρ M pc lv (.int x :: .ref (adr ω i) :: rest) := fun ls H locs h hP hS =>
  va_iald K.1 K.2.1 K.2.2.2.2.2.1 hP i 0 ((cells_get hk.1).trans (by unfold cont; rw [contX_arr hk]; rfl)) rfl hx hd (k ls H locs h hP hS)
theorem G_iast {i N : Nat} {x v : Int32} (K : Cx ω ρ cc own d n) (hk : isA N i) (hx : vp_in x N) (hd : decode cc pc = .ok (.iastore, 1)) (k : G ω ρ (wr M i x.toNatClampNeg v) (pc + 1) lv rest) : G ω ρ M pc lv (.int v :: .int x :: .ref (adr ω i) :: rest) := fun ls H locs h hP hS => by
  refine va_iast K.1 K.2.1 K.2.2.2.2.2.1 hP (cells_D K.2.2.2.2.2.2.1) hS i 0 ((cells_get hk.1).trans (by unfold cont; rw [contX_arr hk])) rfl hx hd (fun H1 locs1 hP1 _ hS1 => ?_)
  refine k ls H1 locs1 h ?_ hS1
  rw [cells_set (M' := wr M i x.toNatClampNeg v) (by rw [cont_eq, contX_arr hk]) (fun j _ hj => cont_ne hj)] at hP1
  exact hP1
theorem G_zald {i N : Nat} {x : Int32} (K : Cx ω ρ cc own d n) (hk : isZ N i) (hx : vp_in x N) (hd : decode cc pc = .ok (.baload, 1)) (k : G ω ρ M (pc + 1) lv (.int (rd M i x.toNatClampNeg) :: rest)) : G ω ρ M pc lv (.int x :: .ref (adr ω i) :: rest) := fun ls H locs h hP hS =>
  va_zald K.1 K.2.1 K.2.2.2.2.2.1 hP i 1 ((cells_get hk.1).trans (by unfold cont; rw [contX_zrr hk]; rfl)) rfl hx hd (k ls H locs h hP hS)
theorem G_zast {i N : Nat} {x v : Int32} (K : Cx ω ρ cc own d n) (hk : isZ N i) (hx : vp_in x N) (hn : vp_nar .boolean v = v) (hd : decode cc pc = .ok (.bastore, 1)) (k : G ω ρ (wr M i x.toNatClampNeg v) (pc + 1) lv rest) : G ω ρ M pc lv (.int v :: .int x :: .ref (adr ω i) :: rest) := fun ls H locs h hP hS => by
  refine va_zast K.1 K.2.1 K.2.2.2.2.2.1 hP (cells_D K.2.2.2.2.2.2.1) hS i 1 ((cells_get hk.1).trans (by unfold cont; rw [contX_zrr hk])) rfl hx hd (fun H1 locs1 hP1 _ hS1 => ?_)
  rw [hn] at hP1
  refine k ls H1 locs1 h ?_ hS1
  rw [cells_set (M' := wr M i x.toNatClampNeg v) (by rw [cont_eq, contX_zrr hk]) (fun j _ hj => cont_ne hj)] at hP1
  exact hP1
theorem G_aldGroup {i : Nat} {x : Int32} (K : Cx ω ρ cc own d n) (hk : isK 13 i) (hx : vp_in x 5) (hd : decode cc pc = .ok (.aaload, 1)) (k : G ω ρ M (pc + 1) lv (.ref (adr ω (i + 1 + 2 * x.toNatClampNeg)) :: rest)) : G ω ρ M pc lv (.int x :: .ref (adr ω i) :: rest) := fun ls H locs h hP hS =>
  va_aldq K.1 K.2.1 K.2.2.2.2.2.1 hP i 2 (f := fun t => some (adr ω (i + 1 + 2 * t))) ((cells_get hk.1).trans (by unfold cont contX; rw [hk.2]; rfl)) rfl hx hd (k ls H locs h hP hS)
theorem G_aldImage {i : Nat} {x : Int32} (K : Cx ω ρ cc own d n) (hk : isK 14 i) (hx : vp_in x 2) (hd : decode cc pc = .ok (.aaload, 1)) (k : G ω ρ M (pc + 1) lv (.ref (adr ω (i + 1 + 22 * x.toNatClampNeg)) :: rest)) : G ω ρ M pc lv (.int x :: .ref (adr ω i) :: rest) := fun ls H locs h hP hS =>
  va_aldq K.1 K.2.1 K.2.2.2.2.2.1 hP i 3 (f := fun t => some (adr ω (i + 1 + 22 * t))) ((cells_get hk.1).trans (by unfold cont contX; rw [hk.2]; rfl)) rfl hx hd (k ls H locs h hP hS)
theorem G_aldSheet {i : Nat} {x : Int32} (K : Cx ω ρ cc own d n) (hk : isK 15 i) (hx : vp_in x 4) (hd : decode cc pc = .ok (.aaload, 1)) (k : G ω ρ M (pc + 1) lv (.ref (adr ω (i + 1 + 2 * x.toNatClampNeg)) :: rest)) : G ω ρ M pc lv (.int x :: .ref (adr ω i) :: rest) := fun ls H locs h hP hS =>
  va_aldq K.1 K.2.1 K.2.2.2.2.2.1 hP i 4 (f := fun t => some (adr ω (i + 1 + 2 * t))) ((cells_get hk.1).trans (by unfold cont contX; rw [hk.2]; rfl)) rfl hx hd (k ls H locs h hP hS)
theorem G_aldRow {i : Nat} {x : Int32} (K : Cx ω ρ cc own d n) (hk : isK 16 i) (hx : vp_in x 8) (hd : decode cc pc = .ok (.aaload, 1)) (k : G ω ρ M (pc + 1) lv (.ref (adr ω (i + 1 + x.toNatClampNeg)) :: rest)) : G ω ρ M pc lv (.int x :: .ref (adr ω i) :: rest) := fun ls H locs h hP hS => by
  have ha : (cellsOf ω M)[i]? = some (adr ω i, .inl (ω.2.2.2.1 5, 8, .inr (.inr (.inr (.inr (fun t => some (adr ω (i + 1 + t)))))))) := (cells_get hk.1).trans (by unfold cont contX; rw [hk.2]; rfl)
  have hlt : x.toNatClampNeg < 8 := Nat.not_le.mp fun q => hx (Or.inr q)
  exact W.aald (v := .ref (adr ω (i + 1 + x.toNatClampNeg))) (ty := .array .int) K.1 K.2.1 (hP i _ ha) ((K.2.2.2.2.2.1.2 5 (ω.2.2.2.1 5, .array .int) rfl).1 8 (fun j => va_rf (some (adr ω (i + 1 + j))))) rfl (fun q => by cases q) (by show ¬ (x < 0 ∨ (arrV _ _ _).slots.size ≤ _); rw [arrV_size]; exact hx) (by show (arrV _ _ _).slots[_]? = _; rw [arrV_read _ _ hlt]; rfl) rfl rfl hd (k ls H locs h hP hS)
theorem G_aname {st : List Value} {a b : Nat} (e : a = b) (k : G ω ρ M pc lv (.ref (adr ω b) :: st)) : G ω ρ M pc lv (.ref (adr ω a) :: st) := by rw [e]; exact k
end GR
end
section
/-- the room of a method of height d; its start: the memory is M -/
def rmD (d : Nat) : Room := { frames := d, cells := 0, slots := 0, locals := 36 * d }
def PreM (ω : WD) (M : Mem) (U : State) : Prop := va_P ω.2.2.1 vwCl (cellsOf ω M) U.heap ∧ va_K ω.2.2.1 vwCl (tysOf ω) U ∧ inj ω ∧ XW ω U
def BM (ω : WD) (M : Mem) (t : State) : Prop := va_P ω.2.2.1 vwCl (cellsOf ω M) t.heap
abbrev PcM (ω : WD) (args : List Value) (M : Mem) (sz : Nat) : Array Value → State → Prop := va_Pc args (fun U => U.heap.size = sz ∧ PreM ω M U)
/-- CONTRACTS: from the memory M, with these arguments, the method returns; its answer and the memory then satisfy post; nothing is made, no other cell changes -/
def MtI (ω : WD) (y : MethodName) (cc : ByteArray) (n : Nat) (ret : Option FieldType) (d : Nat) (args : List Value) (M : Mem) (post : Int32 → Mem → Prop) : Prop := ∀ sz : Nat, Met ω.1 y (.code y cc n ret :: TB) (rmD d) (PcM ω args M sz) (va_Qi post (BM ω) (gA ω sz)) 0 0 (gA ω sz)
def MtL (ω : WD) (y : MethodName) (cc : ByteArray) (n : Nat) (ret : Option FieldType) (d : Nat) (args : List Value) (M : Mem) (post : Int64 → Mem → Prop) : Prop := ∀ sz : Nat, Met ω.1 y (.code y cc n ret :: TB) (rmD d) (PcM ω args M sz) (va_Ql post (BM ω) (gA ω sz)) 0 0 (gA ω sz)
def MtV (ω : WD) (y : MethodName) (cc : ByteArray) (n : Nat) (ret : Option FieldType) (d : Nat) (args : List Value) (M : Mem) (post : Mem → Prop) : Prop := ∀ sz : Nat, Met ω.1 y (.code y cc n ret :: TB) (rmD d) (PcM ω args M sz) (va_Qv post (BM ω) (gA ω sz)) 0 0 (gA ω sz)
/-- how a frame may leave -/
def RtI (ω : WD) (ρ : FR) (cc : ByteArray) (ty : FieldType) (post : Int32 → Mem → Prop) : Prop := ∀ (pc : Nat) (M : Mem) (lv : List (Nat × Value)) (v : Int32), decode cc pc = .ok (.ireturn, 1) → narrow ty (.int v) = .int v → post v M → G ω ρ M pc lv [.int v]
def RtL (ω : WD) (ρ : FR) (cc : ByteArray) (post : Int64 → Mem → Prop) : Prop := ∀ (pc : Nat) (M : Mem) (lv : List (Nat × Value)) (v : Int64), decode cc pc = .ok (.lreturn, 1) → post v M → G ω ρ M pc lv [.long v]
def RtV (ω : WD) (ρ : FR) (cc : ByteArray) (post : Mem → Prop) : Prop := ∀ (pc : Nat) (M : Mem) (lv : List (Nat × Value)), decode cc pc = .ok (.return_, 1) → post M → G ω ρ M pc lv []

theorem MtI.start {ω : WD} {y : MethodName} {cc : ByteArray} {n : Nat} {ret : Option FieldType} {d : Nat} {args : List Value} {M : Mem} {post : Int32 → Mem → Prop} {own : String} {ty : FieldType} (hret : ret = some ty) (hy : plainName y.cls = true) (hown : y.cls = own) (hn : (lg_sl args).length ≤ n) (h : ∀ ρ : FR, Cx ω ρ cc own d n → RtI ω ρ cc ty post → G ω ρ M 0 (lv_args 0 args) []) : MtI ω y cc n ret d args M post := by
  intro sz
  refine Met.ofW (cc := cc) (maxL := n) (ret := ret) hy rfl ?_
  intro p e s m as below meth c s₁ B hml hv
  obtain ⟨rfl, hsz, hP, hK, hI, hX⟩ := hv
  have hts0 : ∀ w ∈ (Cond.code y cc n ret :: TB), w.before args.toArray s = true := atoms_spec (ws := .code y cc n ret :: TB) B.pre
  have hfc : s.vm.findClass own = some m.cls := by rw [← hown]; exact findClass_of_methodNamed B.named
  have hlocks := B.notSynchronized
  have hr := B.returns
  have hx := B.exec
  have hb := B.bytes
  subst hsz
  have k := h ((p, e, rmD d), (s, m, args.toArray, below), (meth, c, n), (0, 0), MQ below (va_Qi post (BM ω) (gA ω s.heap.size)) args.toArray s 0 0 (gA ω s.heap.size)) ⟨hx, hb, hml, hfc, fun w hw => hts0 w (List.mem_cons_of_mem _ hw), hK, hI, ⟨Nat.le_refl _, Nat.le_refl _⟩, ⟨Nat.zero_le _, Nat.zero_le _⟩, hX, rfl⟩ ?_
  · have hl := lv_entry args (n := n) hn
    rw [lg_entry_eq]
    exact k _ s.heap [] hl hP va_S.rf
  · intro pc M' lv v hd hnr hpost ls H locs h hP hS
    exact W.zret hx hb (hr.trans hret) hnr (fun t ht hW => ⟨⟨v, M', rfl, hpost, by unfold BM; rw [ht]; exact hP⟩, hS.F ht⟩) hS.2.2 hd hlocks
theorem MtL.start {ω : WD} {y : MethodName} {cc : ByteArray} {n : Nat} {ret : Option FieldType} {d : Nat} {args : List Value} {M : Mem} {post : Int64 → Mem → Prop} {own : String} (hret : ret = some .long) (hy : plainName y.cls = true) (hown : y.cls = own) (hn : (lg_sl args).length ≤ n) (h : ∀ ρ : FR, Cx ω ρ cc own d n → RtL ω ρ cc post → G ω ρ M 0 (lv_args 0 args) []) : MtL ω y cc n ret d args M post := by
  intro sz
  refine Met.ofW (cc := cc) (maxL := n) (ret := ret) hy rfl ?_
  intro p e s m as below meth c s₁ B hml hv
  obtain ⟨rfl, hsz, hP, hK, hI, hX⟩ := hv
  have hts0 : ∀ w ∈ (Cond.code y cc n ret :: TB), w.before args.toArray s = true := atoms_spec (ws := .code y cc n ret :: TB) B.pre
  have hfc : s.vm.findClass own = some m.cls := by rw [← hown]; exact findClass_of_methodNamed B.named
  have hlocks := B.notSynchronized
  have hr := B.returns
  have hx := B.exec
  have hb := B.bytes
  subst hsz
  have k := h ((p, e, rmD d), (s, m, args.toArray, below), (meth, c, n), (0, 0), MQ below (va_Ql post (BM ω) (gA ω s.heap.size)) args.toArray s 0 0 (gA ω s.heap.size)) ⟨hx, hb, hml, hfc, fun w hw => hts0 w (List.mem_cons_of_mem _ hw), hK, hI, ⟨Nat.le_refl _, Nat.le_refl _⟩, ⟨Nat.zero_le _, Nat.zero_le _⟩, hX, rfl⟩ ?_
  · have hl := lv_entry args (n := n) hn
    rw [lg_entry_eq]
    exact k _ s.heap [] hl hP va_S.rf
  · intro pc M' lv v hd hpost ls H locs h hP hS
    exact W.lret hx hb (hr.trans hret) (fun t ht hW => ⟨⟨v, M', rfl, hpost, by unfold BM; rw [ht]; exact hP⟩, hS.F ht⟩) hS.2.2 hd hlocks
theorem MtV.start {ω : WD} {y : MethodName} {cc : ByteArray} {n : Nat} {ret : Option FieldType} {d : Nat} {args : List Value} {M : Mem} {post : Mem → Prop} {own : String} (hret : ret = none) (hy : plainName y.cls = true) (hown : y.cls = own) (hn : (lg_sl args).length ≤ n) (h : ∀ ρ : FR, Cx ω ρ cc own d n → RtV ω ρ cc post → G ω ρ M 0 (lv_args 0 args) []) : MtV ω y cc n ret d args M post := by
  intro sz
  refine Met.ofW (cc := cc) (maxL := n) (ret := ret) hy rfl ?_
  intro p e s m as below meth c s₁ B hml hv
  obtain ⟨rfl, hsz, hP, hK, hI, hX⟩ := hv
  have hts0 : ∀ w ∈ (Cond.code y cc n ret :: TB), w.before args.toArray s = true := atoms_spec (ws := .code y cc n ret :: TB) B.pre
  have hfc : s.vm.findClass own = some m.cls := by rw [← hown]; exact findClass_of_methodNamed B.named
  have hlocks := B.notSynchronized
  have hr := B.returns
  have hx := B.exec
  have hb := B.bytes
  subst hsz
  have k := h ((p, e, rmD d), (s, m, args.toArray, below), (meth, c, n), (0, 0), MQ below (va_Qv post (BM ω) (gA ω s.heap.size)) args.toArray s 0 0 (gA ω s.heap.size)) ⟨hx, hb, hml, hfc, fun w hw => hts0 w (List.mem_cons_of_mem _ hw), hK, hI, ⟨Nat.le_refl _, Nat.le_refl _⟩, ⟨Nat.zero_le _, Nat.zero_le _⟩, hX, rfl⟩ ?_
  · have hl := lv_entry args (n := n) hn
    rw [lg_entry_eq]
    exact k _ s.heap [] hl hP va_S.rf
  · intro pc M' lv hd hpost ls H locs h hP hS
    exact W.vret hx hb (hr.trans hret) (fun t ht hW => ⟨⟨M', rfl, hpost, by unfold BM; rw [ht]; exact hP⟩, hS.F ht⟩) hS.2.2 hd hlocks

/-- what a call's instruction needs of the tables -/
def LkV (own : String) (idx : Nat) (C : String) (y : MethodName) (cc : ByteArray) (n : Nat) (ret : Option FieldType) (k : Nat) : Prop := (∀ w ∈ wsV own idx C y [Cond.code y cc n ret], w ∈ TB) ∧ (y.cls = C ∧ y.cls ≠ "java/lang/invoke/MethodHandle" ∧ y.cls ≠ "java/lang/invoke/VarHandle" ∧ (parseMethodDescriptor y.desc).map (fun d => d.parameters.length) = some k)
def LkS (own : String) (idx : Nat) (y : MethodName) (cc : ByteArray) (n : Nat) (ret : Option FieldType) (k : Nat) : Prop := (∀ w ∈ wsS own idx y [Cond.code y cc n ret], w ∈ TB) ∧ (y.cls = own ∧ y.cls ≠ "java/lang/invoke/MethodHandle" ∧ y.cls ≠ "java/lang/invoke/VarHandle" ∧ (parseMethodDescriptor y.desc).map (fun d => d.parameters.length) = some k)
theorem LkV.of {own : String} {idx : Nat} {C : String} {y : MethodName} {cc : ByteArray} {n : Nat} {ret : Option FieldType} {k : Nat} (a b c' d e : Nat) (h1 : lw_tbl[a]? = some (.methodLink own idx y)) (h2 : lw_tbl[b]? = some (.instanceMethod y)) (h3 : lw_tbl[c']? = some (.selects C y y)) (h4 : lw_tbl[d]? = some (.initialized C)) (h5 : lw_tbl[e]? = some (.code y cc n ret)) (h : y.cls = C ∧ y.cls ≠ "java/lang/invoke/MethodHandle" ∧ y.cls ≠ "java/lang/invoke/VarHandle" ∧ (parseMethodDescriptor y.desc).map (fun d => d.parameters.length) = some k) : LkV own idx C y cc n ret k := by
  refine ⟨fun w hw => ?_, h⟩
  simp only [wsV, List.cons_append, List.nil_append, List.mem_cons, List.not_mem_nil, or_false] at hw
  rcases hw with rfl | rfl | rfl | rfl | rfl
  · exact tb_of a ⟨h1, rfl⟩
  · exact tb_of b ⟨h2, rfl⟩
  · exact tb_of c' ⟨h3, rfl⟩
  · exact tb_of d ⟨h4, rfl⟩
  · exact tb_of e ⟨h5, rfl⟩
theorem LkS.of {own : String} {idx : Nat} {y : MethodName} {cc : ByteArray} {n : Nat} {ret : Option FieldType} {k : Nat} (a b d e : Nat) (h1 : lw_tbl[a]? = some (.methodLink own idx y)) (h2 : lw_tbl[b]? = some (.static y)) (h4 : lw_tbl[d]? = some (.initialized own)) (h5 : lw_tbl[e]? = some (.code y cc n ret)) (h : y.cls = own ∧ y.cls ≠ "java/lang/invoke/MethodHandle" ∧ y.cls ≠ "java/lang/invoke/VarHandle" ∧ (parseMethodDescriptor y.desc).map (fun d => d.parameters.length) = some k) : LkS own idx y cc n ret k := by
  refine ⟨fun w hw => ?_, h⟩
  simp only [wsS, List.cons_append, List.nil_append, List.mem_cons, List.not_mem_nil, or_false] at hw
  rcases hw with rfl | rfl | rfl | rfl
  · exact tb_of a ⟨h1, rfl⟩
  · exact tb_of b ⟨h2, rfl⟩
  · exact tb_of d ⟨h4, rfl⟩
  · exact tb_of e ⟨h5, rfl⟩
theorem lk_good {l1 : List Cond} {w0 : Cond} (h : ∀ w ∈ l1 ++ [w0], w ∈ TB) : GoodIn TB (l1 ++ (w0 :: TB)) := by
  intro w hw
  rcases List.mem_append.mp hw with h1 | h1
  · exact ⟨h w (List.mem_append_left _ h1), tb_good (h w (List.mem_append_left _ h1))⟩
  · rcases List.mem_cons.mp h1 with rfl | h2
    · exact ⟨h _ (List.mem_append_right _ (List.mem_singleton.mpr rfl)), tb_good (h _ (List.mem_append_right _ (List.mem_singleton.mpr rfl)))⟩
    · exact ⟨h2, tb_good h2⟩
theorem blindM {ω : WD} {args : List Value} {M : Mem} {sz : Nat} : FrameBlind (PcM ω args M sz) := fun a U g mk q => by
  obtain ⟨q0, q1, qP, qK, qI, qX⟩ := q
  exact ⟨q0, q1, qP, va_K.moved (u := U) (U := U.calling g mk a) (Vm.Alike.refl U.vm) qK, qI, qX.calling⟩
theorem gA_in {ω : WD} {a b q : Nat} (h : b ≤ a) (hq : gA ω a q) : gA ω b q := hq.elim Or.inl (fun k => Or.inr (Nat.le_trans h k))
section GC
variable {ω : WD} {ρ : FR} {M : Mem} {cc : ByteArray} {own : String} {d n pc idx n' d' i ci N : Nat} {lv : List (Nat × Value)} {As rest st : List Value} {C : String} {T : u_T} {y : MethodName} {bytes : ByteArray} {ret : Option FieldType}
theorem preM_of (K : Cx ω ρ cc own d n) {H : Heap} (hP : va_P ω.2.2.1 vwCl (cellsOf ω M) H) (U : State) (hU : U.heap = H) (hW : ρ.2.1.1.WarmedH U.vm) (args : List Value) : PcM ω args M H.size args.toArray U := by
  obtain ⟨-, -, -, -, -, hK, hI, -, -, hX, -⟩ := K
  exact ⟨rfl, by rw [hU], by unfold PreM; rw [hU]; exact ⟨hP, va_K.moved hW.alike hK, hI, hX.warm hW⟩⟩
theorem room_of (K : Cx ω ρ cc own d n) (h1 : d' + 1 ≤ d) (h2 : n' ≤ 17) : (rmD d').frames + 1 ≤ ρ.1.2.2.frames ∧ 8 + (n' + 11) + (rmD d').locals ≤ ρ.1.2.2.locals := by
  obtain ⟨-, -, -, -, -, -, -, ⟨h3, h4⟩, -, -, -⟩ := K
  refine ⟨Nat.le_trans h1 h3, ?_⟩
  show 8 + (n' + 11) + 36 * d' ≤ _
  omega
theorem runV (K : Cx ω ρ cc own d n) (hd : decode cc pc = .ok (.invokevirtual idx, 3)) (Lk : LkV own idx C y bytes n' ret As.length) (h1 : d' + 1 ≤ d) (h2 : n' ≤ 17) (hk : isK ci i) (hc : ci < 11) (hci : vwCl[ci]? = some (C, T, N)) (hcat : (rest.map fun v => v.category).sum ≤ 8) (hst : st = As.reverse ++ .ref (adr ω i) :: rest) {ls : Array Slot} {H : Heap} {locs : List Loc} (h : lv_has ls ρ.2.2.1.2.2 lv) (hP : va_P ω.2.2.1 vwCl (cellsOf ω M) H) {Qc : Array Value → State → Outcome → State → Prop} (hm : Met ω.1 y (.code y bytes n' ret :: TB) (rmD d') (PcM ω (.ref (adr ω i) :: As) M H.size) Qc 0 0 (gA ω H.size)) :
    va_Run ρ.1.1 ω.1 ρ.1.2.1 ρ.1.2.2 ρ.2.1.1 ρ.2.1.2.1 ρ.2.1.2.2.1 ρ.2.1.2.2.2 ρ.2.2.1.1 ρ.2.2.1.2.1 H locs ρ.2.2.2.1.1 ρ.2.2.2.1.2 0 0 (F0 ρ.2.1.2.1 pc ls st) rest (Qc (Value.ref (adr ω i) :: As).toArray) (gA ω H.size) :=
  va_runV (Ts := TB) ⟨K.1, K.2.1, K.2.2.1, K.2.2.2.1, K.2.2.2.2.1⟩ hm (cwV (ws := .code y bytes n' ret :: TB) As.length K.2.2.2.2.1 (lk_good Lk.1) rfl rfl rfl Lk.2 (room_of K h1 h2))
    ⟨blindM, va_recv K.2.2.2.2.2.1 hP hci ((cells_get hk.1).trans (by rw [cont_obj hk hc])), fun U hU hW => preM_of K hP U hU hW _⟩ rfl rfl (h.1.trans K.2.2.2.2.2.2.2.2.2.2) hst (lv_room hcat) hd ⟨K.2.2.2.2.2.2.2.2.1.1, K.2.2.2.2.2.2.2.2.1.2⟩
theorem runS (K : Cx ω ρ cc own d n) (hd : decode cc pc = .ok (.invokestatic idx, 3)) (Lk : LkS own idx y bytes n' ret As.length) (h1 : d' + 1 ≤ d) (h2 : n' ≤ 17) (hcat : (rest.map fun v => v.category).sum ≤ 8) (hst : st = As.reverse ++ rest) {ls : Array Slot} {H : Heap} {locs : List Loc} (h : lv_has ls ρ.2.2.1.2.2 lv) (hP : va_P ω.2.2.1 vwCl (cellsOf ω M) H) {Qc : Array Value → State → Outcome → State → Prop} (hm : Met ω.1 y (.code y bytes n' ret :: TB) (rmD d') (PcM ω As M H.size) Qc 0 0 (gA ω H.size)) :
    va_Run ρ.1.1 ω.1 ρ.1.2.1 ρ.1.2.2 ρ.2.1.1 ρ.2.1.2.1 ρ.2.1.2.2.1 ρ.2.1.2.2.2 ρ.2.2.1.1 ρ.2.2.1.2.1 H locs ρ.2.2.2.1.1 ρ.2.2.2.1.2 0 0 (F0 ρ.2.1.2.1 pc ls st) rest (Qc As.toArray) (gA ω H.size) :=
  va_runS (Ts := TB) ⟨K.1, K.2.1, K.2.2.1, K.2.2.2.1, K.2.2.2.2.1⟩ hm (cwS (ws := .code y bytes n' ret :: TB) As.length K.2.2.2.2.1 (lk_good Lk.1) rfl rfl rfl Lk.2 (room_of K h1 h2))
    ⟨blindM, fun U hU hW => preM_of K hP U hU hW _⟩ rfl rfl (h.1.trans K.2.2.2.2.2.2.2.2.2.2) hst (lv_room hcat) hd ⟨K.2.2.2.2.2.2.2.2.1.1, K.2.2.2.2.2.2.2.2.1.2⟩

theorem G_callI {post : Int32 → Mem → Prop} (K : Cx ω ρ cc own d n) (hd : decode cc pc = .ok (.invokevirtual idx, 3)) (Lk : LkV own idx C y bytes n' ret As.length) (h1 : d' + 1 ≤ d) (h2 : n' ≤ 17) (hk : isK ci i) (hc : ci < 11) (hci : vwCl[ci]? = some (C, T, N)) (hcat : (rest.map fun v => v.category).sum ≤ 8) (hst : st = As.reverse ++ .ref (adr ω i) :: rest) (hm : MtI ω y bytes n' ret d' (.ref (adr ω i) :: As) M post) (k : ∀ (r : Int32) (M' : Mem), post r M' → G ω ρ M' (pc + 3) lv (.int r :: rest)) : G ω ρ M pc lv st := fun ls H locs h hP hS =>
  va_calli (runV K hd Lk h1 h2 hk hc hci hcat hst h hP (hm H.size)) hS (fun q _ hq => gA_in hS.1 hq) (fun q hq => gA_in hS.1 hq) (fun r u t H1 locs1 ht _ hp hB _ _ hS1 => k r u hp ls H1 locs1 h (by rw [← ht]; exact hB) hS1)
theorem G_scallI {post : Int32 → Mem → Prop} (K : Cx ω ρ cc own d n) (hd : decode cc pc = .ok (.invokestatic idx, 3)) (Lk : LkS own idx y bytes n' ret As.length) (h1 : d' + 1 ≤ d) (h2 : n' ≤ 17) (hcat : (rest.map fun v => v.category).sum ≤ 8) (hst : st = As.reverse ++ rest) (hm : MtI ω y bytes n' ret d' As M post) (k : ∀ (r : Int32) (M' : Mem), post r M' → G ω ρ M' (pc + 3) lv (.int r :: rest)) : G ω ρ M pc lv st := fun ls H locs h hP hS =>
  va_calli (runS K hd Lk h1 h2 hcat hst h hP (hm H.size)) hS (fun q _ hq => gA_in hS.1 hq) (fun q hq => gA_in hS.1 hq) (fun r u t H1 locs1 ht _ hp hB _ _ hS1 => k r u hp ls H1 locs1 h (by rw [← ht]; exact hB) hS1)
theorem G_callL {post : Int64 → Mem → Prop} (K : Cx ω ρ cc own d n) (hd : decode cc pc = .ok (.invokevirtual idx, 3)) (Lk : LkV own idx C y bytes n' ret As.length) (h1 : d' + 1 ≤ d) (h2 : n' ≤ 17) (hk : isK ci i) (hc : ci < 11) (hci : vwCl[ci]? = some (C, T, N)) (hcat : (rest.map fun v => v.category).sum ≤ 8) (hst : st = As.reverse ++ .ref (adr ω i) :: rest) (hm : MtL ω y bytes n' ret d' (.ref (adr ω i) :: As) M post) (k : ∀ (r : Int64) (M' : Mem), post r M' → G ω ρ M' (pc + 3) lv (.long r :: rest)) : G ω ρ M pc lv st := fun ls H locs h hP hS =>
  va_calll (runV K hd Lk h1 h2 hk hc hci hcat hst h hP (hm H.size)) hS (fun q _ hq => gA_in hS.1 hq) (fun q hq => gA_in hS.1 hq) (fun r u t H1 locs1 ht _ hp hB _ _ hS1 => k r u hp ls H1 locs1 h (by rw [← ht]; exact hB) hS1)
theorem G_scallL {post : Int64 → Mem → Prop} (K : Cx ω ρ cc own d n) (hd : decode cc pc = .ok (.invokestatic idx, 3)) (Lk : LkS own idx y bytes n' ret As.length) (h1 : d' + 1 ≤ d) (h2 : n' ≤ 17) (hcat : (rest.map fun v => v.category).sum ≤ 8) (hst : st = As.reverse ++ rest) (hm : MtL ω y bytes n' ret d' As M post) (k : ∀ (r : Int64) (M' : Mem), post r M' → G ω ρ M' (pc + 3) lv (.long r :: rest)) : G ω ρ M pc lv st := fun ls H locs h hP hS =>
  va_calll (runS K hd Lk h1 h2 hcat hst h hP (hm H.size)) hS (fun q _ hq => gA_in hS.1 hq) (fun q hq => gA_in hS.1 hq) (fun r u t H1 locs1 ht _ hp hB _ _ hS1 => k r u hp ls H1 locs1 h (by rw [← ht]; exact hB) hS1)
theorem G_callV {post : Mem → Prop} (K : Cx ω ρ cc own d n) (hd : decode cc pc = .ok (.invokevirtual idx, 3)) (Lk : LkV own idx C y bytes n' ret As.length) (h1 : d' + 1 ≤ d) (h2 : n' ≤ 17) (hk : isK ci i) (hc : ci < 11) (hci : vwCl[ci]? = some (C, T, N)) (hcat : (rest.map fun v => v.category).sum ≤ 8) (hst : st = As.reverse ++ .ref (adr ω i) :: rest) (hm : MtV ω y bytes n' ret d' (.ref (adr ω i) :: As) M post) (k : ∀ M' : Mem, post M' → G ω ρ M' (pc + 3) lv rest) : G ω ρ M pc lv st := fun ls H locs h hP hS =>
  va_callv (runV K hd Lk h1 h2 hk hc hci hcat hst h hP (hm H.size)) hS (fun q _ hq => gA_in hS.1 hq) (fun q hq => gA_in hS.1 hq) (fun u t H1 locs1 ht _ hp hB _ _ hS1 => k u hp ls H1 locs1 h (by rw [← ht]; exact hB) hS1)
theorem G_scallV {post : Mem → Prop} (K : Cx ω ρ cc own d n) (hd : decode cc pc = .ok (.invokestatic idx, 3)) (Lk : LkS own idx y bytes n' ret As.length) (h1 : d' + 1 ≤ d) (h2 : n' ≤ 17) (hcat : (rest.map fun v => v.category).sum ≤ 8) (hst : st = As.reverse ++ rest) (hm : MtV ω y bytes n' ret d' As M post) (k : ∀ M' : Mem, post M' → G ω ρ M' (pc + 3) lv rest) : G ω ρ M pc lv st := fun ls H locs h hP hS =>
  va_callv (runS K hd Lk h1 h2 hcat hst h hP (hm H.size)) hS (fun q _ hq => gA_in hS.1 hq) (fun q hq => gA_in hS.1 hq) (fun u t H1 locs1 ht _ hp hB _ _ hS1 => k u hp ls H1 locs1 h (by rw [← ht]; exact hB) hS1)
end GC
end
