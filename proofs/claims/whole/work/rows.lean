section
-- ===== PART A: goes FIRST, ahead of the names: the tables' words, and 'selects' of the private methods out of them =====
/-- a private method of a class that the tables say can be made, by its rows of tables_1 -/
def lw_okq (q : MethodName × Nat) : Prop := (q.1.cls ≠ "java/lang/invoke/MethodHandle" ∧ q.1.cls ≠ "java/lang/invoke/VarHandle") ∧ Cond.instantiable q.1.cls q.2 ∈ tables_1 ∧ Cond.privateMethod q.1 ∈ tables_1 ∧ Cond.instanceMethod q.1 ∈ tables_1
theorem lw_p0 : lw_okq (⟨"StepCalls", "isWay", "(II)Z"⟩, 11) := ⟨⟨by decide +kernel, by decide +kernel⟩, List.mem_of_getElem? (i := 19) (by decide +kernel), List.mem_of_getElem? (i := 581) (by decide +kernel), List.mem_of_getElem? (i := 582) (by decide +kernel)⟩
theorem lw_p1 : lw_okq (⟨"StepCalls", "isAct", "(I)Z"⟩, 11) := ⟨⟨by decide +kernel, by decide +kernel⟩, List.mem_of_getElem? (i := 19) (by decide +kernel), List.mem_of_getElem? (i := 589) (by decide +kernel), List.mem_of_getElem? (i := 590) (by decide +kernel)⟩
theorem lw_p2 : lw_okq (⟨"StepCalls", "followAsIs", "()V"⟩, 11) := ⟨⟨by decide +kernel, by decide +kernel⟩, List.mem_of_getElem? (i := 19) (by decide +kernel), List.mem_of_getElem? (i := 669) (by decide +kernel), List.mem_of_getElem? (i := 670) (by decide +kernel)⟩
theorem lw_p3 : lw_okq (⟨"StepCalls", "followWithHunt", "(II)V"⟩, 11) := ⟨⟨by decide +kernel, by decide +kernel⟩, List.mem_of_getElem? (i := 19) (by decide +kernel), List.mem_of_getElem? (i := 722) (by decide +kernel), List.mem_of_getElem? (i := 723) (by decide +kernel)⟩
theorem lw_p4 : lw_okq (⟨"StepCalls", "followWithSwap", "(II)V"⟩, 11) := ⟨⟨by decide +kernel, by decide +kernel⟩, List.mem_of_getElem? (i := 19) (by decide +kernel), List.mem_of_getElem? (i := 738) (by decide +kernel), List.mem_of_getElem? (i := 739) (by decide +kernel)⟩
theorem lw_p5 : lw_okq (⟨"StepCalls", "weighed", "(III)J"⟩, 11) := ⟨⟨by decide +kernel, by decide +kernel⟩, List.mem_of_getElem? (i := 19) (by decide +kernel), List.mem_of_getElem? (i := 758) (by decide +kernel), List.mem_of_getElem? (i := 759) (by decide +kernel)⟩
theorem lw_p6 : lw_okq (⟨"StepCalls", "broughtBy", "(II)I"⟩, 11) := ⟨⟨by decide +kernel, by decide +kernel⟩, List.mem_of_getElem? (i := 19) (by decide +kernel), List.mem_of_getElem? (i := 775) (by decide +kernel), List.mem_of_getElem? (i := 776) (by decide +kernel)⟩
theorem lw_p7 : lw_okq (⟨"StepCalls", "followWithDead", "(II)V"⟩, 11) := ⟨⟨by decide +kernel, by decide +kernel⟩, List.mem_of_getElem? (i := 19) (by decide +kernel), List.mem_of_getElem? (i := 809) (by decide +kernel), List.mem_of_getElem? (i := 810) (by decide +kernel)⟩
theorem lw_p8 : lw_okq (⟨"StepCalls", "clearTally", "()V"⟩, 11) := ⟨⟨by decide +kernel, by decide +kernel⟩, List.mem_of_getElem? (i := 19) (by decide +kernel), List.mem_of_getElem? (i := 817) (by decide +kernel), List.mem_of_getElem? (i := 818) (by decide +kernel)⟩
theorem lw_p9 : lw_okq (⟨"StepCalls", "tallyFates", "()V"⟩, 11) := ⟨⟨by decide +kernel, by decide +kernel⟩, List.mem_of_getElem? (i := 19) (by decide +kernel), List.mem_of_getElem? (i := 821) (by decide +kernel), List.mem_of_getElem? (i := 822) (by decide +kernel)⟩
theorem lw_p10 : lw_okq (⟨"StepCalls", "mostTallied", "(I)I"⟩, 11) := ⟨⟨by decide +kernel, by decide +kernel⟩, List.mem_of_getElem? (i := 19) (by decide +kernel), List.mem_of_getElem? (i := 825) (by decide +kernel), List.mem_of_getElem? (i := 826) (by decide +kernel)⟩
theorem lw_p11 : lw_okq (⟨"StepCalls", "isRefused", "(II)Z"⟩, 11) := ⟨⟨by decide +kernel, by decide +kernel⟩, List.mem_of_getElem? (i := 19) (by decide +kernel), List.mem_of_getElem? (i := 877) (by decide +kernel), List.mem_of_getElem? (i := 878) (by decide +kernel)⟩
theorem lw_p12 : lw_okq (⟨"StepCalls", "countImages", "()I"⟩, 11) := ⟨⟨by decide +kernel, by decide +kernel⟩, List.mem_of_getElem? (i := 19) (by decide +kernel), List.mem_of_getElem? (i := 889) (by decide +kernel), List.mem_of_getElem? (i := 890) (by decide +kernel)⟩
theorem lw_p13 : lw_okq (⟨"StepCallsModel", "firstDraft", "()V"⟩, 28) := ⟨⟨by decide +kernel, by decide +kernel⟩, List.mem_of_getElem? (i := 902) (by decide +kernel), List.mem_of_getElem? (i := 908) (by decide +kernel), List.mem_of_getElem? (i := 909) (by decide +kernel)⟩
theorem lw_p14 : lw_okq (⟨"StepCallsModel", "keepDraft", "()V"⟩, 28) := ⟨⟨by decide +kernel, by decide +kernel⟩, List.mem_of_getElem? (i := 902) (by decide +kernel), List.mem_of_getElem? (i := 912) (by decide +kernel), List.mem_of_getElem? (i := 913) (by decide +kernel)⟩
theorem lw_p15 : lw_okq (⟨"StepCallsModel", "takes", "()V"⟩, 28) := ⟨⟨by decide +kernel, by decide +kernel⟩, List.mem_of_getElem? (i := 902) (by decide +kernel), List.mem_of_getElem? (i := 1018) (by decide +kernel), List.mem_of_getElem? (i := 1019) (by decide +kernel)⟩
def lw_privs_1 : List (MethodName × Nat) := [(⟨"StepCalls", "isWay", "(II)Z"⟩, 11), (⟨"StepCalls", "isAct", "(I)Z"⟩, 11), (⟨"StepCalls", "followAsIs", "()V"⟩, 11), (⟨"StepCalls", "followWithHunt", "(II)V"⟩, 11), (⟨"StepCalls", "followWithSwap", "(II)V"⟩, 11), (⟨"StepCalls", "weighed", "(III)J"⟩, 11), (⟨"StepCalls", "broughtBy", "(II)I"⟩, 11), (⟨"StepCalls", "followWithDead", "(II)V"⟩, 11), (⟨"StepCalls", "clearTally", "()V"⟩, 11), (⟨"StepCalls", "tallyFates", "()V"⟩, 11), (⟨"StepCalls", "mostTallied", "(I)I"⟩, 11), (⟨"StepCalls", "isRefused", "(II)Z"⟩, 11), (⟨"StepCalls", "countImages", "()I"⟩, 11), (⟨"StepCallsModel", "firstDraft", "()V"⟩, 28), (⟨"StepCallsModel", "keepDraft", "()V"⟩, 28), (⟨"StepCallsModel", "takes", "()V"⟩, 28)]
theorem lw_r1 : ∀ q ∈ lw_privs_1, lw_okq q := List.forall_mem_cons.mpr ⟨lw_p0, List.forall_mem_cons.mpr ⟨lw_p1, List.forall_mem_cons.mpr ⟨lw_p2, List.forall_mem_cons.mpr ⟨lw_p3, List.forall_mem_cons.mpr ⟨lw_p4, List.forall_mem_cons.mpr ⟨lw_p5, List.forall_mem_cons.mpr ⟨lw_p6, List.forall_mem_cons.mpr ⟨lw_p7, List.forall_mem_cons.mpr ⟨lw_p8, List.forall_mem_cons.mpr ⟨lw_p9, List.forall_mem_cons.mpr ⟨lw_p10, List.forall_mem_cons.mpr ⟨lw_p11, List.forall_mem_cons.mpr ⟨lw_p12, List.forall_mem_cons.mpr ⟨lw_p13, List.forall_mem_cons.mpr ⟨lw_p14, List.forall_mem_cons.mpr ⟨lw_p15, fun _ h => absurd h List.not_mem_nil⟩⟩⟩⟩⟩⟩⟩⟩⟩⟩⟩⟩⟩⟩⟩⟩
theorem lw_p16 : lw_okq (⟨"StepCallsModel", "byteAt", "(I)I"⟩, 28) := ⟨⟨by decide +kernel, by decide +kernel⟩, List.mem_of_getElem? (i := 902) (by decide +kernel), List.mem_of_getElem? (i := 1022) (by decide +kernel), List.mem_of_getElem? (i := 1023) (by decide +kernel)⟩
theorem lw_p17 : lw_okq (⟨"StepCallsModel", "needs", "(ZI)V"⟩, 28) := ⟨⟨by decide +kernel, by decide +kernel⟩, List.mem_of_getElem? (i := 902) (by decide +kernel), List.mem_of_getElem? (i := 1030) (by decide +kernel), List.mem_of_getElem? (i := 1031) (by decide +kernel)⟩
theorem lw_p18 : lw_okq (⟨"StepCallsModel", "readLine", "()V"⟩, 28) := ⟨⟨by decide +kernel, by decide +kernel⟩, List.mem_of_getElem? (i := 902) (by decide +kernel), List.mem_of_getElem? (i := 1034) (by decide +kernel), List.mem_of_getElem? (i := 1035) (by decide +kernel)⟩
theorem lw_p19 : lw_okq (⟨"StepCallsModel", "lineNow", "()I"⟩, 28) := ⟨⟨by decide +kernel, by decide +kernel⟩, List.mem_of_getElem? (i := 902) (by decide +kernel), List.mem_of_getElem? (i := 1038) (by decide +kernel), List.mem_of_getElem? (i := 1039) (by decide +kernel)⟩
theorem lw_p20 : lw_okq (⟨"StepCallsModel", "is", "(III)Z"⟩, 28) := ⟨⟨by decide +kernel, by decide +kernel⟩, List.mem_of_getElem? (i := 902) (by decide +kernel), List.mem_of_getElem? (i := 1042) (by decide +kernel), List.mem_of_getElem? (i := 1043) (by decide +kernel)⟩
theorem lw_p21 : lw_okq (⟨"StepCallsModel", "ends", "(II)Z"⟩, 28) := ⟨⟨by decide +kernel, by decide +kernel⟩, List.mem_of_getElem? (i := 902) (by decide +kernel), List.mem_of_getElem? (i := 1046) (by decide +kernel), List.mem_of_getElem? (i := 1047) (by decide +kernel)⟩
theorem lw_p22 : lw_okq (⟨"StepCallsModel", "goesOn", "(III)Z"⟩, 28) := ⟨⟨by decide +kernel, by decide +kernel⟩, List.mem_of_getElem? (i := 902) (by decide +kernel), List.mem_of_getElem? (i := 1050) (by decide +kernel), List.mem_of_getElem? (i := 1051) (by decide +kernel)⟩
theorem lw_p23 : lw_okq (⟨"StepCallsModel", "readLineOf", "(I)V"⟩, 28) := ⟨⟨by decide +kernel, by decide +kernel⟩, List.mem_of_getElem? (i := 902) (by decide +kernel), List.mem_of_getElem? (i := 1054) (by decide +kernel), List.mem_of_getElem? (i := 1055) (by decide +kernel)⟩
theorem lw_p24 : lw_okq (⟨"StepCallsModel", "readSubscriber", "()V"⟩, 28) := ⟨⟨by decide +kernel, by decide +kernel⟩, List.mem_of_getElem? (i := 902) (by decide +kernel), List.mem_of_getElem? (i := 1058) (by decide +kernel), List.mem_of_getElem? (i := 1059) (by decide +kernel)⟩
theorem lw_p25 : lw_okq (⟨"StepCallsModel", "looked", "(II)I"⟩, 28) := ⟨⟨by decide +kernel, by decide +kernel⟩, List.mem_of_getElem? (i := 902) (by decide +kernel), List.mem_of_getElem? (i := 1062) (by decide +kernel), List.mem_of_getElem? (i := 1063) (by decide +kernel)⟩
theorem lw_p26 : lw_okq (⟨"StepCallsModel", "readWorth", "(II)I"⟩, 28) := ⟨⟨by decide +kernel, by decide +kernel⟩, List.mem_of_getElem? (i := 902) (by decide +kernel), List.mem_of_getElem? (i := 1070) (by decide +kernel), List.mem_of_getElem? (i := 1071) (by decide +kernel)⟩
theorem lw_p27 : lw_okq (⟨"StepCallsModel", "readPlan", "()V"⟩, 28) := ⟨⟨by decide +kernel, by decide +kernel⟩, List.mem_of_getElem? (i := 902) (by decide +kernel), List.mem_of_getElem? (i := 1074) (by decide +kernel), List.mem_of_getElem? (i := 1075) (by decide +kernel)⟩
theorem lw_p28 : lw_okq (⟨"StepCallsModel", "readGroup", "(I)V"⟩, 28) := ⟨⟨by decide +kernel, by decide +kernel⟩, List.mem_of_getElem? (i := 902) (by decide +kernel), List.mem_of_getElem? (i := 1081) (by decide +kernel), List.mem_of_getElem? (i := 1082) (by decide +kernel)⟩
theorem lw_p29 : lw_okq (⟨"StepCallsModel", "starts", "()V"⟩, 28) := ⟨⟨by decide +kernel, by decide +kernel⟩, List.mem_of_getElem? (i := 902) (by decide +kernel), List.mem_of_getElem? (i := 1093) (by decide +kernel), List.mem_of_getElem? (i := 1094) (by decide +kernel)⟩
theorem lw_p30 : lw_okq (⟨"StepCallsModel", "of", "(II)I"⟩, 28) := ⟨⟨by decide +kernel, by decide +kernel⟩, List.mem_of_getElem? (i := 902) (by decide +kernel), List.mem_of_getElem? (i := 1097) (by decide +kernel), List.mem_of_getElem? (i := 1098) (by decide +kernel)⟩
theorem lw_p31 : lw_okq (⟨"StepCallsModel", "callsNow", "()I"⟩, 28) := ⟨⟨by decide +kernel, by decide +kernel⟩, List.mem_of_getElem? (i := 902) (by decide +kernel), List.mem_of_getElem? (i := 1104) (by decide +kernel), List.mem_of_getElem? (i := 1105) (by decide +kernel)⟩
def lw_privs_2 : List (MethodName × Nat) := [(⟨"StepCallsModel", "byteAt", "(I)I"⟩, 28), (⟨"StepCallsModel", "needs", "(ZI)V"⟩, 28), (⟨"StepCallsModel", "readLine", "()V"⟩, 28), (⟨"StepCallsModel", "lineNow", "()I"⟩, 28), (⟨"StepCallsModel", "is", "(III)Z"⟩, 28), (⟨"StepCallsModel", "ends", "(II)Z"⟩, 28), (⟨"StepCallsModel", "goesOn", "(III)Z"⟩, 28), (⟨"StepCallsModel", "readLineOf", "(I)V"⟩, 28), (⟨"StepCallsModel", "readSubscriber", "()V"⟩, 28), (⟨"StepCallsModel", "looked", "(II)I"⟩, 28), (⟨"StepCallsModel", "readWorth", "(II)I"⟩, 28), (⟨"StepCallsModel", "readPlan", "()V"⟩, 28), (⟨"StepCallsModel", "readGroup", "(I)V"⟩, 28), (⟨"StepCallsModel", "starts", "()V"⟩, 28), (⟨"StepCallsModel", "of", "(II)I"⟩, 28), (⟨"StepCallsModel", "callsNow", "()I"⟩, 28)]
theorem lw_r2 : ∀ q ∈ lw_privs_2, lw_okq q := List.forall_mem_cons.mpr ⟨lw_p16, List.forall_mem_cons.mpr ⟨lw_p17, List.forall_mem_cons.mpr ⟨lw_p18, List.forall_mem_cons.mpr ⟨lw_p19, List.forall_mem_cons.mpr ⟨lw_p20, List.forall_mem_cons.mpr ⟨lw_p21, List.forall_mem_cons.mpr ⟨lw_p22, List.forall_mem_cons.mpr ⟨lw_p23, List.forall_mem_cons.mpr ⟨lw_p24, List.forall_mem_cons.mpr ⟨lw_p25, List.forall_mem_cons.mpr ⟨lw_p26, List.forall_mem_cons.mpr ⟨lw_p27, List.forall_mem_cons.mpr ⟨lw_p28, List.forall_mem_cons.mpr ⟨lw_p29, List.forall_mem_cons.mpr ⟨lw_p30, List.forall_mem_cons.mpr ⟨lw_p31, fun _ h => absurd h List.not_mem_nil⟩⟩⟩⟩⟩⟩⟩⟩⟩⟩⟩⟩⟩⟩⟩⟩
theorem lw_p32 : lw_okq (⟨"StepCallsModel", "allUses", "()I"⟩, 28) := ⟨⟨by decide +kernel, by decide +kernel⟩, List.mem_of_getElem? (i := 902) (by decide +kernel), List.mem_of_getElem? (i := 1108) (by decide +kernel), List.mem_of_getElem? (i := 1109) (by decide +kernel)⟩
theorem lw_p33 : lw_okq (⟨"StepCallsModel", "isOne", "(I)Z"⟩, 28) := ⟨⟨by decide +kernel, by decide +kernel⟩, List.mem_of_getElem? (i := 902) (by decide +kernel), List.mem_of_getElem? (i := 1116) (by decide +kernel), List.mem_of_getElem? (i := 1117) (by decide +kernel)⟩
theorem lw_p34 : lw_okq (⟨"StepCallsModel", "ofGroup", "(II)I"⟩, 28) := ⟨⟨by decide +kernel, by decide +kernel⟩, List.mem_of_getElem? (i := 902) (by decide +kernel), List.mem_of_getElem? (i := 1128) (by decide +kernel), List.mem_of_getElem? (i := 1129) (by decide +kernel)⟩
theorem lw_p35 : lw_okq (⟨"StepCallsModel", "held", "(I)I"⟩, 28) := ⟨⟨by decide +kernel, by decide +kernel⟩, List.mem_of_getElem? (i := 902) (by decide +kernel), List.mem_of_getElem? (i := 1132) (by decide +kernel), List.mem_of_getElem? (i := 1133) (by decide +kernel)⟩
theorem lw_p36 : lw_okq (⟨"StepCallsModel", "taken", "(I)I"⟩, 28) := ⟨⟨by decide +kernel, by decide +kernel⟩, List.mem_of_getElem? (i := 902) (by decide +kernel), List.mem_of_getElem? (i := 1136) (by decide +kernel), List.mem_of_getElem? (i := 1137) (by decide +kernel)⟩
theorem lw_p37 : lw_okq (⟨"StepCallsModel", "usesOf", "(II)I"⟩, 28) := ⟨⟨by decide +kernel, by decide +kernel⟩, List.mem_of_getElem? (i := 902) (by decide +kernel), List.mem_of_getElem? (i := 1140) (by decide +kernel), List.mem_of_getElem? (i := 1141) (by decide +kernel)⟩
theorem lw_p38 : lw_okq (⟨"StepCallsModel", "isWay", "(II)Z"⟩, 28) := ⟨⟨by decide +kernel, by decide +kernel⟩, List.mem_of_getElem? (i := 902) (by decide +kernel), List.mem_of_getElem? (i := 1148) (by decide +kernel), List.mem_of_getElem? (i := 1149) (by decide +kernel)⟩
theorem lw_p39 : lw_okq (⟨"StepCallsModel", "whoHas", "(I)I"⟩, 28) := ⟨⟨by decide +kernel, by decide +kernel⟩, List.mem_of_getElem? (i := 902) (by decide +kernel), List.mem_of_getElem? (i := 1163) (by decide +kernel), List.mem_of_getElem? (i := 1164) (by decide +kernel)⟩
theorem lw_p40 : lw_okq (⟨"StepCallsModel", "becomes", "(II)I"⟩, 28) := ⟨⟨by decide +kernel, by decide +kernel⟩, List.mem_of_getElem? (i := 902) (by decide +kernel), List.mem_of_getElem? (i := 1167) (by decide +kernel), List.mem_of_getElem? (i := 1168) (by decide +kernel)⟩
theorem lw_p41 : lw_okq (⟨"StepCallsModel", "hasWays", "(II)V"⟩, 28) := ⟨⟨by decide +kernel, by decide +kernel⟩, List.mem_of_getElem? (i := 902) (by decide +kernel), List.mem_of_getElem? (i := 1184) (by decide +kernel), List.mem_of_getElem? (i := 1185) (by decide +kernel)⟩
theorem lw_p42 : lw_okq (⟨"StepCallsModel", "becomesOfGroup", "(III)V"⟩, 28) := ⟨⟨by decide +kernel, by decide +kernel⟩, List.mem_of_getElem? (i := 902) (by decide +kernel), List.mem_of_getElem? (i := 1188) (by decide +kernel), List.mem_of_getElem? (i := 1189) (by decide +kernel)⟩
theorem lw_p43 : lw_okq (⟨"StepCallsModel", "settles", "()V"⟩, 28) := ⟨⟨by decide +kernel, by decide +kernel⟩, List.mem_of_getElem? (i := 902) (by decide +kernel), List.mem_of_getElem? (i := 1192) (by decide +kernel), List.mem_of_getElem? (i := 1193) (by decide +kernel)⟩
theorem lw_p44 : lw_okq (⟨"StepCallsModel", "dials", "(II)I"⟩, 28) := ⟨⟨by decide +kernel, by decide +kernel⟩, List.mem_of_getElem? (i := 902) (by decide +kernel), List.mem_of_getElem? (i := 1212) (by decide +kernel), List.mem_of_getElem? (i := 1213) (by decide +kernel)⟩
theorem lw_p45 : lw_okq (⟨"StepCallsModel", "connects", "(III)V"⟩, 28) := ⟨⟨by decide +kernel, by decide +kernel⟩, List.mem_of_getElem? (i := 902) (by decide +kernel), List.mem_of_getElem? (i := 1216) (by decide +kernel), List.mem_of_getElem? (i := 1217) (by decide +kernel)⟩
theorem lw_p46 : lw_okq (⟨"StepCallsModel", "becomesOf", "(III)V"⟩, 28) := ⟨⟨by decide +kernel, by decide +kernel⟩, List.mem_of_getElem? (i := 902) (by decide +kernel), List.mem_of_getElem? (i := 1220) (by decide +kernel), List.mem_of_getElem? (i := 1221) (by decide +kernel)⟩
theorem lw_p47 : lw_okq (⟨"StepCallsModel", "hangsUp", "(I)V"⟩, 28) := ⟨⟨by decide +kernel, by decide +kernel⟩, List.mem_of_getElem? (i := 902) (by decide +kernel), List.mem_of_getElem? (i := 1228) (by decide +kernel), List.mem_of_getElem? (i := 1229) (by decide +kernel)⟩
def lw_privs_3 : List (MethodName × Nat) := [(⟨"StepCallsModel", "allUses", "()I"⟩, 28), (⟨"StepCallsModel", "isOne", "(I)Z"⟩, 28), (⟨"StepCallsModel", "ofGroup", "(II)I"⟩, 28), (⟨"StepCallsModel", "held", "(I)I"⟩, 28), (⟨"StepCallsModel", "taken", "(I)I"⟩, 28), (⟨"StepCallsModel", "usesOf", "(II)I"⟩, 28), (⟨"StepCallsModel", "isWay", "(II)Z"⟩, 28), (⟨"StepCallsModel", "whoHas", "(I)I"⟩, 28), (⟨"StepCallsModel", "becomes", "(II)I"⟩, 28), (⟨"StepCallsModel", "hasWays", "(II)V"⟩, 28), (⟨"StepCallsModel", "becomesOfGroup", "(III)V"⟩, 28), (⟨"StepCallsModel", "settles", "()V"⟩, 28), (⟨"StepCallsModel", "dials", "(II)I"⟩, 28), (⟨"StepCallsModel", "connects", "(III)V"⟩, 28), (⟨"StepCallsModel", "becomesOf", "(III)V"⟩, 28), (⟨"StepCallsModel", "hangsUp", "(I)V"⟩, 28)]
theorem lw_r3 : ∀ q ∈ lw_privs_3, lw_okq q := List.forall_mem_cons.mpr ⟨lw_p32, List.forall_mem_cons.mpr ⟨lw_p33, List.forall_mem_cons.mpr ⟨lw_p34, List.forall_mem_cons.mpr ⟨lw_p35, List.forall_mem_cons.mpr ⟨lw_p36, List.forall_mem_cons.mpr ⟨lw_p37, List.forall_mem_cons.mpr ⟨lw_p38, List.forall_mem_cons.mpr ⟨lw_p39, List.forall_mem_cons.mpr ⟨lw_p40, List.forall_mem_cons.mpr ⟨lw_p41, List.forall_mem_cons.mpr ⟨lw_p42, List.forall_mem_cons.mpr ⟨lw_p43, List.forall_mem_cons.mpr ⟨lw_p44, List.forall_mem_cons.mpr ⟨lw_p45, List.forall_mem_cons.mpr ⟨lw_p46, List.forall_mem_cons.mpr ⟨lw_p47, fun _ h => absurd h List.not_mem_nil⟩⟩⟩⟩⟩⟩⟩⟩⟩⟩⟩⟩⟩⟩⟩⟩
theorem lw_p48 : lw_okq (⟨"StepCallsModel", "leaves", "(I)V"⟩, 28) := ⟨⟨by decide +kernel, by decide +kernel⟩, List.mem_of_getElem? (i := 902) (by decide +kernel), List.mem_of_getElem? (i := 1232) (by decide +kernel), List.mem_of_getElem? (i := 1233) (by decide +kernel)⟩
theorem lw_p49 : lw_okq (⟨"StepCallsModel", "planGoes", "(I)V"⟩, 28) := ⟨⟨by decide +kernel, by decide +kernel⟩, List.mem_of_getElem? (i := 902) (by decide +kernel), List.mem_of_getElem? (i := 1240) (by decide +kernel), List.mem_of_getElem? (i := 1241) (by decide +kernel)⟩
theorem lw_p50 : lw_okq (⟨"StepCallsModel", "acts", "(II)I"⟩, 28) := ⟨⟨by decide +kernel, by decide +kernel⟩, List.mem_of_getElem? (i := 902) (by decide +kernel), List.mem_of_getElem? (i := 1244) (by decide +kernel), List.mem_of_getElem? (i := 1245) (by decide +kernel)⟩
theorem lw_p51 : lw_okq (⟨"StepCallsModel", "lostMany", "()I"⟩, 28) := ⟨⟨by decide +kernel, by decide +kernel⟩, List.mem_of_getElem? (i := 902) (by decide +kernel), List.mem_of_getElem? (i := 1252) (by decide +kernel), List.mem_of_getElem? (i := 1253) (by decide +kernel)⟩
theorem lw_p52 : lw_okq (⟨"StepCallsModel", "isLostBy", "(II)Z"⟩, 28) := ⟨⟨by decide +kernel, by decide +kernel⟩, List.mem_of_getElem? (i := 902) (by decide +kernel), List.mem_of_getElem? (i := 1268) (by decide +kernel), List.mem_of_getElem? (i := 1269) (by decide +kernel)⟩
theorem lw_p53 : lw_okq (⟨"StepCallsModel", "startsJudging", "()V"⟩, 28) := ⟨⟨by decide +kernel, by decide +kernel⟩, List.mem_of_getElem? (i := 902) (by decide +kernel), List.mem_of_getElem? (i := 1280) (by decide +kernel), List.mem_of_getElem? (i := 1281) (by decide +kernel)⟩
theorem lw_p54 : lw_okq (⟨"StepCallsModel", "judges", "(II)V"⟩, 28) := ⟨⟨by decide +kernel, by decide +kernel⟩, List.mem_of_getElem? (i := 902) (by decide +kernel), List.mem_of_getElem? (i := 1284) (by decide +kernel), List.mem_of_getElem? (i := 1285) (by decide +kernel)⟩
theorem lw_p55 : lw_okq (⟨"StepCallsModel", "judged", "(I)I"⟩, 28) := ⟨⟨by decide +kernel, by decide +kernel⟩, List.mem_of_getElem? (i := 902) (by decide +kernel), List.mem_of_getElem? (i := 1288) (by decide +kernel), List.mem_of_getElem? (i := 1289) (by decide +kernel)⟩
theorem lw_p56 : lw_okq (⟨"StepCallsModel", "findOdds", "(III)V"⟩, 28) := ⟨⟨by decide +kernel, by decide +kernel⟩, List.mem_of_getElem? (i := 902) (by decide +kernel), List.mem_of_getElem? (i := 1310) (by decide +kernel), List.mem_of_getElem? (i := 1311) (by decide +kernel)⟩
theorem lw_p57 : lw_okq (⟨"StepCallsModel", "isSoWith", "(III)Z"⟩, 28) := ⟨⟨by decide +kernel, by decide +kernel⟩, List.mem_of_getElem? (i := 902) (by decide +kernel), List.mem_of_getElem? (i := 1337) (by decide +kernel), List.mem_of_getElem? (i := 1338) (by decide +kernel)⟩
theorem lw_p58 : lw_okq (⟨"StepCallsModel", "setsOf", "(I)I"⟩, 28) := ⟨⟨by decide +kernel, by decide +kernel⟩, List.mem_of_getElem? (i := 902) (by decide +kernel), List.mem_of_getElem? (i := 1345) (by decide +kernel), List.mem_of_getElem? (i := 1346) (by decide +kernel)⟩
theorem lw_p59 : lw_okq (⟨"StepCallsModel", "copies", "(II)V"⟩, 28) := ⟨⟨by decide +kernel, by decide +kernel⟩, List.mem_of_getElem? (i := 902) (by decide +kernel), List.mem_of_getElem? (i := 1363) (by decide +kernel), List.mem_of_getElem? (i := 1364) (by decide +kernel)⟩
def lw_privs_4 : List (MethodName × Nat) := [(⟨"StepCallsModel", "leaves", "(I)V"⟩, 28), (⟨"StepCallsModel", "planGoes", "(I)V"⟩, 28), (⟨"StepCallsModel", "acts", "(II)I"⟩, 28), (⟨"StepCallsModel", "lostMany", "()I"⟩, 28), (⟨"StepCallsModel", "isLostBy", "(II)Z"⟩, 28), (⟨"StepCallsModel", "startsJudging", "()V"⟩, 28), (⟨"StepCallsModel", "judges", "(II)V"⟩, 28), (⟨"StepCallsModel", "judged", "(I)I"⟩, 28), (⟨"StepCallsModel", "findOdds", "(III)V"⟩, 28), (⟨"StepCallsModel", "isSoWith", "(III)Z"⟩, 28), (⟨"StepCallsModel", "setsOf", "(I)I"⟩, 28), (⟨"StepCallsModel", "copies", "(II)V"⟩, 28)]
theorem lw_r4 : ∀ q ∈ lw_privs_4, lw_okq q := List.forall_mem_cons.mpr ⟨lw_p48, List.forall_mem_cons.mpr ⟨lw_p49, List.forall_mem_cons.mpr ⟨lw_p50, List.forall_mem_cons.mpr ⟨lw_p51, List.forall_mem_cons.mpr ⟨lw_p52, List.forall_mem_cons.mpr ⟨lw_p53, List.forall_mem_cons.mpr ⟨lw_p54, List.forall_mem_cons.mpr ⟨lw_p55, List.forall_mem_cons.mpr ⟨lw_p56, List.forall_mem_cons.mpr ⟨lw_p57, List.forall_mem_cons.mpr ⟨lw_p58, List.forall_mem_cons.mpr ⟨lw_p59, fun _ h => absurd h List.not_mem_nil⟩⟩⟩⟩⟩⟩⟩⟩⟩⟩⟩⟩
def lw_privs : List (MethodName × Nat) := lw_privs_1 ++ (lw_privs_2 ++ (lw_privs_3 ++ (lw_privs_4)))
def lw_tbl : List Cond := k2_sels lw_privs ++ tables_1
theorem lw_privs_ok : ∀ q ∈ lw_privs, lw_okq q := by
  show ∀ q ∈ lw_privs_1 ++ (lw_privs_2 ++ (lw_privs_3 ++ (lw_privs_4))), lw_okq q
  exact List.forall_mem_append.mpr ⟨lw_r1, List.forall_mem_append.mpr ⟨lw_r2, List.forall_mem_append.mpr ⟨lw_r3, lw_r4⟩⟩⟩
def RX0 : String := "StepCalls$Best"
def TX0 : u_T := fun k => match k with
  | 0 => ("StepCalls$Best", "which", "I", false)
  | _ => ("StepCalls$Best", "least", "I", false)
def tyX0 : Nat → FieldType := fun k => match k with
  | 0 => .int
  | _ => .int
theorem nmX0 : ∀ a, a < 2 → ∀ b, b < 2 → a ≠ b → (TX0 a).2.1 ≠ (TX0 b).2.1 := by decide +kernel
theorem tyX0_ok : ∀ k, k < 2 → parseFieldDescriptor (TX0 k).2.2.1 = some (tyX0 k) := by decide +kernel
abbrev cX0_init : ByteArray := prog_2_method_1_code
def yX0_init : MethodName := ⟨RX0, "<init>", "()V"⟩
abbrev cX0_begin : ByteArray := prog_2_method_2_code
def yX0_begin : MethodName := ⟨RX0, "begin", "(I)V"⟩
abbrev cX0_offer : ByteArray := prog_2_method_3_code
def yX0_offer : MethodName := ⟨RX0, "offer", "(II)V"⟩
abbrev cX0_told : ByteArray := prog_2_method_4_code
def yX0_told : MethodName := ⟨RX0, "told", "(I)I"⟩
def RX1 : String := "StepCalls$Exchange"
def TX1 : u_T := fun k => match k with
  | 0 => ("StepCalls$Exchange", "ones", "I", false)
  | 1 => ("StepCalls$Exchange", "finders", "I", false)
  | 2 => ("StepCalls$Exchange", "calls", "I", false)
  | 3 => ("StepCalls$Exchange", "numbers", "[I", true)
  | 4 => ("StepCalls$Exchange", "partners", "[I", true)
  | 5 => ("StepCalls$Exchange", "roles", "[I", true)
  | 6 => ("StepCalls$Exchange", "holds", "[I", true)
  | _ => ("StepCalls$Exchange", "groups", "[LStepCalls$Group;", true)
def tyX1 : Nat → FieldType := fun k => match k with
  | 0 => .int
  | 1 => .int
  | 2 => .int
  | 3 => .array .int
  | 4 => .array .int
  | 5 => .array .int
  | 6 => .array .int
  | _ => .array (.object "StepCalls$Group")
theorem nmX1 : ∀ a, a < 8 → ∀ b, b < 8 → a ≠ b → (TX1 a).2.1 ≠ (TX1 b).2.1 := by decide +kernel
theorem tyX1_ok : ∀ k, k < 8 → parseFieldDescriptor (TX1 k).2.2.1 = some (tyX1 k) := by decide +kernel
abbrev cX1_init : ByteArray := prog_3_method_1_code
def yX1_init : MethodName := ⟨RX1, "<init>", "()V"⟩
abbrev cX1_clear : ByteArray := prog_3_method_2_code
def yX1_clear : MethodName := ⟨RX1, "clear", "()V"⟩
abbrev cX1_copyFrom : ByteArray := prog_3_method_3_code
def yX1_copyFrom : MethodName := ⟨RX1, "copyFrom", "(LStepCalls$Exchange;)V"⟩
abbrev cX1_has : ByteArray := prog_3_method_4_code
def yX1_has : MethodName := ⟨RX1, "has", "(I)Z"⟩
abbrev cX1_addOne : ByteArray := prog_3_method_5_code
def yX1_addOne : MethodName := ⟨RX1, "addOne", "(I)V"⟩
abbrev cX1_owner : ByteArray := prog_3_method_6_code
def yX1_owner : MethodName := ⟨RX1, "owner", "(I)I"⟩
abbrev cX1_ring : ByteArray := prog_3_method_7_code
def yX1_ring : MethodName := ⟨RX1, "ring", "(II)I"⟩
abbrev cX1_join : ByteArray := prog_3_method_8_code
def yX1_join : MethodName := ⟨RX1, "join", "(III)V"⟩
abbrev cX1_part : ByteArray := prog_3_method_9_code
def yX1_part : MethodName := ⟨RX1, "part", "(I)I"⟩
abbrev cX1_release : ByteArray := prog_3_method_10_code
def yX1_release : MethodName := ⟨RX1, "release", "(I)V"⟩
abbrev cX1_inCalls : ByteArray := prog_3_method_11_code
def yX1_inCalls : MethodName := ⟨RX1, "inCalls", "()I"⟩
abbrev cX1_allUses : ByteArray := prog_3_method_12_code
def yX1_allUses : MethodName := ⟨RX1, "allUses", "()I"⟩
abbrev cX1_allWays : ByteArray := prog_3_method_13_code
def yX1_allWays : MethodName := ⟨RX1, "allWays", "()I"⟩
abbrev cX1_allDead : ByteArray := prog_3_method_14_code
def yX1_allDead : MethodName := ⟨RX1, "allDead", "()I"⟩
def RX2 : String := "StepCalls$Group"
def TX2 : u_T := fun k => match k with
  | 0 => ("StepCalls$Group", "kind", "I", false)
  | 1 => ("StepCalls$Group", "size", "I", false)
  | 2 => ("StepCalls$Group", "deadSet", "I", false)
  | 3 => ("StepCalls$Group", "heldSet", "I", false)
  | 4 => ("StepCalls$Group", "latest", "I", false)
  | _ => ("StepCalls$Group", "used", "[I", true)
def tyX2 : Nat → FieldType := fun k => match k with
  | 0 => .int
  | 1 => .int
  | 2 => .int
  | 3 => .int
  | 4 => .int
  | _ => .array .int
theorem nmX2 : ∀ a, a < 6 → ∀ b, b < 6 → a ≠ b → (TX2 a).2.1 ≠ (TX2 b).2.1 := by decide +kernel
theorem tyX2_ok : ∀ k, k < 6 → parseFieldDescriptor (TX2 k).2.2.1 = some (tyX2 k) := by decide +kernel
abbrev cX2_init : ByteArray := prog_4_method_1_code
def yX2_init : MethodName := ⟨RX2, "<init>", "()V"⟩
abbrev cX2_clear : ByteArray := prog_4_method_2_code
def yX2_clear : MethodName := ⟨RX2, "clear", "()V"⟩
abbrev cX2_copyFrom : ByteArray := prog_4_method_3_code
def yX2_copyFrom : MethodName := ⟨RX2, "copyFrom", "(LStepCalls$Group;)V"⟩
abbrev cX2_isFreeFrom : ByteArray := prog_4_method_4_code
def yX2_isFreeFrom : MethodName := ⟨RX2, "isFreeFrom", "(I)Z"⟩
abbrev cX2_resize : ByteArray := prog_4_method_5_code
def yX2_resize : MethodName := ⟨RX2, "resize", "(I)V"⟩
abbrev cX2_isDead : ByteArray := prog_4_method_6_code
def yX2_isDead : MethodName := ⟨RX2, "isDead", "(I)Z"⟩
abbrev cX2_isFree : ByteArray := prog_4_method_7_code
def yX2_isFree : MethodName := ⟨RX2, "isFree", "(I)Z"⟩
abbrev cX2_pick : ByteArray := prog_4_method_8_code
def yX2_pick : MethodName := ⟨RX2, "pick", "()I"⟩
abbrev cX2_inTurn : ByteArray := prog_4_method_9_code
def yX2_inTurn : MethodName := ⟨RX2, "inTurn", "(I)I"⟩
def RX3 : String := "StepCalls$Image"
def TX3 : u_T := fun k => match k with
  | 0 => ("StepCalls$Image", "there", "Z", false)
  | 1 => ("StepCalls$Image", "exchange", "LStepCalls$Exchange;", true)
  | _ => ("StepCalls$Image", "script", "LStepCalls$Script;", true)
def tyX3 : Nat → FieldType := fun k => match k with
  | 0 => .boolean
  | 1 => .object "StepCalls$Exchange"
  | _ => .object "StepCalls$Script"
theorem nmX3 : ∀ a, a < 3 → ∀ b, b < 3 → a ≠ b → (TX3 a).2.1 ≠ (TX3 b).2.1 := by decide +kernel
theorem tyX3_ok : ∀ k, k < 3 → parseFieldDescriptor (TX3 k).2.2.1 = some (tyX3 k) := by decide +kernel
abbrev cX3_init : ByteArray := prog_5_method_1_code
def yX3_init : MethodName := ⟨RX3, "<init>", "()V"⟩
def RX4 : String := "StepCalls$Reader"
def TX4 : u_T := fun k => match k with
  | 0 => ("StepCalls$Reader", "tape", "LStepCalls$Tape;", true)
  | 1 => ("StepCalls$Reader", "exchange", "LStepCalls$Exchange;", true)
  | 2 => ("StepCalls$Reader", "script", "LStepCalls$Script;", true)
  | 3 => ("StepCalls$Reader", "lines", "I", false)
  | 4 => ("StepCalls$Reader", "fault", "I", false)
  | 5 => ("StepCalls$Reader", "place", "I", false)
  | 6 => ("StepCalls$Reader", "findersTold", "Z", false)
  | 7 => ("StepCalls$Reader", "planTold", "Z", false)
  | _ => ("StepCalls$Reader", "groupsTold", "I", false)
def tyX4 : Nat → FieldType := fun k => match k with
  | 0 => .object "StepCalls$Tape"
  | 1 => .object "StepCalls$Exchange"
  | 2 => .object "StepCalls$Script"
  | 3 => .int
  | 4 => .int
  | 5 => .int
  | 6 => .boolean
  | 7 => .boolean
  | _ => .int
theorem nmX4 : ∀ a, a < 9 → ∀ b, b < 9 → a ≠ b → (TX4 a).2.1 ≠ (TX4 b).2.1 := by decide +kernel
theorem tyX4_ok : ∀ k, k < 9 → parseFieldDescriptor (TX4 k).2.2.1 = some (tyX4 k) := by decide +kernel
abbrev cX4_init : ByteArray := prog_6_method_1_code
def yX4_init : MethodName := ⟨RX4, "<init>", "(LStepCalls$Tape;)V"⟩
abbrev cX4_readAll : ByteArray := prog_6_method_2_code
def yX4_readAll : MethodName := ⟨RX4, "readAll", "()Z"⟩
abbrev cX4_begin : ByteArray := prog_6_method_3_code
def yX4_begin : MethodName := ⟨RX4, "begin", "()V"⟩
abbrev cX4_wrong : ByteArray := prog_6_method_4_code
def yX4_wrong : MethodName := ⟨RX4, "wrong", "(I)Z"⟩
abbrev cX4_stands : ByteArray := prog_6_method_5_code
def yX4_stands : MethodName := ⟨RX4, "stands", "(I)Z"⟩
abbrev cX4_takes : ByteArray := prog_6_method_6_code
def yX4_takes : MethodName := ⟨RX4, "takes", "(I)Z"⟩
abbrev cX4_takesNumber : ByteArray := prog_6_method_7_code
def yX4_takesNumber : MethodName := ⟨RX4, "takesNumber", "(II)Z"⟩
abbrev cX4_readLine : ByteArray := prog_6_method_8_code
def yX4_readLine : MethodName := ⟨RX4, "readLine", "()Z"⟩
abbrev cX4_readOne : ByteArray := prog_6_method_9_code
def yX4_readOne : MethodName := ⟨RX4, "readOne", "()Z"⟩
abbrev cX4_readFinders : ByteArray := prog_6_method_10_code
def yX4_readFinders : MethodName := ⟨RX4, "readFinders", "()Z"⟩
abbrev cX4_readGroup : ByteArray := prog_6_method_11_code
def yX4_readGroup : MethodName := ⟨RX4, "readGroup", "(I)Z"⟩
abbrev cX4_readPlan : ByteArray := prog_6_method_12_code
def yX4_readPlan : MethodName := ⟨RX4, "readPlan", "()Z"⟩
abbrev cX4_hasAllOnes : ByteArray := prog_6_method_13_code
def yX4_hasAllOnes : MethodName := ⟨RX4, "hasAllOnes", "()Z"⟩
def RX5 : String := "StepCalls$Script"
def TX5 : u_T := fun k => match k with
  | 0 => ("StepCalls$Script", "acts", "I", false)
  | 1 => ("StepCalls$Script", "seen", "I", false)
  | 2 => ("StepCalls$Script", "who", "[I", true)
  | 3 => ("StepCalls$Script", "dialled", "[I", true)
  | 4 => ("StepCalls$Script", "seenActs", "[I", true)
  | _ => ("StepCalls$Script", "seenFates", "[I", true)
def tyX5 : Nat → FieldType := fun k => match k with
  | 0 => .int
  | 1 => .int
  | 2 => .array .int
  | 3 => .array .int
  | 4 => .array .int
  | _ => .array .int
theorem nmX5 : ∀ a, a < 6 → ∀ b, b < 6 → a ≠ b → (TX5 a).2.1 ≠ (TX5 b).2.1 := by decide +kernel
theorem tyX5_ok : ∀ k, k < 6 → parseFieldDescriptor (TX5 k).2.2.1 = some (tyX5 k) := by decide +kernel
abbrev cX5_init : ByteArray := prog_7_method_1_code
def yX5_init : MethodName := ⟨RX5, "<init>", "()V"⟩
abbrev cX5_clear : ByteArray := prog_7_method_2_code
def yX5_clear : MethodName := ⟨RX5, "clear", "()V"⟩
abbrev cX5_copyFrom : ByteArray := prog_7_method_3_code
def yX5_copyFrom : MethodName := ⟨RX5, "copyFrom", "(LStepCalls$Script;)V"⟩
abbrev cX5_addAct : ByteArray := prog_7_method_4_code
def yX5_addAct : MethodName := ⟨RX5, "addAct", "(II)V"⟩
abbrev cX5_dials : ByteArray := prog_7_method_5_code
def yX5_dials : MethodName := ⟨RX5, "dials", "()I"⟩
def RX6 : String := "StepCalls$Sheet"
def TX6 : u_T := fun k => match k with
  | 0 => ("StepCalls$Sheet", "lane", "I", false)
  | 1 => ("StepCalls$Sheet", "length", "I", false)
  | _ => ("StepCalls$Sheet", "cells", "[I", true)
def tyX6 : Nat → FieldType := fun k => match k with
  | 0 => .int
  | 1 => .int
  | _ => .array .int
theorem nmX6 : ∀ a, a < 3 → ∀ b, b < 3 → a ≠ b → (TX6 a).2.1 ≠ (TX6 b).2.1 := by decide +kernel
theorem tyX6_ok : ∀ k, k < 3 → parseFieldDescriptor (TX6 k).2.2.1 = some (tyX6 k) := by decide +kernel
abbrev cX6_init : ByteArray := prog_8_method_1_code
def yX6_init : MethodName := ⟨RX6, "<init>", "()V"⟩
abbrev cX6_renew : ByteArray := prog_8_method_2_code
def yX6_renew : MethodName := ⟨RX6, "renew", "(II)V"⟩
abbrev cX6_has : ByteArray := prog_8_method_3_code
def yX6_has : MethodName := ⟨RX6, "has", "(J)Z"⟩
abbrev cX6_faultAs : ByteArray := prog_8_method_4_code
def yX6_faultAs : MethodName := ⟨RX6, "faultAs", "(I)I"⟩
abbrev cX6_narrowed : ByteArray := prog_8_method_5_code
def yX6_narrowed : MethodName := ⟨RX6, "narrowed", "(I)I"⟩
def RX7 : String := "StepCalls$Tape"
def TX7 : u_T := fun k => match k with
  | 0 => ("StepCalls$Tape", "bytes", "[I", true)
  | 1 => ("StepCalls$Tape", "length", "I", false)
  | 2 => ("StepCalls$Tape", "token", "I", false)
  | 3 => ("StepCalls$Tape", "place", "I", false)
  | 4 => ("StepCalls$Tape", "behind", "I", false)
  | _ => ("StepCalls$Tape", "value", "I", false)
def tyX7 : Nat → FieldType := fun k => match k with
  | 0 => .array .int
  | 1 => .int
  | 2 => .int
  | 3 => .int
  | 4 => .int
  | _ => .int
theorem nmX7 : ∀ a, a < 6 → ∀ b, b < 6 → a ≠ b → (TX7 a).2.1 ≠ (TX7 b).2.1 := by decide +kernel
theorem tyX7_ok : ∀ k, k < 6 → parseFieldDescriptor (TX7 k).2.2.1 = some (tyX7 k) := by decide +kernel
abbrev cX7_init : ByteArray := prog_9_method_1_code
def yX7_init : MethodName := ⟨RX7, "<init>", "()V"⟩
abbrev cX7_rewind : ByteArray := prog_9_method_2_code
def yX7_rewind : MethodName := ⟨RX7, "rewind", "()V"⟩
abbrev cX7_next : ByteArray := prog_9_method_3_code
def yX7_next : MethodName := ⟨RX7, "next", "()V"⟩
abbrev cX7_kindAt : ByteArray := prog_9_method_4_code
def yX7_kindAt : MethodName := ⟨RX7, "kindAt", "(I)I"⟩
abbrev cX7_measure : ByteArray := prog_9_method_5_code
def yX7_measure : MethodName := ⟨RX7, "measure", "()V"⟩
abbrev cX7_spells : ByteArray := prog_9_method_6_code
def yX7_spells : MethodName := ⟨RX7, "spells", "(Ljava/lang/String;)Z"⟩
def RX8 : String := "StepCalls$Trial"
def TX8 : u_T := fun k => match k with
  | 0 => ("StepCalls$Trial", "exchange", "LStepCalls$Exchange;", true)
  | 1 => ("StepCalls$Trial", "fates", "[I", true)
  | 2 => ("StepCalls$Trial", "connected", "I", false)
  | 3 => ("StepCalls$Trial", "lost", "I", false)
  | 4 => ("StepCalls$Trial", "firstLost", "I", false)
  | _ => ("StepCalls$Trial", "passed", "I", false)
def tyX8 : Nat → FieldType := fun k => match k with
  | 0 => .object "StepCalls$Exchange"
  | 1 => .array .int
  | 2 => .int
  | 3 => .int
  | 4 => .int
  | _ => .int
theorem nmX8 : ∀ a, a < 6 → ∀ b, b < 6 → a ≠ b → (TX8 a).2.1 ≠ (TX8 b).2.1 := by decide +kernel
theorem tyX8_ok : ∀ k, k < 6 → parseFieldDescriptor (TX8 k).2.2.1 = some (tyX8 k) := by decide +kernel
abbrev cX8_init : ByteArray := prog_10_method_1_code
def yX8_init : MethodName := ⟨RX8, "<init>", "()V"⟩
abbrev cX8_follow : ByteArray := prog_10_method_2_code
def yX8_follow : MethodName := ⟨RX8, "follow", "(LStepCalls$Script;I)V"⟩
abbrev cX8_fateOf : ByteArray := prog_10_method_3_code
def yX8_fateOf : MethodName := ⟨RX8, "fateOf", "(II)I"⟩
abbrev cX8_note : ByteArray := prog_10_method_4_code
def yX8_note : MethodName := ⟨RX8, "note", "(IZ)V"⟩
abbrev cX8_wantedWayOf : ByteArray := prog_10_method_5_code
def yX8_wantedWayOf : MethodName := ⟨RX8, "wantedWayOf", "(LStepCalls$Script;I)Z"⟩
abbrev cX8_wantedFinder : ByteArray := prog_10_method_6_code
def yX8_wantedFinder : MethodName := ⟨RX8, "wantedFinder", "(LStepCalls$Script;)Z"⟩
abbrev cX8_isAsSeen : ByteArray := prog_10_method_7_code
def yX8_isAsSeen : MethodName := ⟨RX8, "isAsSeen", "(LStepCalls$Script;)Z"⟩
def RX9 : String := "StepCalls"
def TX9 : u_T := fun k => match k with
  | 0 => ("StepCalls", "now", "LStepCalls$Exchange;", true)
  | 1 => ("StepCalls", "script", "LStepCalls$Script;", true)
  | 2 => ("StepCalls", "trial", "LStepCalls$Trial;", true)
  | 3 => ("StepCalls", "best", "LStepCalls$Best;", true)
  | 4 => ("StepCalls", "tally", "[[I", true)
  | 5 => ("StepCalls", "tape", "LStepCalls$Tape;", true)
  | 6 => ("StepCalls", "reader", "LStepCalls$Reader;", true)
  | 7 => ("StepCalls", "images", "[LStepCalls$Image;", true)
  | 8 => ("StepCalls", "sheets", "[LStepCalls$Sheet;", true)
  | 9 => ("StepCalls", "textFault", "I", false)
  | _ => ("StepCalls", "readFault", "I", false)
def tyX9 : Nat → FieldType := fun k => match k with
  | 0 => .object "StepCalls$Exchange"
  | 1 => .object "StepCalls$Script"
  | 2 => .object "StepCalls$Trial"
  | 3 => .object "StepCalls$Best"
  | 4 => .array (.array .int)
  | 5 => .object "StepCalls$Tape"
  | 6 => .object "StepCalls$Reader"
  | 7 => .array (.object "StepCalls$Image")
  | 8 => .array (.object "StepCalls$Sheet")
  | 9 => .int
  | _ => .int
theorem nmX9 : ∀ a, a < 11 → ∀ b, b < 11 → a ≠ b → (TX9 a).2.1 ≠ (TX9 b).2.1 := by decide +kernel
theorem tyX9_ok : ∀ k, k < 11 → parseFieldDescriptor (TX9 k).2.2.1 = some (tyX9 k) := by decide +kernel
abbrev cX9_init : ByteArray := prog_1_method_1_code
def yX9_init : MethodName := ⟨RX9, "<init>", "()V"⟩
abbrev cX9_feed : ByteArray := prog_1_method_2_code
def yX9_feed : MethodName := ⟨RX9, "feed", "(I)I"⟩
abbrev cX9_end : ByteArray := prog_1_method_3_code
def yX9_end : MethodName := ⟨RX9, "end", "(I)I"⟩
abbrev cX9_text : ByteArray := prog_1_method_4_code
def yX9_text : MethodName := ⟨RX9, "text", "()I"⟩
abbrev cX9_fault : ByteArray := prog_1_method_5_code
def yX9_fault : MethodName := ⟨RX9, "fault", "()I"⟩
abbrev cX9_rule : ByteArray := prog_1_method_6_code
def yX9_rule : MethodName := ⟨RX9, "rule", "(I)I"⟩
abbrev cX9_one : ByteArray := prog_1_method_7_code
def yX9_one : MethodName := ⟨RX9, "one", "(II)I"⟩
abbrev cX9_group : ByteArray := prog_1_method_8_code
def yX9_group : MethodName := ⟨RX9, "group", "(II)I"⟩
abbrev cX9_uses : ByteArray := prog_1_method_9_code
def yX9_uses : MethodName := ⟨RX9, "uses", "(II)I"⟩
abbrev cX9_act : ByteArray := prog_1_method_10_code
def yX9_act : MethodName := ⟨RX9, "act", "(II)I"⟩
abbrev cX9_number : ByteArray := prog_1_method_11_code
def yX9_number : MethodName := ⟨RX9, "number", "(II)I"⟩
abbrev cX9_finders : ByteArray := prog_1_method_12_code
def yX9_finders : MethodName := ⟨RX9, "finders", "(I)I"⟩
abbrev cX9_hunt : ByteArray := prog_1_method_13_code
def yX9_hunt : MethodName := ⟨RX9, "hunt", "(II)I"⟩
abbrev cX9_ways : ByteArray := prog_1_method_14_code
def yX9_ways : MethodName := ⟨RX9, "ways", "(II)I"⟩
abbrev cX9_dead : ByteArray := prog_1_method_15_code
def yX9_dead : MethodName := ⟨RX9, "dead", "(IIZ)I"⟩
abbrev cX9_plan : ByteArray := prog_1_method_16_code
def yX9_plan : MethodName := ⟨RX9, "plan", "(II)I"⟩
abbrev cX9_cut : ByteArray := prog_1_method_17_code
def yX9_cut : MethodName := ⟨RX9, "cut", "(I)I"⟩
abbrev cX9_dial : ByteArray := prog_1_method_18_code
def yX9_dial : MethodName := ⟨RX9, "dial", "(II)I"⟩
abbrev cX9_hang : ByteArray := prog_1_method_19_code
def yX9_hang : MethodName := ⟨RX9, "hang", "(I)I"⟩
abbrev cX9_runs : ByteArray := prog_1_method_20_code
def yX9_runs : MethodName := ⟨RX9, "runs", "(I)I"⟩
abbrev cX9_fate : ByteArray := prog_1_method_21_code
def yX9_fate : MethodName := ⟨RX9, "fate", "(I)I"⟩
abbrev cX9_ahead : ByteArray := prog_1_method_22_code
def yX9_ahead : MethodName := ⟨RX9, "ahead", "(I)I"⟩
abbrev cX9_need : ByteArray := prog_1_method_23_code
def yX9_need : MethodName := ⟨RX9, "need", "(I)I"⟩
abbrev cX9_few : ByteArray := prog_1_method_24_code
def yX9_few : MethodName := ⟨RX9, "few", "()I"⟩
abbrev cX9_grade : ByteArray := prog_1_method_25_code
def yX9_grade : MethodName := ⟨RX9, "grade", "(II)I"⟩
abbrev cX9_swap : ByteArray := prog_1_method_26_code
def yX9_swap : MethodName := ⟨RX9, "swap", "(I)I"⟩
abbrev cX9_leave : ByteArray := prog_1_method_27_code
def yX9_leave : MethodName := ⟨RX9, "leave", "(I)I"⟩
abbrev cX9_more : ByteArray := prog_1_method_28_code
def yX9_more : MethodName := ⟨RX9, "more", "(I)I"⟩
abbrev cX9_luck : ByteArray := prog_1_method_29_code
def yX9_luck : MethodName := ⟨RX9, "luck", "(IIII)J"⟩
abbrev cX9_mean : ByteArray := prog_1_method_30_code
def yX9_mean : MethodName := ⟨RX9, "mean", "(II)J"⟩
abbrev cX9_see : ByteArray := prog_1_method_31_code
def yX9_see : MethodName := ⟨RX9, "see", "(II)I"⟩
abbrev cX9_forget : ByteArray := prog_1_method_32_code
def yX9_forget : MethodName := ⟨RX9, "forget", "(I)I"⟩
abbrev cX9_hunts : ByteArray := prog_1_method_33_code
def yX9_hunts : MethodName := ⟨RX9, "hunts", "(I)I"⟩
abbrev cX9_deads : ByteArray := prog_1_method_34_code
def yX9_deads : MethodName := ⟨RX9, "deads", "(I)I"⟩
abbrev cX9_ask : ByteArray := prog_1_method_35_code
def yX9_ask : MethodName := ⟨RX9, "ask", "(II)I"⟩
abbrev cX9_drift : ByteArray := prog_1_method_36_code
def yX9_drift : MethodName := ⟨RX9, "drift", "(III)I"⟩
abbrev cX9_keep : ByteArray := prog_1_method_37_code
def yX9_keep : MethodName := ⟨RX9, "keep", "(I)I"⟩
abbrev cX9_back : ByteArray := prog_1_method_38_code
def yX9_back : MethodName := ⟨RX9, "back", "(I)I"⟩
abbrev cX9_sheet : ByteArray := prog_1_method_39_code
def yX9_sheet : MethodName := ⟨RX9, "sheet", "(III)I"⟩
abbrev cX9_lay : ByteArray := prog_1_method_40_code
def yX9_lay : MethodName := ⟨RX9, "lay", "(III)I"⟩
abbrev cX9_read : ByteArray := prog_1_method_41_code
def yX9_read : MethodName := ⟨RX9, "read", "(IIII)I"⟩
abbrev cX9_torn : ByteArray := prog_1_method_42_code
def yX9_torn : MethodName := ⟨RX9, "torn", "()I"⟩
abbrev cX9_count : ByteArray := prog_1_method_43_code
def yX9_count : MethodName := ⟨RX9, "count", "(I)I"⟩
abbrev cX9_isNumber : ByteArray := prog_1_method_44_code
def yX9_isNumber : MethodName := ⟨RX9, "isNumber", "(I)Z"⟩
abbrev cX9_isDialled : ByteArray := prog_1_method_45_code
def yX9_isDialled : MethodName := ⟨RX9, "isDialled", "(I)Z"⟩
abbrev cX9_isGroup : ByteArray := prog_1_method_46_code
def yX9_isGroup : MethodName := ⟨RX9, "isGroup", "(I)Z"⟩
abbrev cX9_isWay : ByteArray := prog_1_method_47_code
def yX9_isWay : MethodName := ⟨RX9, "isWay", "(II)Z"⟩
abbrev cX9_isAct : ByteArray := prog_1_method_48_code
def yX9_isAct : MethodName := ⟨RX9, "isAct", "(I)Z"⟩
abbrev cX9_isBit : ByteArray := prog_1_method_49_code
def yX9_isBit : MethodName := ⟨RX9, "isBit", "(I)Z"⟩
abbrev cX9_isOdds : ByteArray := prog_1_method_50_code
def yX9_isOdds : MethodName := ⟨RX9, "isOdds", "(I)Z"⟩
abbrev cX9_isSheet : ByteArray := prog_1_method_51_code
def yX9_isSheet : MethodName := ⟨RX9, "isSheet", "(I)Z"⟩
abbrev cX9_isLane : ByteArray := prog_1_method_52_code
def yX9_isLane : MethodName := ⟨RX9, "isLane", "(I)Z"⟩
abbrev cX9_dialIn : ByteArray := prog_1_method_53_code
def yX9_dialIn : MethodName := ⟨RX9, "dialIn", "(LStepCalls$Exchange;II)I"⟩
abbrev cX9_hangIn : ByteArray := prog_1_method_54_code
def yX9_hangIn : MethodName := ⟨RX9, "hangIn", "(LStepCalls$Exchange;I)I"⟩
abbrev cX9_isRefused : ByteArray := prog_1_method_55_code
def yX9_isRefused : MethodName := ⟨RX9, "isRefused", "(II)Z"⟩
abbrev cX9_followAsIs : ByteArray := prog_1_method_56_code
def yX9_followAsIs : MethodName := ⟨RX9, "followAsIs", "()V"⟩
abbrev cX9_followWithHunt : ByteArray := prog_1_method_57_code
def yX9_followWithHunt : MethodName := ⟨RX9, "followWithHunt", "(II)V"⟩
abbrev cX9_followWithDead : ByteArray := prog_1_method_58_code
def yX9_followWithDead : MethodName := ⟨RX9, "followWithDead", "(II)V"⟩
abbrev cX9_followWithSwap : ByteArray := prog_1_method_59_code
def yX9_followWithSwap : MethodName := ⟨RX9, "followWithSwap", "(II)V"⟩
abbrev cX9_clearTally : ByteArray := prog_1_method_60_code
def yX9_clearTally : MethodName := ⟨RX9, "clearTally", "()V"⟩
abbrev cX9_tallyFates : ByteArray := prog_1_method_61_code
def yX9_tallyFates : MethodName := ⟨RX9, "tallyFates", "()V"⟩
abbrev cX9_mostTallied : ByteArray := prog_1_method_62_code
def yX9_mostTallied : MethodName := ⟨RX9, "mostTallied", "(I)I"⟩
abbrev cX9_weighed : ByteArray := prog_1_method_63_code
def yX9_weighed : MethodName := ⟨RX9, "weighed", "(III)J"⟩
abbrev cX9_broughtBy : ByteArray := prog_1_method_64_code
def yX9_broughtBy : MethodName := ⟨RX9, "broughtBy", "(II)I"⟩
abbrev cX9_power : ByteArray := prog_1_method_65_code
def yX9_power : MethodName := ⟨RX9, "power", "(II)J"⟩
abbrev cX9_fraction : ByteArray := prog_1_method_66_code
def yX9_fraction : MethodName := ⟨RX9, "fraction", "(JJI)J"⟩
abbrev cX9_divisor : ByteArray := prog_1_method_67_code
def yX9_divisor : MethodName := ⟨RX9, "divisor", "(JJ)J"⟩
abbrev cX9_countImages : ByteArray := prog_1_method_68_code
def yX9_countImages : MethodName := ⟨RX9, "countImages", "()I"⟩
def RX10 : String := "StepCallsModel"
def TX10 : u_T := fun k => match k with
  | 0 => ("StepCallsModel", "st", "[I", true)
  | 1 => ("StepCallsModel", "now", "[I", true)
  | 2 => ("StepCallsModel", "isKept", "[Z", true)
  | 3 => ("StepCallsModel", "draft", "[I", true)
  | 4 => ("StepCallsModel", "hasFinders", "Z", false)
  | 5 => ("StepCallsModel", "hasPlan", "Z", false)
  | 6 => ("StepCallsModel", "toldGroups", "I", false)
  | 7 => ("StepCallsModel", "highest", "I", false)
  | 8 => ("StepCallsModel", "tape", "[I", true)
  | 9 => ("StepCallsModel", "taped", "I", false)
  | 10 => ("StepCallsModel", "pos", "I", false)
  | 11 => ("StepCallsModel", "begun", "I", false)
  | 12 => ("StepCallsModel", "sort", "I", false)
  | 13 => ("StepCallsModel", "value", "I", false)
  | 14 => ("StepCallsModel", "fault", "I", false)
  | 15 => ("StepCallsModel", "wrongAt", "I", false)
  | 16 => ("StepCallsModel", "fates", "[I", true)
  | 17 => ("StepCallsModel", "bestCode", "I", false)
  | 18 => ("StepCallsModel", "fewestLost", "I", false)
  | 19 => ("StepCallsModel", "mateSum", "J", false)
  | 20 => ("StepCallsModel", "lostSum", "J", false)
  | 21 => ("StepCallsModel", "allWays", "J", false)
  | 22 => ("StepCallsModel", "byFate", "[I", true)
  | 23 => ("StepCallsModel", "lanes", "[I", true)
  | 24 => ("StepCallsModel", "sizes", "[I", true)
  | 25 => ("StepCallsModel", "cells", "[I", true)
  | 26 => ("StepCallsModel", "torn", "I", false)
  | _ => ("StepCallsModel", "before", "[I", true)
def tyX10 : Nat → FieldType := fun k => match k with
  | 0 => .array .int
  | 1 => .array .int
  | 2 => .array .boolean
  | 3 => .array .int
  | 4 => .boolean
  | 5 => .boolean
  | 6 => .int
  | 7 => .int
  | 8 => .array .int
  | 9 => .int
  | 10 => .int
  | 11 => .int
  | 12 => .int
  | 13 => .int
  | 14 => .int
  | 15 => .int
  | 16 => .array .int
  | 17 => .int
  | 18 => .int
  | 19 => .long
  | 20 => .long
  | 21 => .long
  | 22 => .array .int
  | 23 => .array .int
  | 24 => .array .int
  | 25 => .array .int
  | 26 => .int
  | _ => .array .int
theorem nmX10 : ∀ a, a < 28 → ∀ b, b < 28 → a ≠ b → (TX10 a).2.1 ≠ (TX10 b).2.1 := by decide +kernel
theorem tyX10_ok : ∀ k, k < 28 → parseFieldDescriptor (TX10 k).2.2.1 = some (tyX10 k) := by decide +kernel
abbrev cX10_init : ByteArray := prog_12_method_1_code
def yX10_init : MethodName := ⟨RX10, "<init>", "()V"⟩
abbrev cX10_in : ByteArray := prog_12_method_3_code
def yX10_in : MethodName := ⟨RX10, "in", "(JJJ)Z"⟩
abbrev cX10_flag : ByteArray := prog_12_method_4_code
def yX10_flag : MethodName := ⟨RX10, "flag", "(Z)I"⟩
abbrev cX10_isNumber : ByteArray := prog_12_method_5_code
def yX10_isNumber : MethodName := ⟨RX10, "isNumber", "(I)Z"⟩
abbrev cX10_isDialled : ByteArray := prog_12_method_6_code
def yX10_isDialled : MethodName := ⟨RX10, "isDialled", "(I)Z"⟩
abbrev cX10_firstDraft : ByteArray := prog_12_method_7_code
def yX10_firstDraft : MethodName := ⟨RX10, "firstDraft", "()V"⟩
abbrev cX10_keepDraft : ByteArray := prog_12_method_8_code
def yX10_keepDraft : MethodName := ⟨RX10, "keepDraft", "()V"⟩
abbrev cX10_feed : ByteArray := prog_12_method_9_code
def yX10_feed : MethodName := ⟨RX10, "feed", "(I)I"⟩
abbrev cX10_end : ByteArray := prog_12_method_10_code
def yX10_end : MethodName := ⟨RX10, "end", "(I)I"⟩
abbrev cX10_needs : ByteArray := prog_12_method_11_code
def yX10_needs : MethodName := ⟨RX10, "needs", "(ZI)V"⟩
abbrev cX10_byteAt : ByteArray := prog_12_method_12_code
def yX10_byteAt : MethodName := ⟨RX10, "byteAt", "(I)I"⟩
abbrev cX10_is : ByteArray := prog_12_method_13_code
def yX10_is : MethodName := ⟨RX10, "is", "(III)Z"⟩
abbrev cX10_ends : ByteArray := prog_12_method_14_code
def yX10_ends : MethodName := ⟨RX10, "ends", "(II)Z"⟩
abbrev cX10_goesOn : ByteArray := prog_12_method_15_code
def yX10_goesOn : MethodName := ⟨RX10, "goesOn", "(III)Z"⟩
abbrev cX10_lineNow : ByteArray := prog_12_method_16_code
def yX10_lineNow : MethodName := ⟨RX10, "lineNow", "()I"⟩
abbrev cX10_takes : ByteArray := prog_12_method_17_code
def yX10_takes : MethodName := ⟨RX10, "takes", "()V"⟩
abbrev cX10_looked : ByteArray := prog_12_method_18_code
def yX10_looked : MethodName := ⟨RX10, "looked", "(II)I"⟩
abbrev cX10_readWorth : ByteArray := prog_12_method_19_code
def yX10_readWorth : MethodName := ⟨RX10, "readWorth", "(II)I"⟩
abbrev cX10_readSubscriber : ByteArray := prog_12_method_20_code
def yX10_readSubscriber : MethodName := ⟨RX10, "readSubscriber", "()V"⟩
abbrev cX10_readGroup : ByteArray := prog_12_method_21_code
def yX10_readGroup : MethodName := ⟨RX10, "readGroup", "(I)V"⟩
abbrev cX10_readPlan : ByteArray := prog_12_method_22_code
def yX10_readPlan : MethodName := ⟨RX10, "readPlan", "()V"⟩
abbrev cX10_readLineOf : ByteArray := prog_12_method_23_code
def yX10_readLineOf : MethodName := ⟨RX10, "readLineOf", "(I)V"⟩
abbrev cX10_readLine : ByteArray := prog_12_method_24_code
def yX10_readLine : MethodName := ⟨RX10, "readLine", "()V"⟩
abbrev cX10_text : ByteArray := prog_12_method_25_code
def yX10_text : MethodName := ⟨RX10, "text", "()I"⟩
abbrev cX10_fault : ByteArray := prog_12_method_26_code
def yX10_fault : MethodName := ⟨RX10, "fault", "()I"⟩
abbrev cX10_isOne : ByteArray := prog_12_method_27_code
def yX10_isOne : MethodName := ⟨RX10, "isOne", "(I)Z"⟩
abbrev cX10_isGroup : ByteArray := prog_12_method_28_code
def yX10_isGroup : MethodName := ⟨RX10, "isGroup", "(I)Z"⟩
abbrev cX10_isPart : ByteArray := prog_12_method_29_code
def yX10_isPart : MethodName := ⟨RX10, "isPart", "(I)Z"⟩
abbrev cX10_starts : ByteArray := prog_12_method_30_code
def yX10_starts : MethodName := ⟨RX10, "starts", "()V"⟩
abbrev cX10_settles : ByteArray := prog_12_method_31_code
def yX10_settles : MethodName := ⟨RX10, "settles", "()V"⟩
abbrev cX10_of : ByteArray := prog_12_method_32_code
def yX10_of : MethodName := ⟨RX10, "of", "(II)I"⟩
abbrev cX10_becomesOf : ByteArray := prog_12_method_33_code
def yX10_becomesOf : MethodName := ⟨RX10, "becomesOf", "(III)V"⟩
abbrev cX10_ofGroup : ByteArray := prog_12_method_34_code
def yX10_ofGroup : MethodName := ⟨RX10, "ofGroup", "(II)I"⟩
abbrev cX10_becomesOfGroup : ByteArray := prog_12_method_35_code
def yX10_becomesOfGroup : MethodName := ⟨RX10, "becomesOfGroup", "(III)V"⟩
abbrev cX10_usesOf : ByteArray := prog_12_method_36_code
def yX10_usesOf : MethodName := ⟨RX10, "usesOf", "(II)I"⟩
abbrev cX10_callsNow : ByteArray := prog_12_method_37_code
def yX10_callsNow : MethodName := ⟨RX10, "callsNow", "()I"⟩
abbrev cX10_held : ByteArray := prog_12_method_38_code
def yX10_held : MethodName := ⟨RX10, "held", "(I)I"⟩
abbrev cX10_taken : ByteArray := prog_12_method_39_code
def yX10_taken : MethodName := ⟨RX10, "taken", "(I)I"⟩
abbrev cX10_whoHas : ByteArray := prog_12_method_40_code
def yX10_whoHas : MethodName := ⟨RX10, "whoHas", "(I)I"⟩
abbrev cX10_connects : ByteArray := prog_12_method_41_code
def yX10_connects : MethodName := ⟨RX10, "connects", "(III)V"⟩
abbrev cX10_dials : ByteArray := prog_12_method_42_code
def yX10_dials : MethodName := ⟨RX10, "dials", "(II)I"⟩
abbrev cX10_leaves : ByteArray := prog_12_method_43_code
def yX10_leaves : MethodName := ⟨RX10, "leaves", "(I)V"⟩
abbrev cX10_hangsUp : ByteArray := prog_12_method_44_code
def yX10_hangsUp : MethodName := ⟨RX10, "hangsUp", "(I)V"⟩
abbrev cX10_acts : ByteArray := prog_12_method_45_code
def yX10_acts : MethodName := ⟨RX10, "acts", "(II)I"⟩
abbrev cX10_planGoes : ByteArray := prog_12_method_46_code
def yX10_planGoes : MethodName := ⟨RX10, "planGoes", "(I)V"⟩
abbrev cX10_isLost : ByteArray := prog_12_method_47_code
def yX10_isLost : MethodName := ⟨RX10, "isLost", "(I)Z"⟩
abbrev cX10_lostMany : ByteArray := prog_12_method_48_code
def yX10_lostMany : MethodName := ⟨RX10, "lostMany", "()I"⟩
abbrev cX10_allUses : ByteArray := prog_12_method_49_code
def yX10_allUses : MethodName := ⟨RX10, "allUses", "()I"⟩
abbrev cX10_rule : ByteArray := prog_12_method_50_code
def yX10_rule : MethodName := ⟨RX10, "rule", "(I)I"⟩
abbrev cX10_one : ByteArray := prog_12_method_51_code
def yX10_one : MethodName := ⟨RX10, "one", "(II)I"⟩
abbrev cX10_group : ByteArray := prog_12_method_52_code
def yX10_group : MethodName := ⟨RX10, "group", "(II)I"⟩
abbrev cX10_isWay : ByteArray := prog_12_method_53_code
def yX10_isWay : MethodName := ⟨RX10, "isWay", "(II)Z"⟩
abbrev cX10_uses : ByteArray := prog_12_method_54_code
def yX10_uses : MethodName := ⟨RX10, "uses", "(II)I"⟩
abbrev cX10_act : ByteArray := prog_12_method_55_code
def yX10_act : MethodName := ⟨RX10, "act", "(II)I"⟩
abbrev cX10_becomes : ByteArray := prog_12_method_56_code
def yX10_becomes : MethodName := ⟨RX10, "becomes", "(II)I"⟩
abbrev cX10_number : ByteArray := prog_12_method_57_code
def yX10_number : MethodName := ⟨RX10, "number", "(II)I"⟩
abbrev cX10_finders : ByteArray := prog_12_method_58_code
def yX10_finders : MethodName := ⟨RX10, "finders", "(I)I"⟩
abbrev cX10_hunt : ByteArray := prog_12_method_59_code
def yX10_hunt : MethodName := ⟨RX10, "hunt", "(II)I"⟩
abbrev cX10_hasWays : ByteArray := prog_12_method_60_code
def yX10_hasWays : MethodName := ⟨RX10, "hasWays", "(II)V"⟩
abbrev cX10_ways : ByteArray := prog_12_method_61_code
def yX10_ways : MethodName := ⟨RX10, "ways", "(II)I"⟩
abbrev cX10_dead : ByteArray := prog_12_method_62_code
def yX10_dead : MethodName := ⟨RX10, "dead", "(IIZ)I"⟩
abbrev cX10_plan : ByteArray := prog_12_method_63_code
def yX10_plan : MethodName := ⟨RX10, "plan", "(II)I"⟩
abbrev cX10_cut : ByteArray := prog_12_method_64_code
def yX10_cut : MethodName := ⟨RX10, "cut", "(I)I"⟩
abbrev cX10_dial : ByteArray := prog_12_method_65_code
def yX10_dial : MethodName := ⟨RX10, "dial", "(II)I"⟩
abbrev cX10_hang : ByteArray := prog_12_method_66_code
def yX10_hang : MethodName := ⟨RX10, "hang", "(I)I"⟩
abbrev cX10_runs : ByteArray := prog_12_method_67_code
def yX10_runs : MethodName := ⟨RX10, "runs", "(I)I"⟩
abbrev cX10_fate : ByteArray := prog_12_method_68_code
def yX10_fate : MethodName := ⟨RX10, "fate", "(I)I"⟩
abbrev cX10_ahead : ByteArray := prog_12_method_69_code
def yX10_ahead : MethodName := ⟨RX10, "ahead", "(I)I"⟩
abbrev cX10_isLostBy : ByteArray := prog_12_method_70_code
def yX10_isLostBy : MethodName := ⟨RX10, "isLostBy", "(II)Z"⟩
abbrev cX10_need : ByteArray := prog_12_method_71_code
def yX10_need : MethodName := ⟨RX10, "need", "(I)I"⟩
abbrev cX10_few : ByteArray := prog_12_method_72_code
def yX10_few : MethodName := ⟨RX10, "few", "()I"⟩
abbrev cX10_startsJudging : ByteArray := prog_12_method_73_code
def yX10_startsJudging : MethodName := ⟨RX10, "startsJudging", "()V"⟩
abbrev cX10_judges : ByteArray := prog_12_method_74_code
def yX10_judges : MethodName := ⟨RX10, "judges", "(II)V"⟩
abbrev cX10_judged : ByteArray := prog_12_method_75_code
def yX10_judged : MethodName := ⟨RX10, "judged", "(I)I"⟩
abbrev cX10_grade : ByteArray := prog_12_method_76_code
def yX10_grade : MethodName := ⟨RX10, "grade", "(II)I"⟩
abbrev cX10_swap : ByteArray := prog_12_method_77_code
def yX10_swap : MethodName := ⟨RX10, "swap", "(I)I"⟩
abbrev cX10_leave : ByteArray := prog_12_method_78_code
def yX10_leave : MethodName := ⟨RX10, "leave", "(I)I"⟩
abbrev cX10_more : ByteArray := prog_12_method_79_code
def yX10_more : MethodName := ⟨RX10, "more", "(I)I"⟩
abbrev cX10_common : ByteArray := prog_12_method_80_code
def yX10_common : MethodName := ⟨RX10, "common", "(JJ)J"⟩
abbrev cX10_told : ByteArray := prog_12_method_81_code
def yX10_told : MethodName := ⟨RX10, "told", "(JJI)J"⟩
abbrev cX10_findOdds : ByteArray := prog_12_method_82_code
def yX10_findOdds : MethodName := ⟨RX10, "findOdds", "(III)V"⟩
abbrev cX10_luck : ByteArray := prog_12_method_83_code
def yX10_luck : MethodName := ⟨RX10, "luck", "(IIII)J"⟩
abbrev cX10_mean : ByteArray := prog_12_method_84_code
def yX10_mean : MethodName := ⟨RX10, "mean", "(II)J"⟩
abbrev cX10_see : ByteArray := prog_12_method_85_code
def yX10_see : MethodName := ⟨RX10, "see", "(II)I"⟩
abbrev cX10_forget : ByteArray := prog_12_method_86_code
def yX10_forget : MethodName := ⟨RX10, "forget", "(I)I"⟩
abbrev cX10_isSoWith : ByteArray := prog_12_method_87_code
def yX10_isSoWith : MethodName := ⟨RX10, "isSoWith", "(III)Z"⟩
abbrev cX10_hunts : ByteArray := prog_12_method_88_code
def yX10_hunts : MethodName := ⟨RX10, "hunts", "(I)I"⟩
abbrev cX10_setsOf : ByteArray := prog_12_method_89_code
def yX10_setsOf : MethodName := ⟨RX10, "setsOf", "(I)I"⟩
abbrev cX10_deads : ByteArray := prog_12_method_90_code
def yX10_deads : MethodName := ⟨RX10, "deads", "(I)I"⟩
abbrev cX10_ask : ByteArray := prog_12_method_91_code
def yX10_ask : MethodName := ⟨RX10, "ask", "(II)I"⟩
abbrev cX10_drift : ByteArray := prog_12_method_92_code
def yX10_drift : MethodName := ⟨RX10, "drift", "(III)I"⟩
abbrev cX10_copies : ByteArray := prog_12_method_93_code
def yX10_copies : MethodName := ⟨RX10, "copies", "(II)V"⟩
abbrev cX10_keep : ByteArray := prog_12_method_94_code
def yX10_keep : MethodName := ⟨RX10, "keep", "(I)I"⟩
abbrev cX10_back : ByteArray := prog_12_method_95_code
def yX10_back : MethodName := ⟨RX10, "back", "(I)I"⟩
abbrev cX10_isSheet : ByteArray := prog_12_method_96_code
def yX10_isSheet : MethodName := ⟨RX10, "isSheet", "(II)Z"⟩
abbrev cX10_sheet : ByteArray := prog_12_method_97_code
def yX10_sheet : MethodName := ⟨RX10, "sheet", "(III)I"⟩
abbrev cX10_lay : ByteArray := prog_12_method_98_code
def yX10_lay : MethodName := ⟨RX10, "lay", "(III)I"⟩
abbrev cX10_read : ByteArray := prog_12_method_99_code
def yX10_read : MethodName := ⟨RX10, "read", "(IIII)I"⟩
abbrev cX10_torn : ByteArray := prog_12_method_100_code
def yX10_torn : MethodName := ⟨RX10, "torn", "()I"⟩
abbrev cX10_count : ByteArray := prog_12_method_101_code
def yX10_count : MethodName := ⟨RX10, "count", "(I)I"⟩
def RJ6 : String := "java/lang/Integer"
def TJ6 : u_T := fun k => match k with
  | _ => ("", "", "", false)
def tyJ6 : Nat → FieldType := fun k => match k with
  | _ => .int
theorem nmJ6 : ∀ a, a < 0 → ∀ b, b < 0 → a ≠ b → (TJ6 a).2.1 ≠ (TJ6 b).2.1 := by decide +kernel
theorem tyJ6_ok : ∀ k, k < 0 → parseFieldDescriptor (TJ6 k).2.2.1 = some (tyJ6 k) := by decide +kernel
abbrev cJ6_bitCount_0f7a4 : ByteArray := prog_13_method_49_code
def yJ6_bitCount_0f7a4 : MethodName := ⟨RJ6, "bitCount", "(I)I"⟩
def RJ9 : String := "java/lang/Math"
def TJ9 : u_T := fun k => match k with
  | _ => ("", "", "", false)
def tyJ9 : Nat → FieldType := fun k => match k with
  | _ => .int
theorem nmJ9 : ∀ a, a < 0 → ∀ b, b < 0 → a ≠ b → (TJ9 a).2.1 ≠ (TJ9 b).2.1 := by decide +kernel
theorem tyJ9_ok : ∀ k, k < 0 → parseFieldDescriptor (TJ9 k).2.2.1 = some (tyJ9 k) := by decide +kernel
abbrev cJ9_max_7cf53 : ByteArray := prog_14_method_65_code
def yJ9_max_7cf53 : MethodName := ⟨RJ9, "max", "(II)I"⟩
def RJ0 : String := "java/lang/String"
def TJ0 : u_T := fun k => match k with
  | _ => ("", "", "", false)
def tyJ0 : Nat → FieldType := fun k => match k with
  | _ => .int
theorem nmJ0 : ∀ a, a < 0 → ∀ b, b < 0 → a ≠ b → (TJ0 a).2.1 ≠ (TJ0 b).2.1 := by decide +kernel
theorem tyJ0_ok : ∀ k, k < 0 → parseFieldDescriptor (TJ0 k).2.2.1 = some (tyJ0 k) := by decide +kernel
abbrev cJ0_length_8abf5 : ByteArray := prog_15_method_54_code
def yJ0_length_8abf5 : MethodName := ⟨RJ0, "length", "()I"⟩
abbrev cJ0_charAt_5068e : ByteArray := prog_15_method_56_code
def yJ0_charAt_5068e : MethodName := ⟨RJ0, "charAt", "(I)C"⟩
abbrev cJ0_coder_7d493 : ByteArray := prog_15_method_152_code
def yJ0_coder_7d493 : MethodName := ⟨RJ0, "coder", "()B"⟩
abbrev cJ0_isLatin1_aae02 : ByteArray := prog_15_method_154_code
def yJ0_isLatin1_aae02 : MethodName := ⟨RJ0, "isLatin1", "()Z"⟩
abbrev cJ0_checkIndex_df160 : ByteArray := prog_15_method_155_code
def yJ0_checkIndex_df160 : MethodName := ⟨RJ0, "checkIndex", "(II)V"⟩
def RJ1 : String := "java/lang/StringLatin1"
def TJ1 : u_T := fun k => match k with
  | _ => ("", "", "", false)
def tyJ1 : Nat → FieldType := fun k => match k with
  | _ => .int
theorem nmJ1 : ∀ a, a < 0 → ∀ b, b < 0 → a ≠ b → (TJ1 a).2.1 ≠ (TJ1 b).2.1 := by decide +kernel
theorem tyJ1_ok : ∀ k, k < 0 → parseFieldDescriptor (TJ1 k).2.2.1 = some (tyJ1 k) := by decide +kernel
abbrev cJ1_charAt_3b067 : ByteArray := prog_16_method_2_code
def yJ1_charAt_3b067 : MethodName := ⟨RJ1, "charAt", "([BI)C"⟩
def RJ2 : String := "java/lang/StringUTF16"
def TJ2 : u_T := fun k => match k with
  | _ => ("", "", "", false)
def tyJ2 : Nat → FieldType := fun k => match k with
  | _ => .int
theorem nmJ2 : ∀ a, a < 0 → ∀ b, b < 0 → a ≠ b → (TJ2 a).2.1 ≠ (TJ2 b).2.1 := by decide +kernel
theorem tyJ2_ok : ∀ k, k < 0 → parseFieldDescriptor (TJ2 k).2.2.1 = some (tyJ2 k) := by decide +kernel
abbrev cJ2_getChar_3b067 : ByteArray := prog_17_method_5_code
def yJ2_getChar_3b067 : MethodName := ⟨RJ2, "getChar", "([BI)C"⟩
abbrev cJ2_length_9d52b : ByteArray := prog_17_method_6_code
def yJ2_length_9d52b : MethodName := ⟨RJ2, "length", "([B)I"⟩
abbrev cJ2_charAt_3b067 : ByteArray := prog_17_method_83_code
def yJ2_charAt_3b067 : MethodName := ⟨RJ2, "charAt", "([BI)C"⟩
abbrev cJ2_checkIndex_2214a : ByteArray := prog_17_method_91_code
def yJ2_checkIndex_2214a : MethodName := ⟨RJ2, "checkIndex", "(I[B)V"⟩
def RJ3 : String := "jdk/internal/util/Preconditions"
def TJ3 : u_T := fun k => match k with
  | _ => ("", "", "", false)
def tyJ3 : Nat → FieldType := fun k => match k with
  | _ => .int
theorem nmJ3 : ∀ a, a < 0 → ∀ b, b < 0 → a ≠ b → (TJ3 a).2.1 ≠ (TJ3 b).2.1 := by decide +kernel
theorem tyJ3_ok : ∀ k, k < 0 → parseFieldDescriptor (TJ3 k).2.2.1 = some (tyJ3 k) := by decide +kernel
abbrev cJ3_checkIndex_8e157 : ByteArray := prog_18_method_11_code
def yJ3_checkIndex_8e157 : MethodName := ⟨RJ3, "checkIndex", "(IILjava/util/function/BiFunction;)I"⟩
def RL : String := "StepCallsLaw"
abbrev cL_law : ByteArray := code
def yL_law : MethodName := ⟨RL, "law", "([I)Z"⟩
abbrev vwCl : List vw_C := [(RX0, TX0, 2), (RX1, TX1, 8), (RX2, TX2, 6), (RX3, TX3, 3), (RX4, TX4, 9), (RX5, TX5, 6), (RX6, TX6, 3), (RX7, TX7, 6), (RX8, TX8, 6), (RX9, TX9, 11), (RX10, TX10, 28)]

/-- the words of the tables that every method's contract carries -/
def TB : List Cond := lw_tbl.filter goodWord
theorem tb_of {w : Cond} (i : Nat) (h : lw_tbl[i]? = some w ∧ goodWord w = true) : w ∈ TB := List.mem_filter.mpr ⟨List.mem_of_getElem? h.1, h.2⟩
theorem tb_good {w : Cond} (h : w ∈ TB) : (w.onTables && w.keeps) = true ∨ ∃ ty, w = .arrayClass ty := good_of_word (List.mem_filter.mp h).2
theorem tb_all {ws : List Cond} (h : ∀ w ∈ ws, w ∈ TB) : GoodIn TB ws := fun w hw => ⟨h w hw, tb_good (h w hw)⟩
theorem tb_big {ws : List Cond} {a : Array Value} {s : State} (h : ∀ w ∈ lw_tbl, w.before a s = true) : ∀ w ∈ TB, w.before a s = true := fun w hw => h w (List.mem_filter.mp hw).1
end
section
abbrev Mem : Type := (Nat → Nat → Int32) × (Nat → Int64)
def rd (M : Mem) (i k : Nat) : Int32 := M.1 i k
def rl (M : Mem) (k : Nat) : Int64 := M.2 k
def wr (M : Mem) (i k : Nat) (v : Int32) : Mem := (fun j => if j = i then upd (M.1 j) k v else M.1 j, M.2)
def wl (M : Mem) (k : Nat) (v : Int64) : Mem := (M.1, fun q => if q = k then v else M.2 q)
theorem rd_wr {M : Mem} {i k j q : Nat} {v : Int32} : rd (wr M i k v) j q = if j = i ∧ q = k then v else rd M j q := by
  show (if j = i then upd (M.1 j) k v else M.1 j) q = _
  by_cases h : j = i
  · by_cases h2 : q = k
    · simp [h, h2, upd]
    · simp [h, h2, upd, rd]
  · simp [h, rd]
theorem rl_wr {M : Mem} {i k q : Nat} {v : Int32} : rl (wr M i k v) q = rl M q := rfl
theorem rd_wl {M : Mem} {k i q : Nat} {v : Int64} : rd (wl M k v) i q = rd M i q := rfl
theorem rl_wl {M : Mem} {k q : Nat} {v : Int64} : rl (wl M k v) q = if q = k then v else rl M q := rfl
/-- what each cell is: the place of its class, or 11 on for arrays; how long an array is -/
def kds : List Nat := [9, 1, 11, 11, 11, 11, 13, 2, 11, 2, 11, 2, 11, 2, 11, 2, 11, 5, 11, 11, 11, 11, 8, 1, 11, 11, 11, 11, 13, 2, 11, 2, 11, 2, 11, 2, 11, 2, 11, 11, 0, 16, 11, 11, 11, 11, 11, 11, 11, 11, 7, 11, 4, 1, 11, 11, 11, 11, 13, 2, 11, 2, 11, 2, 11, 2, 11, 2, 11, 5, 11, 11, 11, 11, 14, 3, 1, 11, 11, 11, 11, 13, 2, 11, 2, 11, 2, 11, 2, 11, 2, 11, 5, 11, 11, 11, 11, 3, 1, 11, 11, 11, 11, 13, 2, 11, 2, 11, 2, 11, 2, 11, 2, 11, 5, 11, 11, 11, 11, 15, 6, 11, 6, 11, 6, 11, 6, 11, 10, 11, 11, 12, 11, 11, 11, 11, 11, 11, 11, 11]
def lns : List Nat := [0, 0, 6, 6, 6, 6, 0, 0, 4, 0, 4, 0, 4, 0, 4, 0, 4, 0, 8, 8, 6, 6, 0, 0, 6, 6, 6, 6, 0, 0, 4, 0, 4, 0, 4, 0, 4, 0, 4, 8, 0, 0, 7, 7, 7, 7, 7, 7, 7, 7, 0, 160, 0, 0, 6, 6, 6, 6, 0, 0, 4, 0, 4, 0, 4, 0, 4, 0, 4, 0, 8, 8, 6, 6, 0, 0, 0, 6, 6, 6, 6, 0, 0, 4, 0, 4, 0, 4, 0, 4, 0, 4, 0, 8, 8, 6, 6, 0, 0, 6, 6, 6, 6, 0, 0, 4, 0, 4, 0, 4, 0, 4, 0, 4, 0, 8, 8, 6, 6, 0, 0, 40, 0, 40, 0, 40, 0, 40, 0, 288, 96, 2, 96, 160, 8, 56, 4, 4, 160, 96]
def kd (i : Nat) : Nat := kds.getD i 99
def ln (i : Nat) : Nat := lns.getD i 0
def isK (c i : Nat) : Prop := i < 140 ∧ kd i = c
def isA (n i : Nat) : Prop := i < 140 ∧ kd i = 11 ∧ ln i = n
def isZ (n i : Nat) : Prop := i < 140 ∧ kd i = 12 ∧ ln i = n
/-- what the worlds of one run share: the launch, where the cells lie, the classes' numbers, the arrays' classes, the texts' places -/
abbrev WD : Type := Launch × (Nat → Nat) × va_G × (Nat → ClassId) × (Nat → Nat) × (Nat → Nat)
/-- a frame that runs, and what it comes to -/
abbrev FR : Type := (Program × Env × Room) × (State × MethodId × Array Value × List Frame) × (Method × Code × Nat) × (Nat × Nat) × (State → Prop)
def adr (ω : WD) (i : Nat) : Nat := ω.2.1 i
abbrev fsX (c : Nat) (ω : WD) (f : Nat → Int32) (g : Nat → Int64) (i : Nat) : List Value := match c with
  | 0 => [.int (f 0), .int (f 1)]
  | 1 => [.int (f 0), .int (f 1), .int (f 2), .ref (adr ω (i+1)), .ref (adr ω (i+2)), .ref (adr ω (i+3)), .ref (adr ω (i+4)), .ref (adr ω (i+5))]
  | 2 => [.int (f 0), .int (f 1), .int (f 2), .int (f 3), .int (f 4), .ref (adr ω (i+1))]
  | 3 => [.int (f 0), .ref (adr ω (i+1)), .ref (adr ω (i+17))]
  | 4 => [.ref (adr ω 50), .ref (adr ω (i+1)), .ref (adr ω (i+17)), .int (f 3), .int (f 4), .int (f 5), .int (f 6), .int (f 7), .int (f 8)]
  | 5 => [.int (f 0), .int (f 1), .ref (adr ω (i+1)), .ref (adr ω (i+2)), .ref (adr ω (i+3)), .ref (adr ω (i+4))]
  | 6 => [.int (f 0), .int (f 1), .ref (adr ω (i+1))]
  | 7 => [.ref (adr ω (i+1)), .int (f 1), .int (f 2), .int (f 3), .int (f 4), .int (f 5)]
  | 8 => [.ref (adr ω (i+1)), .ref (adr ω (i+17)), .int (f 2), .int (f 3), .int (f 4), .int (f 5)]
  | 9 => [.ref (adr ω (i+1)), .ref (adr ω (i+17)), .ref (adr ω (i+22)), .ref (adr ω (i+40)), .ref (adr ω (i+41)), .ref (adr ω (i+50)), .ref (adr ω (i+52)), .ref (adr ω (i+74)), .ref (adr ω (i+119)), .int (f 9), .int (f 10)]
  | _ => [.ref (adr ω (i+1)), .ref (adr ω (i+2)), .ref (adr ω (i+3)), .ref (adr ω (i+4)), .int (f 4), .int (f 5), .int (f 6), .int (f 7), .ref (adr ω (i+5)), .int (f 9), .int (f 10), .int (f 11), .int (f 12), .int (f 13), .int (f 14), .int (f 15), .ref (adr ω (i+6)), .int (f 17), .int (f 18), .long (g 19), .long (g 20), .long (g 21), .ref (adr ω (i+7)), .ref (adr ω (i+8)), .ref (adr ω (i+9)), .ref (adr ω (i+10)), .int (f 26), .ref (adr ω (i+11))]
def contX (ω : WD) (f : Nat → Int32) (g : Nat → Int64) (i : Nat) : va_E :=
  if kd i < 11 then .inr (kd i, fsX (kd i) ω f g i) else if kd i = 11 then .inl (ω.2.2.2.1 0, ln i, .inl f) else if kd i = 12 then .inl (ω.2.2.2.1 1, ln i, .inl f)
  else if kd i = 13 then .inl (ω.2.2.2.1 2, 5, .inr (.inr (.inr (.inr (fun t => some (adr ω (i + 1 + 2 * t)))))))
  else if kd i = 14 then .inl (ω.2.2.2.1 3, 2, .inr (.inr (.inr (.inr (fun t => some (adr ω (i + 1 + 22 * t)))))))
  else if kd i = 15 then .inl (ω.2.2.2.1 4, 4, .inr (.inr (.inr (.inr (fun t => some (adr ω (i + 1 + 2 * t)))))))
  else .inl (ω.2.2.2.1 5, 8, .inr (.inr (.inr (.inr (fun t => some (adr ω (i + 1 + t)))))))
def cont (ω : WD) (M : Mem) (i : Nat) : va_E := contX ω (M.1 i) M.2 i
def cellsOf (ω : WD) (M : Mem) : va_W := (List.range 140).map fun i => (adr ω i, cont ω M i)
abbrev tysOf (ω : WD) : List (ClassId × FieldType) := [(ω.2.2.2.1 0, .int), (ω.2.2.2.1 1, .boolean), (ω.2.2.2.1 2, .object "StepCalls$Group"), (ω.2.2.2.1 3, .object "StepCalls$Image"), (ω.2.2.2.1 4, .object "StepCalls$Sheet"), (ω.2.2.2.1 5, .array .int)]
def inj (ω : WD) : Prop := ∀ i j, i < 140 → j < 140 → adr ω i = adr ω j → i = j
def gA (ω : WD) (sz : Nat) : Nat → Prop := fun q => (∃ i, i < 140 ∧ q = adr ω i) ∨ sz ≤ q
theorem cells_get {ω : WD} {M : Mem} {i : Nat} (h : i < 140) : (cellsOf ω M)[i]? = some (adr ω i, cont ω M i) := by
  unfold cellsOf
  rw [List.getElem?_map, List.getElem?_range h]
  rfl
theorem cells_at {ω : WD} {M : Mem} {k : Nat} {q : Nat × va_E} (h : (cellsOf ω M)[k]? = some q) : k < 140 ∧ q = (adr ω k, cont ω M k) := by
  have hk : k < 140 := by
    have := (List.getElem?_eq_some_iff.mp h).1
    simpa [cellsOf] using this
  rw [cells_get hk] at h
  exact ⟨hk, (Option.some.inj h).symm⟩
theorem cells_D {ω : WD} {M : Mem} {sz : Nat} (h : inj ω) : va_D (gA ω sz) (cellsOf ω M) := by
  refine ⟨fun i j p q hi hj e => ?_, fun k q hk => ?_⟩
  · obtain ⟨h1, rfl⟩ := cells_at hi
    obtain ⟨h2, rfl⟩ := cells_at hj
    exact h i j h1 h2 e
  · obtain ⟨h1, rfl⟩ := cells_at hk
    exact Or.inl ⟨k, h1, rfl⟩
theorem cells_set {ω : WD} {M M' : Mem} {i : Nat} {e : va_E} (h1 : cont ω M' i = e) (h2 : ∀ j, j < 140 → j ≠ i → cont ω M' j = cont ω M j) : (cellsOf ω M).set i (adr ω i, e) = cellsOf ω M' := by
  apply List.ext_getElem?
  intro k
  by_cases hk : k < 140
  · rw [cells_get hk, List.getElem?_set]
    by_cases e1 : i = k
    · subst e1
      rw [if_pos rfl, if_pos (by simpa [cellsOf] using hk), h1]
    · rw [if_neg e1, cells_get hk, h2 k hk (fun e => e1 e.symm)]
  · rw [List.getElem?_eq_none (by simpa [cellsOf] using hk), List.getElem?_eq_none (by simpa [cellsOf] using hk)]
theorem cont_ne {ω : WD} {M : Mem} {i k j : Nat} {v : Int32} (h : j ≠ i) : cont ω (wr M i k v) j = cont ω M j := by
  unfold cont
  show contX ω (if j = i then upd (M.1 j) k v else M.1 j) M.2 j = _
  rw [if_neg h]
theorem cont_eq {ω : WD} {M : Mem} {i k : Nat} {v : Int32} : cont ω (wr M i k v) i = contX ω (upd (M.1 i) k v) M.2 i := by
  unfold cont
  show contX ω (if i = i then upd (M.1 i) k v else M.1 i) M.2 i = _
  rw [if_pos rfl]
theorem cont_obj {ω : WD} {M : Mem} {c i : Nat} (h : isK c i) (hc : c < 11) : cont ω M i = .inr (c, fsX c ω (M.1 i) M.2 i) := by
  unfold cont contX
  rw [h.2, if_pos hc]
theorem contX_obj {ω : WD} {f : Nat → Int32} {g : Nat → Int64} {c i : Nat} (h : isK c i) (hc : c < 11) : contX ω f g i = .inr (c, fsX c ω f g i) := by
  unfold contX
  rw [h.2, if_pos hc]
theorem contX_arr {ω : WD} {f : Nat → Int32} {g : Nat → Int64} {n i : Nat} (h : isA n i) : contX ω f g i = .inl (ω.2.2.2.1 0, n, .inl f) := by
  unfold contX
  rw [h.2.1, h.2.2]
  rfl
theorem contX_zrr {ω : WD} {f : Nat → Int32} {g : Nat → Int64} {n i : Nat} (h : isZ n i) : contX ω f g i = .inl (ω.2.2.2.1 1, n, .inl f) := by
  unfold contX
  rw [h.2.1, h.2.2]
  rfl
theorem one_model : ∀ j, j < 140 → kd j = 10 → j = 128 := by decide +kernel
theorem cont_L {ω : WD} {f : Nat → Int32} {g g' : Nat → Int64} {j : Nat} (h : j < 140) (h2 : j ≠ 128) : contX ω f g' j = contX ω f g j := by
  have hk : kd j ≠ 10 := fun e => h2 (one_model j h e)
  unfold contX
  by_cases hc : kd j < 11
  · rw [if_pos hc, if_pos hc]
    have : kd j = 0 ∨ kd j = 1 ∨ kd j = 2 ∨ kd j = 3 ∨ kd j = 4 ∨ kd j = 5 ∨ kd j = 6 ∨ kd j = 7 ∨ kd j = 8 ∨ kd j = 9 := by omega
    rcases this with e | e | e | e | e | e | e | e | e | e <;> (rw [e]; first | done | rfl)
  · rw [if_neg hc, if_neg hc]
/-- what else a contract takes of its state: the links between nest mates; the texts; two statics -/
def lenS : List Nat := [4, 7, 4, 2, 4, 6, 4]
def bytS : List (List Int32) := [[108, 105, 110, 101], [102, 105, 110, 100, 101, 114, 115], [104, 111, 109, 101], [111, 110], [98, 97, 99, 107], [115, 112, 114, 101, 97, 100], [112, 108, 97, 110]]
def sxI : List Nat := [85, 94, 99, 104, 106, 108, 110]
def sxT : List String := ["line", "finders", "home", "on", "back", "spread", "plan"]
def XA (ω : WD) (A : Nat → Prop) (U : State) (H : Heap) : Prop := vk_S 7 lenS bytS ω.2.2.2.2.1 ω.2.2.2.2.2 A U H ∧ va_Z "java/lang/String" "COMPACT_STRINGS" "Z" (.int 1) A U H ∧ va_Zq "jdk/internal/util/Preconditions" "SIOOBE_FORMATTER" "Ljava/util/function/BiFunction;" A U H
def XW (ω : WD) (U : State) : Prop := va_Nw (.methodLinkNest RX4 121 yX9_isNumber "StepCalls") U ∧ va_Nw (.methodLinkNest RX4 153 yX9_isDialled "StepCalls") U ∧ (∀ j, j < 7 → vk_R "StepCalls$Reader" (sxI.getD j 0) (sxT.getD j "") (ω.2.2.2.2.1 j) U) ∧ XA ω (gA ω U.heap.size) U U.heap
theorem gA_in {ω : WD} {a b q : Nat} (h : b ≤ a) (hq : gA ω a q) : gA ω b q := hq.elim Or.inl (fun k => Or.inr (Nat.le_trans h k))
theorem XA.moved {ω : WD} {A : Nat → Prop} {u U : State} {H : Heap} (hvm : u.vm.Alike U.vm) (h : XA ω A u H) : XA ω A U H := ⟨h.1.moved hvm, h.2.1.moved hvm, h.2.2.moved hvm⟩
theorem XA.kept {ω : WD} {A : Nat → Prop} {U : State} {H H1 : Heap} (h : XA ω A U H) (hq : ∀ a : Nat, a < H.size → ¬ A a → H1[a]? = H[a]?) : XA ω A U H1 := ⟨h.1.kept hq, h.2.1.kept hq, h.2.2.kept hq⟩
theorem XA.narrow {ω : WD} {A B : Nat → Prop} {U : State} {H : Heap} (h : XA ω A U H) (hAB : ∀ q, B q → A q) : XA ω B U H := ⟨h.1.narrow hAB, h.2.1.narrow hAB, h.2.2.narrow hAB⟩
theorem XW.calling {ω : WD} {U : State} {g : JFrame} {mk : MethodId} {a : Array Value} (h : XW ω U) : XW ω (U.calling g mk a) := ⟨va_Nw.same rfl rfl h.1, va_Nw.same rfl rfl h.2.1, fun j hj => vk_R.same rfl (h.2.2.1 j hj), h.2.2.2.moved (u := U) (U := U.calling g mk a) (Vm.Alike.refl U.vm)⟩
theorem XW.warm {ω : WD} {s U : State} {H : Heap} {locs : List Loc} (hW : s.WarmedH U.vm) (hU : U.heap = H) (hS : va_S (gA ω s.heap.size) s.heap H locs) (h : XW ω s) : XW ω U := ⟨va_Nw.warmM hW h.1, va_Nw.warmM hW h.2.1, fun j hj => vk_R.warm hW (h.2.2.1 j hj), by rw [hU]; exact ((h.2.2.2.moved hW.alike).kept hS.2.1).narrow (fun q hq => gA_in hS.1 hq)⟩
/-- THE JUDGEMENT: the frame, at pc with these locals and this stack, the memory M, comes to what it is to come to -/
def G (ω : WD) (ρ : FR) (M : Mem) (pc : Nat) (lv : List (Nat × Value)) (st : List Value) : Prop :=
  ∀ (ls : Array Slot) (H : Heap) (locs : List Loc), lv_has ls ρ.2.2.1.2.2 lv → va_P ω.2.2.1 vwCl (cellsOf ω M) H → va_S (gA ω ρ.2.1.1.heap.size) ρ.2.1.1.heap H locs →
    W ρ.1.1 ω.1 ρ.1.2.1 ρ.1.2.2 ρ.2.1.1 ρ.2.1.2.1 ρ.2.1.2.2.1 ρ.2.1.2.2.2 ρ.2.2.1.1 ρ.2.2.1.2.1 H locs ρ.2.2.2.1.1 ρ.2.2.2.1.2 ρ.2.2.2.2 (F0 ρ.2.1.2.1 pc ls st)
/-- what is known of the frame: its code, its class, its depth, how many locals -/
def Cx (ω : WD) (ρ : FR) (cc : ByteArray) (own : String) (d n : Nat) : Prop :=
  ρ.1.1.tables.exec = Jvm.exec ∧ ρ.2.2.1.2.1.code = cc ∧ ρ.2.2.1.2.1.maxLocals = n ∧ ρ.2.1.1.vm.findClass own = some ρ.2.1.2.1.cls ∧ (∀ w ∈ TB, w.before ρ.2.1.2.2.1 ρ.2.1.1 = true) ∧ va_K ω.2.2.1 vwCl (tysOf ω) ρ.2.1.1 ∧ inj ω ∧ (d ≤ ρ.1.2.2.frames ∧ 36 * d ≤ ρ.1.2.2.locals) ∧ (ρ.2.2.2.1.1 ≤ ρ.1.2.2.cells ∧ ρ.2.2.2.1.2 ≤ ρ.1.2.2.slots) ∧ XW ω ρ.2.1.1 ∧ ρ.2.2.1.2.2 = n
def lset (lv : List (Nat × Value)) (i : Nat) (v : Value) : List (Nat × Value) := (i, v) :: lv.filter (fun q => !(q.1 == i) && !(q.1 + 1 == i && q.2.category == 2))
def lsetL (lv : List (Nat × Value)) (i : Nat) (v : Value) : List (Nat × Value) := (i, v) :: lv.filter (fun q => !(q.1 == i) && (!(q.1 == i + 1) && !(q.1 + 1 == i && q.2.category == 2)))
section GR
variable {ω : WD} {ρ : FR} {M : Mem} {cc : ByteArray} {own : String} {d n pc : Nat} {lv : List (Nat × Value)} {rest : List Value}
/-- fewer locals, in another order -/
theorem G_sub {lv' : List (Nat × Value)} {st : List Value} (ks : List Nat) (hl : lv_pick lv ks = lv') (k : G ω ρ M pc lv' st) : G ω ρ M pc lv st := fun ls H locs h hP hS => k ls H locs (lv_sub h ks hl) hP hS
theorem G_iadd {x y : Int32} (K : Cx ω ρ cc own d n) (hd : decode cc pc = .ok (.iadd, 1)) (k : G ω ρ M (pc + 1) lv (.int (x + y) :: rest)) : G ω ρ M pc lv (.int y :: .int x :: rest) := fun ls H locs h hP hS => lv_iadd K.1 K.2.1 hd (k ls H locs h hP hS)
theorem G_isub {x y : Int32} (K : Cx ω ρ cc own d n) (hd : decode cc pc = .ok (.isub, 1)) (k : G ω ρ M (pc + 1) lv (.int (x - y) :: rest)) : G ω ρ M pc lv (.int y :: .int x :: rest) := fun ls H locs h hP hS => lv_isub K.1 K.2.1 hd (k ls H locs h hP hS)
theorem G_imul {x y : Int32} (K : Cx ω ρ cc own d n) (hd : decode cc pc = .ok (.imul, 1)) (k : G ω ρ M (pc + 1) lv (.int (x * y) :: rest)) : G ω ρ M pc lv (.int y :: .int x :: rest) := fun ls H locs h hP hS => lv_imul K.1 K.2.1 hd (k ls H locs h hP hS)
theorem G_iand {x y : Int32} (K : Cx ω ρ cc own d n) (hd : decode cc pc = .ok (.iand, 1)) (k : G ω ρ M (pc + 1) lv (.int (x &&& y) :: rest)) : G ω ρ M pc lv (.int y :: .int x :: rest) := fun ls H locs h hP hS => lv_iand K.1 K.2.1 hd (k ls H locs h hP hS)
theorem G_ior {x y : Int32} (K : Cx ω ρ cc own d n) (hd : decode cc pc = .ok (.ior, 1)) (k : G ω ρ M (pc + 1) lv (.int (x ||| y) :: rest)) : G ω ρ M pc lv (.int y :: .int x :: rest) := fun ls H locs h hP hS => lv_ior K.1 K.2.1 hd (k ls H locs h hP hS)
theorem G_ixor {x y : Int32} (K : Cx ω ρ cc own d n) (hd : decode cc pc = .ok (.ixor, 1)) (k : G ω ρ M (pc + 1) lv (.int (x ^^^ y) :: rest)) : G ω ρ M pc lv (.int y :: .int x :: rest) := fun ls H locs h hP hS => lv_ixor K.1 K.2.1 hd (k ls H locs h hP hS)
theorem G_ishl {x y : Int32} (K : Cx ω ρ cc own d n) (hd : decode cc pc = .ok (.ishl, 1)) (k : G ω ρ M (pc + 1) lv (.int (x <<< (y &&& 31)) :: rest)) : G ω ρ M pc lv (.int y :: .int x :: rest) := fun ls H locs h hP hS => lv_ishl K.1 K.2.1 hd (k ls H locs h hP hS)
theorem G_ishr {x y : Int32} (K : Cx ω ρ cc own d n) (hd : decode cc pc = .ok (.ishr, 1)) (k : G ω ρ M (pc + 1) lv (.int (x >>> (y &&& 31)) :: rest)) : G ω ρ M pc lv (.int y :: .int x :: rest) := fun ls H locs h hP hS => lv_ishr K.1 K.2.1 hd (k ls H locs h hP hS)
theorem G_ladd {x y : Int64} (K : Cx ω ρ cc own d n) (hd : decode cc pc = .ok (.ladd, 1)) (k : G ω ρ M (pc + 1) lv (.long (x + y) :: rest)) : G ω ρ M pc lv (.long y :: .long x :: rest) := fun ls H locs h hP hS => lv_ladd K.1 K.2.1 hd (k ls H locs h hP hS)
theorem G_lsub {x y : Int64} (K : Cx ω ρ cc own d n) (hd : decode cc pc = .ok (.lsub, 1)) (k : G ω ρ M (pc + 1) lv (.long (x - y) :: rest)) : G ω ρ M pc lv (.long y :: .long x :: rest) := fun ls H locs h hP hS => lv_lsub K.1 K.2.1 hd (k ls H locs h hP hS)
theorem G_lmul {x y : Int64} (K : Cx ω ρ cc own d n) (hd : decode cc pc = .ok (.lmul, 1)) (k : G ω ρ M (pc + 1) lv (.long (x * y) :: rest)) : G ω ρ M pc lv (.long y :: .long x :: rest) := fun ls H locs h hP hS => lv_lmul K.1 K.2.1 hd (k ls H locs h hP hS)
theorem G_iushr {x y : Int32} (K : Cx ω ρ cc own d n) (hd : decode cc pc = .ok (.iushr, 1)) (k : G ω ρ M (pc + 1) lv (.int ((x.toUInt32 >>> (y.toUInt32 &&& Int32.toUInt32 31)).toInt32) :: rest)) : G ω ρ M pc lv (.int y :: .int x :: rest) := fun ls H locs h hP hS => lv_iushr K.1 K.2.1 hd rfl (k ls H locs h hP hS)
theorem G_idiv {x y : Int32} (K : Cx ω ρ cc own d n) (hd : decode cc pc = .ok (.idiv, 1)) (hz : ¬ y = 0) (k : G ω ρ M (pc + 1) lv (.int (x / y) :: rest)) : G ω ρ M pc lv (.int y :: .int x :: rest) := fun ls H locs h hP hS => lv_idiv K.1 K.2.1 hd hz (k ls H locs h hP hS)
theorem G_irem {x y : Int32} (K : Cx ω ρ cc own d n) (hd : decode cc pc = .ok (.irem, 1)) (hz : ¬ y = 0) (k : G ω ρ M (pc + 1) lv (.int (x - x / y * y) :: rest)) : G ω ρ M pc lv (.int y :: .int x :: rest) := fun ls H locs h hP hS => lv_irem K.1 K.2.1 hd hz (k ls H locs h hP hS)
theorem G_ldiv {x y : Int64} (K : Cx ω ρ cc own d n) (hd : decode cc pc = .ok (.ldiv, 1)) (hz : ¬ y = 0) (k : G ω ρ M (pc + 1) lv (.long (x / y) :: rest)) : G ω ρ M pc lv (.long y :: .long x :: rest) := fun ls H locs h hP hS => lv_ldiv K.1 K.2.1 hd hz (k ls H locs h hP hS)
theorem G_lrem {x y : Int64} (K : Cx ω ρ cc own d n) (hd : decode cc pc = .ok (.lrem, 1)) (hz : ¬ y = 0) (k : G ω ρ M (pc + 1) lv (.long (x - x / y * y) :: rest)) : G ω ρ M pc lv (.long y :: .long x :: rest) := fun ls H locs h hP hS => lv_lrem K.1 K.2.1 hd hz (k ls H locs h hP hS)
theorem G_i2l {x : Int32} (K : Cx ω ρ cc own d n) (hd : decode cc pc = .ok (.i2l, 1)) (k : G ω ρ M (pc + 1) lv (.long x.toInt64 :: rest)) : G ω ρ M pc lv (.int x :: rest) := fun ls H locs h hP hS => lv_i2l K.1 K.2.1 hd rfl (k ls H locs h hP hS)
theorem G_l2i {x : Int64} (K : Cx ω ρ cc own d n) (hd : decode cc pc = .ok (.l2i, 1)) (k : G ω ρ M (pc + 1) lv (.int x.toInt32 :: rest)) : G ω ρ M pc lv (.long x :: rest) := fun ls H locs h hP hS => lv_l2i K.1 K.2.1 hd rfl (k ls H locs h hP hS)
theorem G_i2b {x : Int32} (K : Cx ω ρ cc own d n) (hd : decode cc pc = .ok (.i2b, 1)) (k : G ω ρ M (pc + 1) lv (.int x.toInt8.toInt32 :: rest)) : G ω ρ M pc lv (.int x :: rest) := fun ls H locs h hP hS => lv_i2b K.1 K.2.1 hd rfl (k ls H locs h hP hS)
theorem G_i2s {x : Int32} (K : Cx ω ρ cc own d n) (hd : decode cc pc = .ok (.i2s, 1)) (k : G ω ρ M (pc + 1) lv (.int x.toInt16.toInt32 :: rest)) : G ω ρ M pc lv (.int x :: rest) := fun ls H locs h hP hS => lv_i2s K.1 K.2.1 hd rfl (k ls H locs h hP hS)
theorem G_i2c {x : Int32} (K : Cx ω ρ cc own d n) (hd : decode cc pc = .ok (.i2c, 1)) (k : G ω ρ M (pc + 1) lv (.int (x.toUInt32 % 65536).toInt32 :: rest)) : G ω ρ M pc lv (.int x :: rest) := fun ls H locs h hP hS => lv_i2c K.1 K.2.1 hd rfl (k ls H locs h hP hS)
theorem G_iconst {a : Int} {v : Int32} (K : Cx ω ρ cc own d n) (hd : decode cc pc = .ok (.iconst a, 1)) (hv : Int32.ofInt a = v) (k : G ω ρ M (pc + 1) lv (.int v :: rest)) : G ω ρ M pc lv rest := fun ls H locs h hP hS => lv_iconst K.1 K.2.1 hd hv (k ls H locs h hP hS)
theorem G_bipush {a : Int} {v : Int32} (K : Cx ω ρ cc own d n) (hd : decode cc pc = .ok (.bipush a, 2)) (hv : (Int8.ofInt a).toInt32 = v) (k : G ω ρ M (pc + 2) lv (.int v :: rest)) : G ω ρ M pc lv rest := fun ls H locs h hP hS => lv_bipush K.1 K.2.1 hd hv (k ls H locs h hP hS)
theorem G_sipush {a : Int} {v : Int32} (K : Cx ω ρ cc own d n) (hd : decode cc pc = .ok (.sipush a, 3)) (hv : (Int16.ofInt a).toInt32 = v) (k : G ω ρ M (pc + 3) lv (.int v :: rest)) : G ω ρ M pc lv rest := fun ls H locs h hP hS => lv_sipush K.1 K.2.1 hd hv (k ls H locs h hP hS)
theorem G_lconst {a : Fin 2} {v : Int64} (K : Cx ω ρ cc own d n) (hd : decode cc pc = .ok (.lconst a, 1)) (hv : Int64.ofNat (a : Nat) = v) (k : G ω ρ M (pc + 1) lv (.long v :: rest)) : G ω ρ M pc lv rest := fun ls H locs h hP hS => lv_lconst K.1 K.2.1 hd hv (k ls H locs h hP hS)
theorem G_ldc2 {idx : Nat} {v : Int64} (K : Cx ω ρ cc own d n) (hd : decode cc pc = .ok (.ldc2_w idx, 3)) (hw : Cond.constantLong own idx v ∈ TB) (k : G ω ρ M (pc + 3) lv (.long v :: rest)) : G ω ρ M pc lv rest := fun ls H locs h hP hS => lv_ldc2 K.1 K.2.1 K.2.2.2.1 (K.2.2.2.2.1 _ hw) hd (k ls H locs h hP hS)
theorem G_dup {va : Value} (K : Cx ω ρ cc own d n) (hd : decode cc pc = .ok (.dup, 1)) (hc : va.category = 1) (k : G ω ρ M (pc + 1) lv (va :: va :: rest)) : G ω ρ M pc lv (va :: rest) := fun ls H locs h hP hS => lv_dup K.1 K.2.1 hd hc (k ls H locs h hP hS)
theorem G_dup2 {va vb : Value} (K : Cx ω ρ cc own d n) (hd : decode cc pc = .ok (.dup2, 1)) (hc : va.category = 1) (hc2 : vb.category = 1) (k : G ω ρ M (pc + 1) lv (va :: vb :: va :: vb :: rest)) : G ω ρ M pc lv (va :: vb :: rest) := fun ls H locs h hP hS => lv_dup2_11 K.1 K.2.1 hd hc hc2 (k ls H locs h hP hS)
theorem G_pop {va : Value} (K : Cx ω ρ cc own d n) (hd : decode cc pc = .ok (.pop, 1)) (hc : va.category = 1) (k : G ω ρ M (pc + 1) lv rest) : G ω ρ M pc lv (va :: rest) := fun ls H locs h hP hS => lv_pop K.1 K.2.1 hd hc (k ls H locs h hP hS)
theorem G_lcmp {x y : Int64} (K : Cx ω ρ cc own d n) (hd : decode cc pc = .ok (.lcmp, 1)) (k : G ω ρ M (pc + 1) lv (.int (lg_cmp x y) :: rest)) : G ω ρ M pc lv (.long y :: .long x :: rest) := fun ls H locs h hP hS => W.lcmp K.1 K.2.1 hd (k ls H locs h hP hS)
theorem G_iload {a : Nat} {x : Int32} (K : Cx ω ρ cc own d n) (hd : decode cc pc = .ok (.iload a, 2)) (j : Nat) (hj : lv[j]? = some (a, .int x)) (k : G ω ρ M (pc + 2) lv (.int x :: rest)) : G ω ρ M pc lv rest := fun ls H locs h hP hS => lv_iload K.1 K.2.1 hd (lv_at h j hj) (k ls H locs h hP hS)
theorem G_iload_n {a : Fin 4} {x : Int32} (K : Cx ω ρ cc own d n) (hd : decode cc pc = .ok (.iload_n a, 1)) (j : Nat) (hj : lv[j]? = some ((a : Nat), .int x)) (k : G ω ρ M (pc + 1) lv (.int x :: rest)) : G ω ρ M pc lv rest := fun ls H locs h hP hS => lv_iload_n K.1 K.2.1 hd rfl (lv_at h j hj) (k ls H locs h hP hS)
theorem G_lload {a : Nat} {x : Int64} (K : Cx ω ρ cc own d n) (hd : decode cc pc = .ok (.lload a, 2)) (j : Nat) (hj : lv[j]? = some (a, .long x)) (k : G ω ρ M (pc + 2) lv (.long x :: rest)) : G ω ρ M pc lv rest := fun ls H locs h hP hS => lv_lload K.1 K.2.1 hd (lv_at h j hj) (k ls H locs h hP hS)
theorem G_lload_n {a : Fin 4} {x : Int64} (K : Cx ω ρ cc own d n) (hd : decode cc pc = .ok (.lload_n a, 1)) (j : Nat) (hj : lv[j]? = some ((a : Nat), .long x)) (k : G ω ρ M (pc + 1) lv (.long x :: rest)) : G ω ρ M pc lv rest := fun ls H locs h hP hS => lv_lload_n K.1 K.2.1 hd rfl (lv_at h j hj) (k ls H locs h hP hS)
theorem G_aload {a : Nat} {x : Nat} (K : Cx ω ρ cc own d n) (hd : decode cc pc = .ok (.aload a, 2)) (j : Nat) (hj : lv[j]? = some (a, .ref x)) (k : G ω ρ M (pc + 2) lv (.ref x :: rest)) : G ω ρ M pc lv rest := fun ls H locs h hP hS => lv_aload K.1 K.2.1 hd (lv_at h j hj) (k ls H locs h hP hS)
theorem G_aload_n {a : Fin 4} {x : Nat} (K : Cx ω ρ cc own d n) (hd : decode cc pc = .ok (.aload_n a, 1)) (j : Nat) (hj : lv[j]? = some ((a : Nat), .ref x)) (k : G ω ρ M (pc + 1) lv (.ref x :: rest)) : G ω ρ M pc lv rest := fun ls H locs h hP hS => lv_aload_n K.1 K.2.1 hd rfl (lv_at h j hj) (k ls H locs h hP hS)
theorem G_istore {a : Nat} {x : Int32} {lv' : List (Nat × Value)} (K : Cx ω ρ cc own d n) (hd : decode cc pc = .ok (.istore a, 2)) (ha : a < n) (hl : lset lv a (.int x) = lv') (k : G ω ρ M (pc + 2) lv' rest) : G ω ρ M pc lv (.int x :: rest) := fun ls H locs h hP hS => lv_istore K.1 K.2.1 hd h (K.2.2.2.2.2.2.2.2.2.2 ▸ ha) hl (fun ls2 h2 => k ls2 H locs h2 hP hS)
theorem G_istore_n {a : Fin 4} {x : Int32} {lv' : List (Nat × Value)} (K : Cx ω ρ cc own d n) (hd : decode cc pc = .ok (.istore_n a, 1)) (ha : (a : Nat) < n) (hl : lset lv (a : Nat) (.int x) = lv') (k : G ω ρ M (pc + 1) lv' rest) : G ω ρ M pc lv (.int x :: rest) := fun ls H locs h hP hS => lv_istore_n K.1 K.2.1 hd rfl h (K.2.2.2.2.2.2.2.2.2.2 ▸ ha) hl (fun ls2 h2 => k ls2 H locs h2 hP hS)
theorem G_lstore {a : Nat} {x : Int64} {lv' : List (Nat × Value)} (K : Cx ω ρ cc own d n) (hd : decode cc pc = .ok (.lstore a, 2)) (ha : a + 1 < n) (hl : lsetL lv a (.long x) = lv') (k : G ω ρ M (pc + 2) lv' rest) : G ω ρ M pc lv (.long x :: rest) := fun ls H locs h hP hS => lv_lstore K.1 K.2.1 hd h (K.2.2.2.2.2.2.2.2.2.2 ▸ ha) hl (fun ls2 h2 => k ls2 H locs h2 hP hS)
theorem G_lstore_n {a : Fin 4} {x : Int64} {lv' : List (Nat × Value)} (K : Cx ω ρ cc own d n) (hd : decode cc pc = .ok (.lstore_n a, 1)) (ha : (a : Nat) + 1 < n) (hl : lsetL lv (a : Nat) (.long x) = lv') (k : G ω ρ M (pc + 1) lv' rest) : G ω ρ M pc lv (.long x :: rest) := fun ls H locs h hP hS => lv_lstore_n K.1 K.2.1 hd rfl h (K.2.2.2.2.2.2.2.2.2.2 ▸ ha) hl (fun ls2 h2 => k ls2 H locs h2 hP hS)
theorem G_astore {a : Nat} {x : Nat} {lv' : List (Nat × Value)} (K : Cx ω ρ cc own d n) (hd : decode cc pc = .ok (.astore a, 2)) (ha : a < n) (hl : lset lv a (.ref x) = lv') (k : G ω ρ M (pc + 2) lv' rest) : G ω ρ M pc lv (.ref x :: rest) := fun ls H locs h hP hS => lv_astore K.1 K.2.1 hd h (K.2.2.2.2.2.2.2.2.2.2 ▸ ha) hl (fun ls2 h2 => k ls2 H locs h2 hP hS)
theorem G_astore_n {a : Fin 4} {x : Nat} {lv' : List (Nat × Value)} (K : Cx ω ρ cc own d n) (hd : decode cc pc = .ok (.astore_n a, 1)) (ha : (a : Nat) < n) (hl : lset lv (a : Nat) (.ref x) = lv') (k : G ω ρ M (pc + 1) lv' rest) : G ω ρ M pc lv (.ref x :: rest) := fun ls H locs h hP hS => lv_astore_n K.1 K.2.1 hd rfl h (K.2.2.2.2.2.2.2.2.2.2 ▸ ha) hl (fun ls2 h2 => k ls2 H locs h2 hP hS)
theorem G_iinc {a : Nat} {z : Int} {x v : Int32} {lv' : List (Nat × Value)} (K : Cx ω ρ cc own d n) (hd : decode cc pc = .ok (.iinc a z, 3)) (j : Nat) (hj : lv[j]? = some (a, .int x)) (hv : x + Int32.ofInt z = v) (ha : a < n) (hl : lset lv a (.int v) = lv') (k : G ω ρ M (pc + 3) lv' rest) : G ω ρ M pc lv rest := fun ls H locs h hP hS => lv_iinc K.1 K.2.1 hd h hj hv (K.2.2.2.2.2.2.2.2.2.2 ▸ ha) hl (fun ls2 h2 => k ls2 H locs h2 hP hS)
theorem G_icmp_ge {x y : Int32} {off : Int} {tgt : Nat} (K : Cx ω ρ cc own d n) (hd : decode cc pc = .ok (.if_icmp .ge off, 3)) (ht : (pc : Int) + off = (tgt : Int)) (kt : y ≤ x → G ω ρ M tgt lv rest) (kf : ¬ y ≤ x → G ω ρ M (pc + 3) lv rest) : G ω ρ M pc lv (.int y :: .int x :: rest) := fun ls H locs h hP hS => lv_icmp_ge K.1 K.2.1 hd ht (fun c => kt c ls H locs h hP hS) (fun c => kf c ls H locs h hP hS)
theorem G_icmp_eq {x y : Int32} {off : Int} {tgt : Nat} (K : Cx ω ρ cc own d n) (hd : decode cc pc = .ok (.if_icmp .eq off, 3)) (ht : (pc : Int) + off = (tgt : Int)) (kt : x = y → G ω ρ M tgt lv rest) (kf : ¬ x = y → G ω ρ M (pc + 3) lv rest) : G ω ρ M pc lv (.int y :: .int x :: rest) := fun ls H locs h hP hS => lv_icmp_eq K.1 K.2.1 hd ht (fun c => kt c ls H locs h hP hS) (fun c => kf c ls H locs h hP hS)
theorem G_icmp_ne {x y : Int32} {off : Int} {tgt : Nat} (K : Cx ω ρ cc own d n) (hd : decode cc pc = .ok (.if_icmp .ne off, 3)) (ht : (pc : Int) + off = (tgt : Int)) (kt : ¬ x = y → G ω ρ M tgt lv rest) (kf : x = y → G ω ρ M (pc + 3) lv rest) : G ω ρ M pc lv (.int y :: .int x :: rest) := fun ls H locs h hP hS => lv_icmp_ne K.1 K.2.1 hd ht (fun c => kt c ls H locs h hP hS) (fun c => kf c ls H locs h hP hS)
theorem G_icmp_lt {x y : Int32} {off : Int} {tgt : Nat} (K : Cx ω ρ cc own d n) (hd : decode cc pc = .ok (.if_icmp .lt off, 3)) (ht : (pc : Int) + off = (tgt : Int)) (kt : x < y → G ω ρ M tgt lv rest) (kf : ¬ x < y → G ω ρ M (pc + 3) lv rest) : G ω ρ M pc lv (.int y :: .int x :: rest) := fun ls H locs h hP hS => lv_icmp_lt K.1 K.2.1 hd ht (fun c => kt c ls H locs h hP hS) (fun c => kf c ls H locs h hP hS)
theorem G_icmp_gt {x y : Int32} {off : Int} {tgt : Nat} (K : Cx ω ρ cc own d n) (hd : decode cc pc = .ok (.if_icmp .gt off, 3)) (ht : (pc : Int) + off = (tgt : Int)) (kt : y < x → G ω ρ M tgt lv rest) (kf : ¬ y < x → G ω ρ M (pc + 3) lv rest) : G ω ρ M pc lv (.int y :: .int x :: rest) := fun ls H locs h hP hS => lv_icmp_gt K.1 K.2.1 hd ht (fun c => kt c ls H locs h hP hS) (fun c => kf c ls H locs h hP hS)
theorem G_icmp_le {x y : Int32} {off : Int} {tgt : Nat} (K : Cx ω ρ cc own d n) (hd : decode cc pc = .ok (.if_icmp .le off, 3)) (ht : (pc : Int) + off = (tgt : Int)) (kt : x ≤ y → G ω ρ M tgt lv rest) (kf : ¬ x ≤ y → G ω ρ M (pc + 3) lv rest) : G ω ρ M pc lv (.int y :: .int x :: rest) := fun ls H locs h hP hS => lv_icmp_le K.1 K.2.1 hd ht (fun c => kt c ls H locs h hP hS) (fun c => kf c ls H locs h hP hS)
theorem G_if_eq {x : Int32} {off : Int} {tgt : Nat} (K : Cx ω ρ cc own d n) (hd : decode cc pc = .ok (.ifCond .eq off, 3)) (ht : (pc : Int) + off = (tgt : Int)) (kt : x = 0 → G ω ρ M tgt lv rest) (kf : ¬ x = 0 → G ω ρ M (pc + 3) lv rest) : G ω ρ M pc lv (.int x :: rest) := fun ls H locs h hP hS => lv_if_eq K.1 K.2.1 hd ht (fun c => kt c ls H locs h hP hS) (fun c => kf c ls H locs h hP hS)
theorem G_if_ne {x : Int32} {off : Int} {tgt : Nat} (K : Cx ω ρ cc own d n) (hd : decode cc pc = .ok (.ifCond .ne off, 3)) (ht : (pc : Int) + off = (tgt : Int)) (kt : ¬ x = 0 → G ω ρ M tgt lv rest) (kf : x = 0 → G ω ρ M (pc + 3) lv rest) : G ω ρ M pc lv (.int x :: rest) := fun ls H locs h hP hS => lv_if_ne K.1 K.2.1 hd ht (fun c => kt c ls H locs h hP hS) (fun c => kf c ls H locs h hP hS)
theorem G_if_lt {x : Int32} {off : Int} {tgt : Nat} (K : Cx ω ρ cc own d n) (hd : decode cc pc = .ok (.ifCond .lt off, 3)) (ht : (pc : Int) + off = (tgt : Int)) (kt : x < 0 → G ω ρ M tgt lv rest) (kf : ¬ x < 0 → G ω ρ M (pc + 3) lv rest) : G ω ρ M pc lv (.int x :: rest) := fun ls H locs h hP hS => lv_if_lt K.1 K.2.1 hd ht (fun c => kt c ls H locs h hP hS) (fun c => kf c ls H locs h hP hS)
theorem G_if_ge {x : Int32} {off : Int} {tgt : Nat} (K : Cx ω ρ cc own d n) (hd : decode cc pc = .ok (.ifCond .ge off, 3)) (ht : (pc : Int) + off = (tgt : Int)) (kt : 0 ≤ x → G ω ρ M tgt lv rest) (kf : ¬ 0 ≤ x → G ω ρ M (pc + 3) lv rest) : G ω ρ M pc lv (.int x :: rest) := fun ls H locs h hP hS => lv_if_ge K.1 K.2.1 hd ht (fun c => kt c ls H locs h hP hS) (fun c => kf c ls H locs h hP hS)
theorem G_if_gt {x : Int32} {off : Int} {tgt : Nat} (K : Cx ω ρ cc own d n) (hd : decode cc pc = .ok (.ifCond .gt off, 3)) (ht : (pc : Int) + off = (tgt : Int)) (kt : 0 < x → G ω ρ M tgt lv rest) (kf : ¬ 0 < x → G ω ρ M (pc + 3) lv rest) : G ω ρ M pc lv (.int x :: rest) := fun ls H locs h hP hS => lv_if_gt K.1 K.2.1 hd ht (fun c => kt c ls H locs h hP hS) (fun c => kf c ls H locs h hP hS)
theorem G_if_le {x : Int32} {off : Int} {tgt : Nat} (K : Cx ω ρ cc own d n) (hd : decode cc pc = .ok (.ifCond .le off, 3)) (ht : (pc : Int) + off = (tgt : Int)) (kt : x ≤ 0 → G ω ρ M tgt lv rest) (kf : ¬ x ≤ 0 → G ω ρ M (pc + 3) lv rest) : G ω ρ M pc lv (.int x :: rest) := fun ls H locs h hP hS => lv_if_le K.1 K.2.1 hd ht (fun c => kt c ls H locs h hP hS) (fun c => kf c ls H locs h hP hS)
theorem G_goto {off : Int} {tgt : Nat} (K : Cx ω ρ cc own d n) (hd : decode cc pc = .ok (.goto off, 3)) (ht : (pc : Int) + off = (tgt : Int)) (k : G ω ρ M tgt lv rest) : G ω ρ M pc lv rest := fun ls H locs h hP hS => lv_goto K.1 K.2.1 hd ht (k ls H locs h hP hS)
theorem G_tableIn {dflt lo hi : Int} {offs : Array Int} {len : Nat} {x : Int32} {off : Int} {tgt : Nat} (K : Cx ω ρ cc own d n) (hd : decode cc pc = .ok (.tableswitch dflt lo hi offs, len)) (h1 : ¬ x.toInt < lo) (h2 : ¬ hi < x.toInt) (ho : offs[(x.toInt - lo).toNat]? = some off) (ht : (pc : Int) + off = (tgt : Int)) (k : G ω ρ M tgt lv rest) : G ω ρ M pc lv (.int x :: rest) := fun ls H locs h hP hS => lv_tableIn K.1 K.2.1 hd h1 h2 ho ht (k ls H locs h hP hS)
theorem G_tableOut {dflt lo hi : Int} {offs : Array Int} {len : Nat} {x : Int32} {tgt : Nat} (K : Cx ω ρ cc own d n) (hd : decode cc pc = .ok (.tableswitch dflt lo hi offs, len)) (hx : x.toInt < lo ∨ hi < x.toInt) (ht : (pc : Int) + dflt = (tgt : Int)) (k : G ω ρ M tgt lv rest) : G ω ρ M pc lv (.int x :: rest) := fun ls H locs h hP hS => lv_tableOut K.1 K.2.1 hd hx ht (k ls H locs h hP hS)
theorem sw_toInt {x : Int32} {a : Int} (h : x.toInt = a) : x = Int32.ofInt a := by rw [← h]; exact (Int32.ofInt_toInt x).symm
/-- fields -/
theorem G_get {C : String} {T : u_T} {N ci i q idx : Nat} {v : Value} (K : Cx ω ρ cc own d n) (hk : isK ci i) (hc : ci < 11) (hci : vwCl[ci]? = some (C, T, N)) (hin : ∀ w ∈ u_ws C T N, w ∈ TB) (hq : q < N) (hl : Cond.fieldLink own idx C (T q).2.1 (T q).2.2.1 ∈ TB) (hsame : (T q).1 = C) (hv : (fsX ci ω (M.1 i) M.2 i)[q]? = some v) (hd : decode cc pc = .ok (.getfield idx, 3)) (k : G ω ρ M (pc + 3) lv (v :: rest)) : G ω ρ M pc lv (.ref (adr ω i) :: rest) := fun ls H locs h hP hS =>
  va_get K.1 K.2.1 K.2.2.2.2.1 hin K.2.2.2.1 K.2.2.2.2.2.1 hP i ((cells_get hk.1).trans (by rw [cont_obj hk hc])) hci q hq (K.2.2.2.2.1 _ hl) (fun x hx => by rw [hsame] at hx; exact hx) hv hd (k ls H locs h hP hS)
theorem G_put {C : String} {T : u_T} {N ci i q idx : Nat} {v : Int32} {ty : FieldType} (K : Cx ω ρ cc own d n) (hk : isK ci i) (hc : ci < 11) (hci : vwCl[ci]? = some (C, T, N)) (hin : ∀ w ∈ u_ws C T N, w ∈ TB) (ty0 : Nat → FieldType) (hty : ∀ k, k < N → parseFieldDescriptor (T k).2.2.1 = some (ty0 k)) (hnm : ∀ a, a < N → ∀ b, b < N → a ≠ b → (T a).2.1 ≠ (T b).2.1) (hq : q < N) (hl : Cond.fieldLink own idx C (T q).2.1 (T q).2.2.1 ∈ TB) (hsame : (T q).1 = C) (hfin : (T q).2.2.2 = false) (hdsc : parseFieldDescriptor (T q).2.2.1 = some ty) (hn : narrow ty (.int v) = .int v) (hfit : fits ty (.int v) = true) (hlen : ∀ f g, q < (fsX ci ω f g i).length) (hs : ∀ f : Nat → Int32, (fsX ci ω f M.2 i).set q (.int v) = fsX ci ω (upd f q v) M.2 i) (hd : decode cc pc = .ok (.putfield idx, 3)) (k : G ω ρ (wr M i q v) (pc + 3) lv rest) : G ω ρ M pc lv (.int v :: .ref (adr ω i) :: rest) := fun ls H locs h hP hS => by
  have he : (cellsOf ω M)[i]? = some (adr ω i, .inr (ci, fsX ci ω (M.1 i) M.2 i)) := (cells_get hk.1).trans (by rw [cont_obj hk hc])
  refine va_put (ty := ty) (v := .int v) K.1 K.2.1 K.2.2.2.2.1 hin ty0 hty hnm K.2.2.2.1 K.2.2.2.2.2.1 hP (cells_D K.2.2.2.2.2.2.1) hS i he hci q hq (K.2.2.2.2.1 _ hl) (fun x hx => by rw [hsame] at hx; exact hx) hfin hdsc hn hfit (hlen _ _) hd (fun H1 locs1 hP1 _ hS1 => ?_)
  refine k ls H1 locs1 h ?_ hS1
  rw [hs, cells_set (M' := wr M i q v) (by rw [cont_eq, contX_obj hk hc]) (fun j _ hj => cont_ne hj)] at hP1
  exact hP1
theorem G_putL {C : String} {T : u_T} {N q idx : Nat} {v : Int64} (K : Cx ω ρ cc own d n) (hci : vwCl[10]? = some (C, T, N)) (hin : ∀ w ∈ u_ws C T N, w ∈ TB) (ty0 : Nat → FieldType) (hty : ∀ k, k < N → parseFieldDescriptor (T k).2.2.1 = some (ty0 k)) (hnm : ∀ a, a < N → ∀ b, b < N → a ≠ b → (T a).2.1 ≠ (T b).2.1) (hq : q < N) (hl : Cond.fieldLink own idx C (T q).2.1 (T q).2.2.1 ∈ TB) (hsame : (T q).1 = C) (hfin : (T q).2.2.2 = false) (hdsc : parseFieldDescriptor (T q).2.2.1 = some .long) (hlen : ∀ f g, q < (fsX 10 ω f g 128).length) (hs : ∀ g : Nat → Int64, (fsX 10 ω (M.1 128) g 128).set q (.long v) = fsX 10 ω (M.1 128) (fun z => if z = q then v else g z) 128) (hd : decode cc pc = .ok (.putfield idx, 3)) (k : G ω ρ (wl M q v) (pc + 3) lv rest) : G ω ρ M pc lv (.long v :: .ref (adr ω 128) :: rest) := fun ls H locs h hP hS => by
  have hk : isK 10 128 := ⟨by decide, rfl⟩
  have he : (cellsOf ω M)[128]? = some (adr ω 128, .inr (10, fsX 10 ω (M.1 128) M.2 128)) := (cells_get hk.1).trans (by rw [cont_obj hk (by decide)])
  refine va_put (ty := .long) (v := .long v) K.1 K.2.1 K.2.2.2.2.1 hin ty0 hty hnm K.2.2.2.1 K.2.2.2.2.2.1 hP (cells_D K.2.2.2.2.2.2.1) hS 128 he hci q hq (K.2.2.2.2.1 _ hl) (fun x hx => by rw [hsame] at hx; exact hx) hfin hdsc rfl rfl (hlen _ _) hd (fun H1 locs1 hP1 _ hS1 => ?_)
  refine k ls H1 locs1 h ?_ hS1
  rw [hs, cells_set (M := M) (M' := wl M q v) (e := .inr (10, fsX 10 ω (M.1 128) (fun z => if z = q then v else M.2 z) 128)) (contX_obj hk (by decide)) (fun j h1 hj => cont_L h1 hj)] at hP1
  exact hP1
/-- arrays -/
theorem G_iald {i N : Nat} {x : Int32} (K : Cx ω ρ cc own d n) (hk : isA N i) (hx : vp_in x N) (hd : decode cc pc = .ok (.iaload, 1)) (k : G ω ρ M (pc + 1) lv (.int (rd M i x.toNatClampNeg) :: rest)) : G ω ρ M pc lv (.int x :: .ref (adr ω i) :: rest) := fun ls H locs h hP hS =>
  va_iald K.1 K.2.1 K.2.2.2.2.2.1 hP i 0 ((cells_get hk.1).trans (by unfold cont; rw [contX_arr hk]; rfl)) rfl hx hd (k ls H locs h hP hS)
theorem G_iast {i N : Nat} {x v : Int32} (K : Cx ω ρ cc own d n) (hk : isA N i) (hx : vp_in x N) (hd : decode cc pc = .ok (.iastore, 1)) (k : G ω ρ (wr M i x.toNatClampNeg v) (pc + 1) lv rest) : G ω ρ M pc lv (.int v :: .int x :: .ref (adr ω i) :: rest) := fun ls H locs h hP hS => by
  refine va_iast K.1 K.2.1 K.2.2.2.2.2.1 hP (cells_D K.2.2.2.2.2.2.1) hS i 0 ((cells_get hk.1).trans (by unfold cont; rw [contX_arr hk])) rfl hx hd (fun H1 locs1 hP1 _ hS1 => ?_)
  refine k ls H1 locs1 h ?_ hS1
  rw [cells_set (M' := wr M i x.toNatClampNeg v) (by rw [cont_eq, contX_arr hk]) (fun j _ hj => cont_ne hj)] at hP1
  exact hP1
theorem G_zald {i N : Nat} {x : Int32} (K : Cx ω ρ cc own d n) (hk : isZ N i) (hx : vp_in x N) (hd : decode cc pc = .ok (.baload, 1)) (k : G ω ρ M (pc + 1) lv (.int (rd M i x.toNatClampNeg) :: rest)) : G ω ρ M pc lv (.int x :: .ref (adr ω i) :: rest) := fun ls H locs h hP hS =>
  va_zald K.1 K.2.1 K.2.2.2.2.2.1 hP i 1 ((cells_get hk.1).trans (by unfold cont; rw [contX_zrr hk]; rfl)) rfl hx hd (k ls H locs h hP hS)
theorem G_zast {i N : Nat} {x v : Int32} (K : Cx ω ρ cc own d n) (hk : isZ N i) (hx : vp_in x N) (hn : vp_nar .boolean v = v) (hd : decode cc pc = .ok (.bastore, 1)) (k : G ω ρ (wr M i x.toNatClampNeg v) (pc + 1) lv rest) : G ω ρ M pc lv (.int v :: .int x :: .ref (adr ω i) :: rest) := fun ls H locs h hP hS => by
  refine va_zast K.1 K.2.1 K.2.2.2.2.2.1 hP (cells_D K.2.2.2.2.2.2.1) hS i 1 ((cells_get hk.1).trans (by unfold cont; rw [contX_zrr hk])) rfl hx hd (fun H1 locs1 hP1 _ hS1 => ?_)
  rw [hn] at hP1
  refine k ls H1 locs1 h ?_ hS1
  rw [cells_set (M' := wr M i x.toNatClampNeg v) (by rw [cont_eq, contX_zrr hk]) (fun j _ hj => cont_ne hj)] at hP1
  exact hP1
theorem G_aldGroup {i : Nat} {x : Int32} (K : Cx ω ρ cc own d n) (hk : isK 13 i) (hx : vp_in x 5) (hd : decode cc pc = .ok (.aaload, 1)) (k : G ω ρ M (pc + 1) lv (.ref (adr ω (i + 1 + 2 * x.toNatClampNeg)) :: rest)) : G ω ρ M pc lv (.int x :: .ref (adr ω i) :: rest) := fun ls H locs h hP hS =>
  va_aldq K.1 K.2.1 K.2.2.2.2.2.1 hP i 2 (f := fun t => some (adr ω (i + 1 + 2 * t))) ((cells_get hk.1).trans (by unfold cont contX; rw [hk.2]; rfl)) rfl hx hd (k ls H locs h hP hS)
theorem G_aldImage {i : Nat} {x : Int32} (K : Cx ω ρ cc own d n) (hk : isK 14 i) (hx : vp_in x 2) (hd : decode cc pc = .ok (.aaload, 1)) (k : G ω ρ M (pc + 1) lv (.ref (adr ω (i + 1 + 22 * x.toNatClampNeg)) :: rest)) : G ω ρ M pc lv (.int x :: .ref (adr ω i) :: rest) := fun ls H locs h hP hS =>
  va_aldq K.1 K.2.1 K.2.2.2.2.2.1 hP i 3 (f := fun t => some (adr ω (i + 1 + 22 * t))) ((cells_get hk.1).trans (by unfold cont contX; rw [hk.2]; rfl)) rfl hx hd (k ls H locs h hP hS)
theorem G_aldSheet {i : Nat} {x : Int32} (K : Cx ω ρ cc own d n) (hk : isK 15 i) (hx : vp_in x 4) (hd : decode cc pc = .ok (.aaload, 1)) (k : G ω ρ M (pc + 1) lv (.ref (adr ω (i + 1 + 2 * x.toNatClampNeg)) :: rest)) : G ω ρ M pc lv (.int x :: .ref (adr ω i) :: rest) := fun ls H locs h hP hS =>
  va_aldq K.1 K.2.1 K.2.2.2.2.2.1 hP i 4 (f := fun t => some (adr ω (i + 1 + 2 * t))) ((cells_get hk.1).trans (by unfold cont contX; rw [hk.2]; rfl)) rfl hx hd (k ls H locs h hP hS)
theorem G_aldRow {i : Nat} {x : Int32} (K : Cx ω ρ cc own d n) (hk : isK 16 i) (hx : vp_in x 8) (hd : decode cc pc = .ok (.aaload, 1)) (k : G ω ρ M (pc + 1) lv (.ref (adr ω (i + 1 + x.toNatClampNeg)) :: rest)) : G ω ρ M pc lv (.int x :: .ref (adr ω i) :: rest) := fun ls H locs h hP hS => by
  have ha : (cellsOf ω M)[i]? = some (adr ω i, .inl (ω.2.2.2.1 5, 8, .inr (.inr (.inr (.inr (fun t => some (adr ω (i + 1 + t)))))))) := (cells_get hk.1).trans (by unfold cont contX; rw [hk.2]; rfl)
  have hlt : x.toNatClampNeg < 8 := Nat.not_le.mp fun q => hx (Or.inr q)
  exact W.aald (v := .ref (adr ω (i + 1 + x.toNatClampNeg))) (ty := .array .int) K.1 K.2.1 (hP i _ ha) ((K.2.2.2.2.2.1.2 5 (ω.2.2.2.1 5, .array .int) rfl).1 8 (fun j => va_rf (some (adr ω (i + 1 + j))))) rfl (fun q => by cases q) (by show ¬ (x < 0 ∨ (arrV _ _ _).slots.size ≤ _); rw [arrV_size]; exact hx) (by show (arrV _ _ _).slots[_]? = _; rw [arrV_read _ _ hlt]; rfl) rfl rfl hd (k ls H locs h hP hS)
theorem G_aname {st : List Value} {a b : Nat} (e : a = b) (k : G ω ρ M pc lv (.ref (adr ω b) :: st)) : G ω ρ M pc lv (.ref (adr ω a) :: st) := by rw [e]; exact k
end GR
end
section
/-- the room of a method of height d; its start: the memory is M -/
def rmD (d : Nat) : Room := { frames := d, cells := 0, slots := 0, locals := 36 * d }
def PreM (ω : WD) (M : Mem) (U : State) : Prop := va_P ω.2.2.1 vwCl (cellsOf ω M) U.heap ∧ va_K ω.2.2.1 vwCl (tysOf ω) U ∧ inj ω ∧ XW ω U
def BM (ω : WD) (M : Mem) (t : State) : Prop := va_P ω.2.2.1 vwCl (cellsOf ω M) t.heap
abbrev PcM (ω : WD) (args : List Value) (M : Mem) (sz : Nat) : Array Value → State → Prop := va_Pc args (fun U => U.heap.size = sz ∧ PreM ω M U)
/-- CONTRACTS: from the memory M, with these arguments, the method returns; its answer and the memory then satisfy post; nothing is made, no other cell changes -/
def MtI (ω : WD) (y : MethodName) (cc : ByteArray) (n : Nat) (ret : Option FieldType) (d : Nat) (args : List Value) (M : Mem) (post : Int32 → Mem → Prop) : Prop := ∀ sz : Nat, Met ω.1 y (.code y cc n ret :: TB) (rmD d) (PcM ω args M sz) (va_Qi post (BM ω) (gA ω sz)) 0 0 (gA ω sz)
def MtL (ω : WD) (y : MethodName) (cc : ByteArray) (n : Nat) (ret : Option FieldType) (d : Nat) (args : List Value) (M : Mem) (post : Int64 → Mem → Prop) : Prop := ∀ sz : Nat, Met ω.1 y (.code y cc n ret :: TB) (rmD d) (PcM ω args M sz) (va_Ql post (BM ω) (gA ω sz)) 0 0 (gA ω sz)
def MtV (ω : WD) (y : MethodName) (cc : ByteArray) (n : Nat) (ret : Option FieldType) (d : Nat) (args : List Value) (M : Mem) (post : Mem → Prop) : Prop := ∀ sz : Nat, Met ω.1 y (.code y cc n ret :: TB) (rmD d) (PcM ω args M sz) (va_Qv post (BM ω) (gA ω sz)) 0 0 (gA ω sz)
/-- how a frame may leave -/
def RtI (ω : WD) (ρ : FR) (cc : ByteArray) (ty : FieldType) (post : Int32 → Mem → Prop) : Prop := ∀ (pc : Nat) (M : Mem) (lv : List (Nat × Value)) (v : Int32), decode cc pc = .ok (.ireturn, 1) → narrow ty (.int v) = .int v → post v M → G ω ρ M pc lv [.int v]
def RtL (ω : WD) (ρ : FR) (cc : ByteArray) (post : Int64 → Mem → Prop) : Prop := ∀ (pc : Nat) (M : Mem) (lv : List (Nat × Value)) (v : Int64), decode cc pc = .ok (.lreturn, 1) → post v M → G ω ρ M pc lv [.long v]
def RtV (ω : WD) (ρ : FR) (cc : ByteArray) (post : Mem → Prop) : Prop := ∀ (pc : Nat) (M : Mem) (lv : List (Nat × Value)), decode cc pc = .ok (.return_, 1) → post M → G ω ρ M pc lv []

theorem MtI.start {ω : WD} {y : MethodName} {cc : ByteArray} {n : Nat} {ret : Option FieldType} {d : Nat} {args : List Value} {M : Mem} {post : Int32 → Mem → Prop} {own : String} {ty : FieldType} (hret : ret = some ty) (hy : plainName y.cls = true) (hown : y.cls = own) (hn : (lg_sl args).length ≤ n) (h : ∀ ρ : FR, Cx ω ρ cc own d n → RtI ω ρ cc ty post → G ω ρ M 0 (lv_args 0 args) []) : MtI ω y cc n ret d args M post := by
  intro sz
  refine Met.ofW (cc := cc) (maxL := n) (ret := ret) hy rfl ?_
  intro p e s m as below meth c s₁ B hml hv
  obtain ⟨rfl, hsz, hP, hK, hI, hX⟩ := hv
  have hts0 : ∀ w ∈ (Cond.code y cc n ret :: TB), w.before args.toArray s = true := atoms_spec (ws := .code y cc n ret :: TB) B.pre
  have hfc : s.vm.findClass own = some m.cls := by rw [← hown]; exact findClass_of_methodNamed B.named
  have hlocks := B.notSynchronized
  have hr := B.returns
  have hx := B.exec
  have hb := B.bytes
  subst hsz
  have k := h ((p, e, rmD d), (s, m, args.toArray, below), (meth, c, n), (0, 0), MQ below (va_Qi post (BM ω) (gA ω s.heap.size)) args.toArray s 0 0 (gA ω s.heap.size)) ⟨hx, hb, hml, hfc, fun w hw => hts0 w (List.mem_cons_of_mem _ hw), hK, hI, ⟨Nat.le_refl _, Nat.le_refl _⟩, ⟨Nat.zero_le _, Nat.zero_le _⟩, hX, rfl⟩ ?_
  · have hl := lv_entry args (n := n) hn
    rw [lg_entry_eq]
    exact k _ s.heap [] hl hP va_S.rf
  · intro pc M' lv v hd hnr hpost ls H locs h hP hS
    exact W.zret hx hb (hr.trans hret) hnr (fun t ht hW => ⟨⟨v, M', rfl, hpost, by unfold BM; rw [ht]; exact hP⟩, hS.F ht⟩) hS.2.2 hd hlocks
theorem MtL.start {ω : WD} {y : MethodName} {cc : ByteArray} {n : Nat} {ret : Option FieldType} {d : Nat} {args : List Value} {M : Mem} {post : Int64 → Mem → Prop} {own : String} (hret : ret = some .long) (hy : plainName y.cls = true) (hown : y.cls = own) (hn : (lg_sl args).length ≤ n) (h : ∀ ρ : FR, Cx ω ρ cc own d n → RtL ω ρ cc post → G ω ρ M 0 (lv_args 0 args) []) : MtL ω y cc n ret d args M post := by
  intro sz
  refine Met.ofW (cc := cc) (maxL := n) (ret := ret) hy rfl ?_
  intro p e s m as below meth c s₁ B hml hv
  obtain ⟨rfl, hsz, hP, hK, hI, hX⟩ := hv
  have hts0 : ∀ w ∈ (Cond.code y cc n ret :: TB), w.before args.toArray s = true := atoms_spec (ws := .code y cc n ret :: TB) B.pre
  have hfc : s.vm.findClass own = some m.cls := by rw [← hown]; exact findClass_of_methodNamed B.named
  have hlocks := B.notSynchronized
  have hr := B.returns
  have hx := B.exec
  have hb := B.bytes
  subst hsz
  have k := h ((p, e, rmD d), (s, m, args.toArray, below), (meth, c, n), (0, 0), MQ below (va_Ql post (BM ω) (gA ω s.heap.size)) args.toArray s 0 0 (gA ω s.heap.size)) ⟨hx, hb, hml, hfc, fun w hw => hts0 w (List.mem_cons_of_mem _ hw), hK, hI, ⟨Nat.le_refl _, Nat.le_refl _⟩, ⟨Nat.zero_le _, Nat.zero_le _⟩, hX, rfl⟩ ?_
  · have hl := lv_entry args (n := n) hn
    rw [lg_entry_eq]
    exact k _ s.heap [] hl hP va_S.rf
  · intro pc M' lv v hd hpost ls H locs h hP hS
    exact W.lret hx hb (hr.trans hret) (fun t ht hW => ⟨⟨v, M', rfl, hpost, by unfold BM; rw [ht]; exact hP⟩, hS.F ht⟩) hS.2.2 hd hlocks
theorem MtV.start {ω : WD} {y : MethodName} {cc : ByteArray} {n : Nat} {ret : Option FieldType} {d : Nat} {args : List Value} {M : Mem} {post : Mem → Prop} {own : String} (hret : ret = none) (hy : plainName y.cls = true) (hown : y.cls = own) (hn : (lg_sl args).length ≤ n) (h : ∀ ρ : FR, Cx ω ρ cc own d n → RtV ω ρ cc post → G ω ρ M 0 (lv_args 0 args) []) : MtV ω y cc n ret d args M post := by
  intro sz
  refine Met.ofW (cc := cc) (maxL := n) (ret := ret) hy rfl ?_
  intro p e s m as below meth c s₁ B hml hv
  obtain ⟨rfl, hsz, hP, hK, hI, hX⟩ := hv
  have hts0 : ∀ w ∈ (Cond.code y cc n ret :: TB), w.before args.toArray s = true := atoms_spec (ws := .code y cc n ret :: TB) B.pre
  have hfc : s.vm.findClass own = some m.cls := by rw [← hown]; exact findClass_of_methodNamed B.named
  have hlocks := B.notSynchronized
  have hr := B.returns
  have hx := B.exec
  have hb := B.bytes
  subst hsz
  have k := h ((p, e, rmD d), (s, m, args.toArray, below), (meth, c, n), (0, 0), MQ below (va_Qv post (BM ω) (gA ω s.heap.size)) args.toArray s 0 0 (gA ω s.heap.size)) ⟨hx, hb, hml, hfc, fun w hw => hts0 w (List.mem_cons_of_mem _ hw), hK, hI, ⟨Nat.le_refl _, Nat.le_refl _⟩, ⟨Nat.zero_le _, Nat.zero_le _⟩, hX, rfl⟩ ?_
  · have hl := lv_entry args (n := n) hn
    rw [lg_entry_eq]
    exact k _ s.heap [] hl hP va_S.rf
  · intro pc M' lv hd hpost ls H locs h hP hS
    exact W.vret hx hb (hr.trans hret) (fun t ht hW => ⟨⟨M', rfl, hpost, by unfold BM; rw [ht]; exact hP⟩, hS.F ht⟩) hS.2.2 hd hlocks

/-- what a call's instruction needs of the tables -/
def LkV (own : String) (idx : Nat) (C : String) (y : MethodName) (cc : ByteArray) (n : Nat) (ret : Option FieldType) (k : Nat) : Prop := (∀ w ∈ wsV own idx C y [Cond.code y cc n ret], w ∈ TB) ∧ (y.cls = C ∧ y.cls ≠ "java/lang/invoke/MethodHandle" ∧ y.cls ≠ "java/lang/invoke/VarHandle" ∧ (parseMethodDescriptor y.desc).map (fun d => d.parameters.length) = some k)
def LkS (own : String) (idx : Nat) (y : MethodName) (cc : ByteArray) (n : Nat) (ret : Option FieldType) (k : Nat) : Prop := (∀ w ∈ [Cond.methodLink own idx y, .static y, .initialized y.cls, .code y cc n ret], w ∈ TB) ∧ (y.cls ≠ "java/lang/invoke/MethodHandle" ∧ y.cls ≠ "java/lang/invoke/VarHandle" ∧ (parseMethodDescriptor y.desc).map (fun d => d.parameters.length) = some k)
theorem LkV.of {own : String} {idx : Nat} {C : String} {y : MethodName} {cc : ByteArray} {n : Nat} {ret : Option FieldType} {k : Nat} (a b c' d e : Nat) (h1 : lw_tbl[a]? = some (.methodLink own idx y)) (h2 : lw_tbl[b]? = some (.instanceMethod y)) (h3 : lw_tbl[c']? = some (.selects C y y)) (h4 : lw_tbl[d]? = some (.initialized C)) (h5 : lw_tbl[e]? = some (.code y cc n ret)) (h : y.cls = C ∧ y.cls ≠ "java/lang/invoke/MethodHandle" ∧ y.cls ≠ "java/lang/invoke/VarHandle" ∧ (parseMethodDescriptor y.desc).map (fun d => d.parameters.length) = some k) : LkV own idx C y cc n ret k := by
  refine ⟨fun w hw => ?_, h⟩
  simp only [wsV, List.cons_append, List.nil_append, List.mem_cons, List.not_mem_nil, or_false] at hw
  rcases hw with rfl | rfl | rfl | rfl | rfl
  · exact tb_of a ⟨h1, rfl⟩
  · exact tb_of b ⟨h2, rfl⟩
  · exact tb_of c' ⟨h3, rfl⟩
  · exact tb_of d ⟨h4, rfl⟩
  · exact tb_of e ⟨h5, rfl⟩
theorem LkS.of {own : String} {idx : Nat} {y : MethodName} {cc : ByteArray} {n : Nat} {ret : Option FieldType} {k : Nat} (a b d e : Nat) (h1 : lw_tbl[a]? = some (.methodLink own idx y)) (h2 : lw_tbl[b]? = some (.static y)) (h4 : lw_tbl[d]? = some (.initialized y.cls)) (h5 : lw_tbl[e]? = some (.code y cc n ret)) (h : y.cls ≠ "java/lang/invoke/MethodHandle" ∧ y.cls ≠ "java/lang/invoke/VarHandle" ∧ (parseMethodDescriptor y.desc).map (fun d => d.parameters.length) = some k) : LkS own idx y cc n ret k := by
  refine ⟨fun w hw => ?_, h⟩
  simp only [List.mem_cons, List.not_mem_nil, or_false] at hw
  rcases hw with rfl | rfl | rfl | rfl
  · exact tb_of a ⟨h1, rfl⟩
  · exact tb_of b ⟨h2, rfl⟩
  · exact tb_of d ⟨h4, rfl⟩
  · exact tb_of e ⟨h5, rfl⟩
theorem lk_good {l1 : List Cond} {w0 : Cond} (h : ∀ w ∈ l1 ++ [w0], w ∈ TB) : GoodIn TB (l1 ++ (w0 :: TB)) := by
  intro w hw
  rcases List.mem_append.mp hw with h1 | h1
  · exact ⟨h w (List.mem_append_left _ h1), tb_good (h w (List.mem_append_left _ h1))⟩
  · rcases List.mem_cons.mp h1 with rfl | h2
    · exact ⟨h _ (List.mem_append_right _ (List.mem_singleton.mpr rfl)), tb_good (h _ (List.mem_append_right _ (List.mem_singleton.mpr rfl)))⟩
    · exact ⟨h2, tb_good h2⟩
theorem blindM {ω : WD} {args : List Value} {M : Mem} {sz : Nat} : FrameBlind (PcM ω args M sz) := fun a U g mk q => by
  obtain ⟨q0, q1, qP, qK, qI, qX⟩ := q
  exact ⟨q0, q1, qP, va_K.moved (u := U) (U := U.calling g mk a) (Vm.Alike.refl U.vm) qK, qI, qX.calling⟩
section GC
variable {ω : WD} {ρ : FR} {M : Mem} {cc : ByteArray} {own : String} {d n pc idx n' d' i ci N : Nat} {lv : List (Nat × Value)} {As rest st : List Value} {C : String} {T : u_T} {y : MethodName} {bytes : ByteArray} {ret : Option FieldType}
theorem preM_of (K : Cx ω ρ cc own d n) {H : Heap} {locs : List Loc} (hP : va_P ω.2.2.1 vwCl (cellsOf ω M) H) (hS : va_S (gA ω ρ.2.1.1.heap.size) ρ.2.1.1.heap H locs) (U : State) (hU : U.heap = H) (hW : ρ.2.1.1.WarmedH U.vm) (args : List Value) : PcM ω args M H.size args.toArray U := by
  obtain ⟨-, -, -, -, -, hK, hI, -, -, hX, -⟩ := K
  exact ⟨rfl, by rw [hU], ⟨by rw [hU]; exact hP, va_K.moved hW.alike hK, hI, hX.warm hW hU hS⟩⟩
theorem room_of (K : Cx ω ρ cc own d n) (h1 : d' + 1 ≤ d) (h2 : n' ≤ 17) : (rmD d').frames + 1 ≤ ρ.1.2.2.frames ∧ 8 + (n' + 11) + (rmD d').locals ≤ ρ.1.2.2.locals := by
  obtain ⟨-, -, -, -, -, -, -, ⟨h3, h4⟩, -, -, -⟩ := K
  refine ⟨Nat.le_trans h1 h3, ?_⟩
  show 8 + (n' + 11) + 36 * d' ≤ _
  omega
theorem runV (K : Cx ω ρ cc own d n) (hd : decode cc pc = .ok (.invokevirtual idx, 3)) (Lk : LkV own idx C y bytes n' ret As.length) (h1 : d' + 1 ≤ d) (h2 : n' ≤ 17) (hk : isK ci i) (hc : ci < 11) (hci : vwCl[ci]? = some (C, T, N)) (hcat : (rest.map fun v => v.category).sum ≤ 8) (hst : st = As.reverse ++ .ref (adr ω i) :: rest) {ls : Array Slot} {H : Heap} {locs : List Loc} (h : lv_has ls ρ.2.2.1.2.2 lv) (hP : va_P ω.2.2.1 vwCl (cellsOf ω M) H) (hS : va_S (gA ω ρ.2.1.1.heap.size) ρ.2.1.1.heap H locs) {Qc : Array Value → State → Outcome → State → Prop} (hm : Met ω.1 y (.code y bytes n' ret :: TB) (rmD d') (PcM ω (.ref (adr ω i) :: As) M H.size) Qc 0 0 (gA ω H.size)) :
    va_Run ρ.1.1 ω.1 ρ.1.2.1 ρ.1.2.2 ρ.2.1.1 ρ.2.1.2.1 ρ.2.1.2.2.1 ρ.2.1.2.2.2 ρ.2.2.1.1 ρ.2.2.1.2.1 H locs ρ.2.2.2.1.1 ρ.2.2.2.1.2 0 0 (F0 ρ.2.1.2.1 pc ls st) rest (Qc (Value.ref (adr ω i) :: As).toArray) (gA ω H.size) :=
  va_runV (Ts := TB) ⟨K.1, K.2.1, K.2.2.1, K.2.2.2.1, K.2.2.2.2.1⟩ hm (cwV (ws := .code y bytes n' ret :: TB) As.length K.2.2.2.2.1 (lk_good Lk.1) rfl rfl rfl Lk.2 (room_of K h1 h2))
    ⟨blindM, va_recv K.2.2.2.2.2.1 hP hci ((cells_get hk.1).trans (by rw [cont_obj hk hc])), fun U hU hW => preM_of K hP hS U hU hW _⟩ rfl rfl (h.1.trans K.2.2.2.2.2.2.2.2.2.2) hst (lv_room hcat) hd ⟨K.2.2.2.2.2.2.2.2.1.1, K.2.2.2.2.2.2.2.2.1.2⟩
theorem runS (K : Cx ω ρ cc own d n) (hd : decode cc pc = .ok (.invokestatic idx, 3)) (Lk : LkS own idx y bytes n' ret As.length) (h1 : d' + 1 ≤ d) (h2 : n' ≤ 17) (hcat : (rest.map fun v => v.category).sum ≤ 8) (hst : st = As.reverse ++ rest) {ls : Array Slot} {H : Heap} {locs : List Loc} (h : lv_has ls ρ.2.2.1.2.2 lv) (hP : va_P ω.2.2.1 vwCl (cellsOf ω M) H) (hS : va_S (gA ω ρ.2.1.1.heap.size) ρ.2.1.1.heap H locs) {Qc : Array Value → State → Outcome → State → Prop} (hm : Met ω.1 y (.code y bytes n' ret :: TB) (rmD d') (PcM ω As M H.size) Qc 0 0 (gA ω H.size)) :
    va_Run ρ.1.1 ω.1 ρ.1.2.1 ρ.1.2.2 ρ.2.1.1 ρ.2.1.2.1 ρ.2.1.2.2.1 ρ.2.1.2.2.2 ρ.2.2.1.1 ρ.2.2.1.2.1 H locs ρ.2.2.2.1.1 ρ.2.2.2.1.2 0 0 (F0 ρ.2.1.2.1 pc ls st) rest (Qc As.toArray) (gA ω H.size) :=
  va_runS (Ts := TB) ⟨K.1, K.2.1, K.2.2.1, K.2.2.2.1, K.2.2.2.2.1⟩ hm ⟨callB_of (ws := .code y bytes n' ret :: TB) As.length K.2.2.2.2.1 (fun w hw => (List.mem_cons.mp hw).elim (fun e => by rw [e]; exact ⟨Lk.1 _ (by simp), tb_good (Lk.1 _ (by simp))⟩) (fun h => ⟨h, tb_good h⟩)) rfl rfl rfl (K.2.2.2.2.1 _ (Lk.1 _ (by simp))) (K.2.2.2.2.1 _ (Lk.1 _ (by simp))) Lk.2 (room_of K h1 h2), K.2.2.2.2.1 _ (Lk.1 _ (by simp))⟩
    ⟨blindM, fun U hU hW => preM_of K hP hS U hU hW _⟩ rfl rfl (h.1.trans K.2.2.2.2.2.2.2.2.2.2) hst (lv_room hcat) hd ⟨K.2.2.2.2.2.2.2.2.1.1, K.2.2.2.2.2.2.2.2.1.2⟩

theorem G_callI {post : Int32 → Mem → Prop} (K : Cx ω ρ cc own d n) (hd : decode cc pc = .ok (.invokevirtual idx, 3)) (Lk : LkV own idx C y bytes n' ret As.length) (h1 : d' + 1 ≤ d) (h2 : n' ≤ 17) (hk : isK ci i) (hc : ci < 11) (hci : vwCl[ci]? = some (C, T, N)) (hcat : (rest.map fun v => v.category).sum ≤ 8) (hst : st = As.reverse ++ .ref (adr ω i) :: rest) (hm : MtI ω y bytes n' ret d' (.ref (adr ω i) :: As) M post) (k : ∀ (r : Int32) (M' : Mem), post r M' → G ω ρ M' (pc + 3) lv (.int r :: rest)) : G ω ρ M pc lv st := fun ls H locs h hP hS =>
  va_calli (runV K hd Lk h1 h2 hk hc hci hcat hst h hP hS (hm H.size)) hS (fun q _ hq => gA_in hS.1 hq) (fun q hq => gA_in hS.1 hq) (fun r u t H1 locs1 ht _ hp hB _ _ hS1 => k r u hp ls H1 locs1 h (by rw [← ht]; exact hB) hS1)
theorem G_scallI {post : Int32 → Mem → Prop} (K : Cx ω ρ cc own d n) (hd : decode cc pc = .ok (.invokestatic idx, 3)) (Lk : LkS own idx y bytes n' ret As.length) (h1 : d' + 1 ≤ d) (h2 : n' ≤ 17) (hcat : (rest.map fun v => v.category).sum ≤ 8) (hst : st = As.reverse ++ rest) (hm : MtI ω y bytes n' ret d' As M post) (k : ∀ (r : Int32) (M' : Mem), post r M' → G ω ρ M' (pc + 3) lv (.int r :: rest)) : G ω ρ M pc lv st := fun ls H locs h hP hS =>
  va_calli (runS K hd Lk h1 h2 hcat hst h hP hS (hm H.size)) hS (fun q _ hq => gA_in hS.1 hq) (fun q hq => gA_in hS.1 hq) (fun r u t H1 locs1 ht _ hp hB _ _ hS1 => k r u hp ls H1 locs1 h (by rw [← ht]; exact hB) hS1)
theorem G_callL {post : Int64 → Mem → Prop} (K : Cx ω ρ cc own d n) (hd : decode cc pc = .ok (.invokevirtual idx, 3)) (Lk : LkV own idx C y bytes n' ret As.length) (h1 : d' + 1 ≤ d) (h2 : n' ≤ 17) (hk : isK ci i) (hc : ci < 11) (hci : vwCl[ci]? = some (C, T, N)) (hcat : (rest.map fun v => v.category).sum ≤ 8) (hst : st = As.reverse ++ .ref (adr ω i) :: rest) (hm : MtL ω y bytes n' ret d' (.ref (adr ω i) :: As) M post) (k : ∀ (r : Int64) (M' : Mem), post r M' → G ω ρ M' (pc + 3) lv (.long r :: rest)) : G ω ρ M pc lv st := fun ls H locs h hP hS =>
  va_calll (runV K hd Lk h1 h2 hk hc hci hcat hst h hP hS (hm H.size)) hS (fun q _ hq => gA_in hS.1 hq) (fun q hq => gA_in hS.1 hq) (fun r u t H1 locs1 ht _ hp hB _ _ hS1 => k r u hp ls H1 locs1 h (by rw [← ht]; exact hB) hS1)
theorem G_scallL {post : Int64 → Mem → Prop} (K : Cx ω ρ cc own d n) (hd : decode cc pc = .ok (.invokestatic idx, 3)) (Lk : LkS own idx y bytes n' ret As.length) (h1 : d' + 1 ≤ d) (h2 : n' ≤ 17) (hcat : (rest.map fun v => v.category).sum ≤ 8) (hst : st = As.reverse ++ rest) (hm : MtL ω y bytes n' ret d' As M post) (k : ∀ (r : Int64) (M' : Mem), post r M' → G ω ρ M' (pc + 3) lv (.long r :: rest)) : G ω ρ M pc lv st := fun ls H locs h hP hS =>
  va_calll (runS K hd Lk h1 h2 hcat hst h hP hS (hm H.size)) hS (fun q _ hq => gA_in hS.1 hq) (fun q hq => gA_in hS.1 hq) (fun r u t H1 locs1 ht _ hp hB _ _ hS1 => k r u hp ls H1 locs1 h (by rw [← ht]; exact hB) hS1)
theorem G_callV {post : Mem → Prop} (K : Cx ω ρ cc own d n) (hd : decode cc pc = .ok (.invokevirtual idx, 3)) (Lk : LkV own idx C y bytes n' ret As.length) (h1 : d' + 1 ≤ d) (h2 : n' ≤ 17) (hk : isK ci i) (hc : ci < 11) (hci : vwCl[ci]? = some (C, T, N)) (hcat : (rest.map fun v => v.category).sum ≤ 8) (hst : st = As.reverse ++ .ref (adr ω i) :: rest) (hm : MtV ω y bytes n' ret d' (.ref (adr ω i) :: As) M post) (k : ∀ M' : Mem, post M' → G ω ρ M' (pc + 3) lv rest) : G ω ρ M pc lv st := fun ls H locs h hP hS =>
  va_callv (runV K hd Lk h1 h2 hk hc hci hcat hst h hP hS (hm H.size)) hS (fun q _ hq => gA_in hS.1 hq) (fun q hq => gA_in hS.1 hq) (fun u t H1 locs1 ht _ hp hB _ _ hS1 => k u hp ls H1 locs1 h (by rw [← ht]; exact hB) hS1)
theorem G_scallV {post : Mem → Prop} (K : Cx ω ρ cc own d n) (hd : decode cc pc = .ok (.invokestatic idx, 3)) (Lk : LkS own idx y bytes n' ret As.length) (h1 : d' + 1 ≤ d) (h2 : n' ≤ 17) (hcat : (rest.map fun v => v.category).sum ≤ 8) (hst : st = As.reverse ++ rest) (hm : MtV ω y bytes n' ret d' As M post) (k : ∀ M' : Mem, post M' → G ω ρ M' (pc + 3) lv rest) : G ω ρ M pc lv st := fun ls H locs h hP hS =>
  va_callv (runS K hd Lk h1 h2 hcat hst h hP hS (hm H.size)) hS (fun q _ hq => gA_in hS.1 hq) (fun q hq => gA_in hS.1 hq) (fun u t H1 locs1 ht _ hp hB _ _ hS1 => k u hp ls H1 locs1 h (by rw [← ht]; exact hB) hS1)
end GC
end
section

def zb (v : Int32) : Prop := narrow .boolean (.int v) = .int v ∧ fits .boolean (.int v) = true
theorem zb_0 : zb 0 := ⟨rfl, rfl⟩
theorem zb_1 : zb 1 := ⟨rfl, rfl⟩
def ishl (x y : Int32) : Int32 := x <<< (y &&& 31)
def ishr (x y : Int32) : Int32 := x >>> (y &&& 31)
def iushr (x y : Int32) : Int32 := (x.toUInt32 >>> (y.toUInt32 &&& Int32.toUInt32 31)).toInt32
def irem (x y : Int32) : Int32 := x - x / y * y
def lrem (x y : Int64) : Int64 := x - x / y * y
section GN
variable {ω : WD} {ρ : FR} {M : Mem} {cc : ByteArray} {own : String} {d n pc idx n' d' : Nat} {lv : List (Nat × Value)} {As rest st : List Value} {y : MethodName} {bytes : ByteArray} {ret : Option FieldType}
theorem G_iname {x : Int32} (k : ∀ y : Int32, y = x → G ω ρ M pc lv (.int y :: rest)) : G ω ρ M pc lv (.int x :: rest) := k x rfl
theorem G_lname {x : Int64} (k : ∀ y : Int64, y = x → G ω ρ M pc lv (.long y :: rest)) : G ω ρ M pc lv (.long x :: rest) := k x rfl
theorem G_rname {a : Nat} (k : ∀ y : Nat, y = a → G ω ρ M pc lv (.ref (adr ω y) :: rest)) : G ω ρ M pc lv (.ref (adr ω a) :: rest) := k a rfl
theorem G_mname (k : ∀ M1 : Mem, M1 = M → G ω ρ M1 pc lv st) : G ω ρ M pc lv st := k M rfl
theorem G_ldcw {v : Int32} (K : Cx ω ρ cc own d n) (hd : decode cc pc = .ok (.ldc_w idx, 3)) (hw : Cond.constant own idx v ∈ TB) (k : G ω ρ M (pc + 3) lv (.int v :: rest)) : G ω ρ M pc lv rest := fun ls H locs h hP hS => lv_ldcw K.1 K.2.1 K.2.2.2.1 (K.2.2.2.2.1 _ hw) hd (k ls H locs h hP hS)
theorem G_max {x y : Int32} (K : Cx ω ρ cc own d n) (hd : decode cc pc = .ok (.invokestatic idx, 3)) (a b c' e : Nat) (h1 : lw_tbl[a]? = some (.methodLink own idx Lib.Math.max.name)) (h2 : lw_tbl[b]? = some (.static Lib.Math.max.name)) (h3 : lw_tbl[c']? = some (.initialized "java/lang/Math")) (h4 : lw_tbl[e]? = some (.code Lib.Math.max.name Lib.Math.max.code 2 (some .int))) (hd1 : 1 ≤ d) (hcat : (rest.map fun v => v.category).sum ≤ 8) (k : G ω ρ M (pc + 3) lv (.int (if x < y then y else x) :: rest)) : G ω ρ M pc lv (.int y :: .int x :: rest) := fun ls H locs h hP hS => by
  have hr := K.2.2.2.2.2.2.2.1
  exact va_mmax K.1 K.2.1 (K.2.2.1.trans (K.2.2.2.2.2.2.2.2.2.2.symm.trans h.1.symm)) K.2.2.2.1 (K.2.2.2.2.1 _ (tb_of a ⟨h1, rfl⟩)) (K.2.2.2.2.1 _ (tb_of b ⟨h2, rfl⟩)) (K.2.2.2.2.1 _ (tb_of c' ⟨h3, rfl⟩)) (K.2.2.2.2.1 _ (tb_of e ⟨h4, rfl⟩)) (Nat.le_trans hd1 hr.1) (by omega) K.2.2.2.2.2.2.2.2.1.1 K.2.2.2.2.2.2.2.2.1.2 hd (k ls H locs h hP hS)
theorem G_nscallI {host : String} {kn : Nat} {post : Int32 → Mem → Prop} (K : Cx ω ρ cc own d n) (hd : decode cc pc = .ok (.invokestatic idx, 3)) (hl : va_Nw (.methodLinkNest own idx y host) ρ.2.1.1) (a b e : Nat) (h1 : lw_tbl[a]? = some (.static y)) (h2 : lw_tbl[b]? = some (.initialized y.cls)) (h3 : lw_tbl[e]? = some (.code y bytes n' ret)) (h4 : y.cls ≠ "java/lang/invoke/MethodHandle" ∧ y.cls ≠ "java/lang/invoke/VarHandle" ∧ (parseMethodDescriptor y.desc).map (fun d => d.parameters.length) = some kn) (hst : st = As.reverse ++ rest) (h5 : d' + 1 ≤ d) (h6 : n' ≤ 17) (hcat : (rest.map fun v => v.category).sum ≤ 8) (hkn : As.length = kn) (hm : MtI ω y bytes n' ret d' As M post) (k : ∀ (r : Int32) (M' : Mem), post r M' → G ω ρ M' (pc + 3) lv (.int r :: rest)) : G ω ρ M pc lv st := fun ls H locs h hP hS => by
  have hG : GoodIn TB (Cond.code y bytes n' ret :: TB) := fun w hw => by
    rcases List.mem_cons.mp hw with rfl | hw
    · exact ⟨tb_of e ⟨h3, rfl⟩, tb_good (tb_of e ⟨h3, rfl⟩)⟩
    · exact ⟨hw, tb_good hw⟩
  have hini : (Cond.initialized y.cls).before ρ.2.1.2.2.1 ρ.2.1.1 = true := K.2.2.2.2.1 _ (tb_of b ⟨h2, rfl⟩)
  have hsta : (Cond.static y).before ρ.2.1.2.2.1 ρ.2.1.1 = true := K.2.2.2.2.1 _ (tb_of a ⟨h1, rfl⟩)
  exact va_calli (va_runSN (Ts := TB) (host := host) ⟨K.1, K.2.1, K.2.2.1, K.2.2.2.1, K.2.2.2.2.1⟩ (hm H.size) ⟨va_cnB (ws := .code y bytes n' ret :: TB) kn K.2.2.2.2.1 hG rfl rfl rfl hl hini h4 (room_of K h5 h6), hsta, trivial⟩
    ⟨blindM, fun U hU hW => preM_of K hP hS U hU hW _⟩ rfl hkn (h.1.trans K.2.2.2.2.2.2.2.2.2.2) hst (lv_room hcat) hd ⟨K.2.2.2.2.2.2.2.2.1.1, K.2.2.2.2.2.2.2.2.1.2⟩) hS (fun q _ hq => gA_in hS.1 hq) (fun q hq => gA_in hS.1 hq) (fun r u t H1 locs1 ht _ hp hB _ _ hS1 => k r u hp ls H1 locs1 h (by rw [← ht]; exact hB) hS1)
end GN
theorem q0 : isK 9 0 := ⟨by decide, rfl⟩
theorem q1 : isK 1 1 := ⟨by decide, rfl⟩
theorem q2 : isA 6 2 := ⟨by decide, rfl, rfl⟩
theorem q3 : isA 6 3 := ⟨by decide, rfl, rfl⟩
theorem q4 : isA 6 4 := ⟨by decide, rfl, rfl⟩
theorem q5 : isA 6 5 := ⟨by decide, rfl, rfl⟩
theorem q6 : isK 13 6 := ⟨by decide, rfl⟩
theorem q7 : isK 2 7 := ⟨by decide, rfl⟩
theorem q8 : isA 4 8 := ⟨by decide, rfl, rfl⟩
theorem q9 : isK 2 9 := ⟨by decide, rfl⟩
theorem q10 : isA 4 10 := ⟨by decide, rfl, rfl⟩
theorem q11 : isK 2 11 := ⟨by decide, rfl⟩
theorem q12 : isA 4 12 := ⟨by decide, rfl, rfl⟩
theorem q13 : isK 2 13 := ⟨by decide, rfl⟩
theorem q14 : isA 4 14 := ⟨by decide, rfl, rfl⟩
theorem q15 : isK 2 15 := ⟨by decide, rfl⟩
theorem q16 : isA 4 16 := ⟨by decide, rfl, rfl⟩
theorem q17 : isK 5 17 := ⟨by decide, rfl⟩
theorem q18 : isA 8 18 := ⟨by decide, rfl, rfl⟩
theorem q19 : isA 8 19 := ⟨by decide, rfl, rfl⟩
theorem q20 : isA 6 20 := ⟨by decide, rfl, rfl⟩
theorem q21 : isA 6 21 := ⟨by decide, rfl, rfl⟩
theorem q22 : isK 8 22 := ⟨by decide, rfl⟩
theorem q23 : isK 1 23 := ⟨by decide, rfl⟩
theorem q24 : isA 6 24 := ⟨by decide, rfl, rfl⟩
theorem q25 : isA 6 25 := ⟨by decide, rfl, rfl⟩
theorem q26 : isA 6 26 := ⟨by decide, rfl, rfl⟩
theorem q27 : isA 6 27 := ⟨by decide, rfl, rfl⟩
theorem q28 : isK 13 28 := ⟨by decide, rfl⟩
theorem q29 : isK 2 29 := ⟨by decide, rfl⟩
theorem q30 : isA 4 30 := ⟨by decide, rfl, rfl⟩
theorem q31 : isK 2 31 := ⟨by decide, rfl⟩
theorem q32 : isA 4 32 := ⟨by decide, rfl, rfl⟩
theorem q33 : isK 2 33 := ⟨by decide, rfl⟩
theorem q34 : isA 4 34 := ⟨by decide, rfl, rfl⟩
theorem q35 : isK 2 35 := ⟨by decide, rfl⟩
theorem q36 : isA 4 36 := ⟨by decide, rfl, rfl⟩
theorem q37 : isK 2 37 := ⟨by decide, rfl⟩
theorem q38 : isA 4 38 := ⟨by decide, rfl, rfl⟩
theorem q39 : isA 8 39 := ⟨by decide, rfl, rfl⟩
theorem q40 : isK 0 40 := ⟨by decide, rfl⟩
theorem q41 : isK 16 41 := ⟨by decide, rfl⟩
theorem q42 : isA 7 42 := ⟨by decide, rfl, rfl⟩
theorem q43 : isA 7 43 := ⟨by decide, rfl, rfl⟩
theorem q44 : isA 7 44 := ⟨by decide, rfl, rfl⟩
theorem q45 : isA 7 45 := ⟨by decide, rfl, rfl⟩
theorem q46 : isA 7 46 := ⟨by decide, rfl, rfl⟩
theorem q47 : isA 7 47 := ⟨by decide, rfl, rfl⟩
theorem q48 : isA 7 48 := ⟨by decide, rfl, rfl⟩
theorem q49 : isA 7 49 := ⟨by decide, rfl, rfl⟩
theorem q50 : isK 7 50 := ⟨by decide, rfl⟩
theorem q51 : isA 160 51 := ⟨by decide, rfl, rfl⟩
theorem q52 : isK 4 52 := ⟨by decide, rfl⟩
theorem q53 : isK 1 53 := ⟨by decide, rfl⟩
theorem q54 : isA 6 54 := ⟨by decide, rfl, rfl⟩
theorem q55 : isA 6 55 := ⟨by decide, rfl, rfl⟩
theorem q56 : isA 6 56 := ⟨by decide, rfl, rfl⟩
theorem q57 : isA 6 57 := ⟨by decide, rfl, rfl⟩
theorem q58 : isK 13 58 := ⟨by decide, rfl⟩
theorem q59 : isK 2 59 := ⟨by decide, rfl⟩
theorem q60 : isA 4 60 := ⟨by decide, rfl, rfl⟩
theorem q61 : isK 2 61 := ⟨by decide, rfl⟩
theorem q62 : isA 4 62 := ⟨by decide, rfl, rfl⟩
theorem q63 : isK 2 63 := ⟨by decide, rfl⟩
theorem q64 : isA 4 64 := ⟨by decide, rfl, rfl⟩
theorem q65 : isK 2 65 := ⟨by decide, rfl⟩
theorem q66 : isA 4 66 := ⟨by decide, rfl, rfl⟩
theorem q67 : isK 2 67 := ⟨by decide, rfl⟩
theorem q68 : isA 4 68 := ⟨by decide, rfl, rfl⟩
theorem q69 : isK 5 69 := ⟨by decide, rfl⟩
theorem q70 : isA 8 70 := ⟨by decide, rfl, rfl⟩
theorem q71 : isA 8 71 := ⟨by decide, rfl, rfl⟩
theorem q72 : isA 6 72 := ⟨by decide, rfl, rfl⟩
theorem q73 : isA 6 73 := ⟨by decide, rfl, rfl⟩
theorem q74 : isK 14 74 := ⟨by decide, rfl⟩
theorem q75 : isK 3 75 := ⟨by decide, rfl⟩
theorem q76 : isK 1 76 := ⟨by decide, rfl⟩
theorem q77 : isA 6 77 := ⟨by decide, rfl, rfl⟩
theorem q78 : isA 6 78 := ⟨by decide, rfl, rfl⟩
theorem q79 : isA 6 79 := ⟨by decide, rfl, rfl⟩
theorem q80 : isA 6 80 := ⟨by decide, rfl, rfl⟩
theorem q81 : isK 13 81 := ⟨by decide, rfl⟩
theorem q82 : isK 2 82 := ⟨by decide, rfl⟩
theorem q83 : isA 4 83 := ⟨by decide, rfl, rfl⟩
theorem q84 : isK 2 84 := ⟨by decide, rfl⟩
theorem q85 : isA 4 85 := ⟨by decide, rfl, rfl⟩
theorem q86 : isK 2 86 := ⟨by decide, rfl⟩
theorem q87 : isA 4 87 := ⟨by decide, rfl, rfl⟩
theorem q88 : isK 2 88 := ⟨by decide, rfl⟩
theorem q89 : isA 4 89 := ⟨by decide, rfl, rfl⟩
theorem q90 : isK 2 90 := ⟨by decide, rfl⟩
theorem q91 : isA 4 91 := ⟨by decide, rfl, rfl⟩
theorem q92 : isK 5 92 := ⟨by decide, rfl⟩
theorem q93 : isA 8 93 := ⟨by decide, rfl, rfl⟩
theorem q94 : isA 8 94 := ⟨by decide, rfl, rfl⟩
theorem q95 : isA 6 95 := ⟨by decide, rfl, rfl⟩
theorem q96 : isA 6 96 := ⟨by decide, rfl, rfl⟩
theorem q97 : isK 3 97 := ⟨by decide, rfl⟩
theorem q98 : isK 1 98 := ⟨by decide, rfl⟩
theorem q99 : isA 6 99 := ⟨by decide, rfl, rfl⟩
theorem q100 : isA 6 100 := ⟨by decide, rfl, rfl⟩
theorem q101 : isA 6 101 := ⟨by decide, rfl, rfl⟩
theorem q102 : isA 6 102 := ⟨by decide, rfl, rfl⟩
theorem q103 : isK 13 103 := ⟨by decide, rfl⟩
theorem q104 : isK 2 104 := ⟨by decide, rfl⟩
theorem q105 : isA 4 105 := ⟨by decide, rfl, rfl⟩
theorem q106 : isK 2 106 := ⟨by decide, rfl⟩
theorem q107 : isA 4 107 := ⟨by decide, rfl, rfl⟩
theorem q108 : isK 2 108 := ⟨by decide, rfl⟩
theorem q109 : isA 4 109 := ⟨by decide, rfl, rfl⟩
theorem q110 : isK 2 110 := ⟨by decide, rfl⟩
theorem q111 : isA 4 111 := ⟨by decide, rfl, rfl⟩
theorem q112 : isK 2 112 := ⟨by decide, rfl⟩
theorem q113 : isA 4 113 := ⟨by decide, rfl, rfl⟩
theorem q114 : isK 5 114 := ⟨by decide, rfl⟩
theorem q115 : isA 8 115 := ⟨by decide, rfl, rfl⟩
theorem q116 : isA 8 116 := ⟨by decide, rfl, rfl⟩
theorem q117 : isA 6 117 := ⟨by decide, rfl, rfl⟩
theorem q118 : isA 6 118 := ⟨by decide, rfl, rfl⟩
theorem q119 : isK 15 119 := ⟨by decide, rfl⟩
theorem q120 : isK 6 120 := ⟨by decide, rfl⟩
theorem q121 : isA 40 121 := ⟨by decide, rfl, rfl⟩
theorem q122 : isK 6 122 := ⟨by decide, rfl⟩
theorem q123 : isA 40 123 := ⟨by decide, rfl, rfl⟩
theorem q124 : isK 6 124 := ⟨by decide, rfl⟩
theorem q125 : isA 40 125 := ⟨by decide, rfl, rfl⟩
theorem q126 : isK 6 126 := ⟨by decide, rfl⟩
theorem q127 : isA 40 127 := ⟨by decide, rfl, rfl⟩
theorem q128 : isK 10 128 := ⟨by decide, rfl⟩
theorem q129 : isA 288 129 := ⟨by decide, rfl, rfl⟩
theorem q130 : isA 96 130 := ⟨by decide, rfl, rfl⟩
theorem q131 : isZ 2 131 := ⟨by decide, rfl, rfl⟩
theorem q132 : isA 96 132 := ⟨by decide, rfl, rfl⟩
theorem q133 : isA 160 133 := ⟨by decide, rfl, rfl⟩
theorem q134 : isA 8 134 := ⟨by decide, rfl, rfl⟩
theorem q135 : isA 56 135 := ⟨by decide, rfl, rfl⟩
theorem q136 : isA 4 136 := ⟨by decide, rfl, rfl⟩
theorem q137 : isA 4 137 := ⟨by decide, rfl, rfl⟩
theorem q138 : isA 160 138 := ⟨by decide, rfl, rfl⟩
theorem q139 : isA 96 139 := ⟨by decide, rfl, rfl⟩
theorem st_1_3 {i : Nat} (h : isK 1 i) : isA 6 (i + 1) := (by decide +kernel : ∀ i, i < 140 → kd i = 1 → (i + 1 < 140 ∧ kd (i + 1) = 11 ∧ ln (i + 1) = 6)) i h.1 h.2
theorem st_1_4 {i : Nat} (h : isK 1 i) : isA 6 (i + 2) := (by decide +kernel : ∀ i, i < 140 → kd i = 1 → (i + 2 < 140 ∧ kd (i + 2) = 11 ∧ ln (i + 2) = 6)) i h.1 h.2
theorem st_1_5 {i : Nat} (h : isK 1 i) : isA 6 (i + 3) := (by decide +kernel : ∀ i, i < 140 → kd i = 1 → (i + 3 < 140 ∧ kd (i + 3) = 11 ∧ ln (i + 3) = 6)) i h.1 h.2
theorem st_1_6 {i : Nat} (h : isK 1 i) : isA 6 (i + 4) := (by decide +kernel : ∀ i, i < 140 → kd i = 1 → (i + 4 < 140 ∧ kd (i + 4) = 11 ∧ ln (i + 4) = 6)) i h.1 h.2
theorem st_1_7 {i : Nat} (h : isK 1 i) : isK 13 (i + 5) := (by decide +kernel : ∀ i, i < 140 → kd i = 1 → (i + 5 < 140 ∧ kd (i + 5) = 13)) i h.1 h.2
theorem st_2_5 {i : Nat} (h : isK 2 i) : isA 4 (i + 1) := (by decide +kernel : ∀ i, i < 140 → kd i = 2 → (i + 1 < 140 ∧ kd (i + 1) = 11 ∧ ln (i + 1) = 4)) i h.1 h.2
theorem st_3_1 {i : Nat} (h : isK 3 i) : isK 1 (i + 1) := (by decide +kernel : ∀ i, i < 140 → kd i = 3 → (i + 1 < 140 ∧ kd (i + 1) = 1)) i h.1 h.2
theorem st_3_2 {i : Nat} (h : isK 3 i) : isK 5 (i + 17) := (by decide +kernel : ∀ i, i < 140 → kd i = 3 → (i + 17 < 140 ∧ kd (i + 17) = 5)) i h.1 h.2
theorem st_5_2 {i : Nat} (h : isK 5 i) : isA 8 (i + 1) := (by decide +kernel : ∀ i, i < 140 → kd i = 5 → (i + 1 < 140 ∧ kd (i + 1) = 11 ∧ ln (i + 1) = 8)) i h.1 h.2
theorem st_5_3 {i : Nat} (h : isK 5 i) : isA 8 (i + 2) := (by decide +kernel : ∀ i, i < 140 → kd i = 5 → (i + 2 < 140 ∧ kd (i + 2) = 11 ∧ ln (i + 2) = 8)) i h.1 h.2
theorem st_5_4 {i : Nat} (h : isK 5 i) : isA 6 (i + 3) := (by decide +kernel : ∀ i, i < 140 → kd i = 5 → (i + 3 < 140 ∧ kd (i + 3) = 11 ∧ ln (i + 3) = 6)) i h.1 h.2
theorem st_5_5 {i : Nat} (h : isK 5 i) : isA 6 (i + 4) := (by decide +kernel : ∀ i, i < 140 → kd i = 5 → (i + 4 < 140 ∧ kd (i + 4) = 11 ∧ ln (i + 4) = 6)) i h.1 h.2
theorem st_6_2 {i : Nat} (h : isK 6 i) : isA 40 (i + 1) := (by decide +kernel : ∀ i, i < 140 → kd i = 6 → (i + 1 < 140 ∧ kd (i + 1) = 11 ∧ ln (i + 1) = 40)) i h.1 h.2
theorem el_13 {i g : Nat} {x : Int32} (h : isK 13 i) (hx : vp_in x 5) (e : g = i + 1 + 2 * x.toNatClampNeg) : isK 2 g := by
  subst e
  have hlt : x.toNatClampNeg < 5 := Nat.not_le.mp fun q => hx (Or.inr q)
  exact (by decide +kernel : ∀ i, i < 140 → kd i = 13 → ∀ t, t < 5 → (i + 1 + 2 * t < 140 ∧ kd (i + 1 + 2 * t) = 2)) i h.1 h.2 _ hlt
theorem el_14 {i g : Nat} {x : Int32} (h : isK 14 i) (hx : vp_in x 2) (e : g = i + 1 + 22 * x.toNatClampNeg) : isK 3 g := by
  subst e
  have hlt : x.toNatClampNeg < 2 := Nat.not_le.mp fun q => hx (Or.inr q)
  exact (by decide +kernel : ∀ i, i < 140 → kd i = 14 → ∀ t, t < 2 → (i + 1 + 22 * t < 140 ∧ kd (i + 1 + 22 * t) = 3)) i h.1 h.2 _ hlt
theorem el_15 {i g : Nat} {x : Int32} (h : isK 15 i) (hx : vp_in x 4) (e : g = i + 1 + 2 * x.toNatClampNeg) : isK 6 g := by
  subst e
  have hlt : x.toNatClampNeg < 4 := Nat.not_le.mp fun q => hx (Or.inr q)
  exact (by decide +kernel : ∀ i, i < 140 → kd i = 15 → ∀ t, t < 4 → (i + 1 + 2 * t < 140 ∧ kd (i + 1 + 2 * t) = 6)) i h.1 h.2 _ hlt
theorem el_16 {i g : Nat} {x : Int32} (h : isK 16 i) (hx : vp_in x 8) (e : g = i + 1 + x.toNatClampNeg) : isA 7 g := by
  subst e
  have hlt : x.toNatClampNeg < 8 := Nat.not_le.mp fun q => hx (Or.inr q)
  exact (by decide +kernel : ∀ i, i < 140 → kd i = 16 → ∀ t, t < 8 → (i + 1 + t < 140 ∧ kd (i + 1 + t) = 11 ∧ ln (i + 1 + t) = 7)) i h.1 h.2 _ hlt
theorem in_X0 : ∀ w ∈ u_ws RX0 TX0 2, w ∈ TB := by
  intro w hw
  have h : (u_ws RX0 TX0 2).all (fun w => decide (w ∈ lw_tbl) && goodWord w) = true := by decide +kernel
  have h1 := List.all_eq_true.mp h w hw
  simp only [Bool.and_eq_true, decide_eq_true_eq] at h1
  exact List.mem_filter.mpr h1
theorem in_X1 : ∀ w ∈ u_ws RX1 TX1 8, w ∈ TB := by
  intro w hw
  have h : (u_ws RX1 TX1 8).all (fun w => decide (w ∈ lw_tbl) && goodWord w) = true := by decide +kernel
  have h1 := List.all_eq_true.mp h w hw
  simp only [Bool.and_eq_true, decide_eq_true_eq] at h1
  exact List.mem_filter.mpr h1
theorem in_X2 : ∀ w ∈ u_ws RX2 TX2 6, w ∈ TB := by
  intro w hw
  have h : (u_ws RX2 TX2 6).all (fun w => decide (w ∈ lw_tbl) && goodWord w) = true := by decide +kernel
  have h1 := List.all_eq_true.mp h w hw
  simp only [Bool.and_eq_true, decide_eq_true_eq] at h1
  exact List.mem_filter.mpr h1
theorem in_X3 : ∀ w ∈ u_ws RX3 TX3 3, w ∈ TB := by
  intro w hw
  have h : (u_ws RX3 TX3 3).all (fun w => decide (w ∈ lw_tbl) && goodWord w) = true := by decide +kernel
  have h1 := List.all_eq_true.mp h w hw
  simp only [Bool.and_eq_true, decide_eq_true_eq] at h1
  exact List.mem_filter.mpr h1
theorem in_X4 : ∀ w ∈ u_ws RX4 TX4 9, w ∈ TB := by
  intro w hw
  have h : (u_ws RX4 TX4 9).all (fun w => decide (w ∈ lw_tbl) && goodWord w) = true := by decide +kernel
  have h1 := List.all_eq_true.mp h w hw
  simp only [Bool.and_eq_true, decide_eq_true_eq] at h1
  exact List.mem_filter.mpr h1
theorem in_X5 : ∀ w ∈ u_ws RX5 TX5 6, w ∈ TB := by
  intro w hw
  have h : (u_ws RX5 TX5 6).all (fun w => decide (w ∈ lw_tbl) && goodWord w) = true := by decide +kernel
  have h1 := List.all_eq_true.mp h w hw
  simp only [Bool.and_eq_true, decide_eq_true_eq] at h1
  exact List.mem_filter.mpr h1
theorem in_X6 : ∀ w ∈ u_ws RX6 TX6 3, w ∈ TB := by
  intro w hw
  have h : (u_ws RX6 TX6 3).all (fun w => decide (w ∈ lw_tbl) && goodWord w) = true := by decide +kernel
  have h1 := List.all_eq_true.mp h w hw
  simp only [Bool.and_eq_true, decide_eq_true_eq] at h1
  exact List.mem_filter.mpr h1
theorem in_X7 : ∀ w ∈ u_ws RX7 TX7 6, w ∈ TB := by
  intro w hw
  have h : (u_ws RX7 TX7 6).all (fun w => decide (w ∈ lw_tbl) && goodWord w) = true := by decide +kernel
  have h1 := List.all_eq_true.mp h w hw
  simp only [Bool.and_eq_true, decide_eq_true_eq] at h1
  exact List.mem_filter.mpr h1
theorem in_X8 : ∀ w ∈ u_ws RX8 TX8 6, w ∈ TB := by
  intro w hw
  have h : (u_ws RX8 TX8 6).all (fun w => decide (w ∈ lw_tbl) && goodWord w) = true := by decide +kernel
  have h1 := List.all_eq_true.mp h w hw
  simp only [Bool.and_eq_true, decide_eq_true_eq] at h1
  exact List.mem_filter.mpr h1
theorem in_X9 : ∀ w ∈ u_ws RX9 TX9 11, w ∈ TB := by
  intro w hw
  have h : (u_ws RX9 TX9 11).all (fun w => decide (w ∈ lw_tbl) && goodWord w) = true := by decide +kernel
  have h1 := List.all_eq_true.mp h w hw
  simp only [Bool.and_eq_true, decide_eq_true_eq] at h1
  exact List.mem_filter.mpr h1
theorem in_X10 : ∀ w ∈ u_ws RX10 TX10 28, w ∈ TB := by
  intro w hw
  have h : (u_ws RX10 TX10 28).all (fun w => decide (w ∈ lw_tbl) && goodWord w) = true := by decide +kernel
  have h1 := List.all_eq_true.mp h w hw
  simp only [Bool.and_eq_true, decide_eq_true_eq] at h1
  exact List.mem_filter.mpr h1
end
section
theorem dX2_clear_0 : decode cX2_clear 0 = .ok (.aload_n 0, 1) := by decide +kernel
theorem dX2_clear_1 : decode cX2_clear 1 = .ok (.iconst 0, 1) := by decide +kernel
theorem dX2_clear_2 : decode cX2_clear 2 = .ok (.putfield 9, 3) := by decide +kernel
theorem dX2_clear_5 : decode cX2_clear 5 = .ok (.aload_n 0, 1) := by decide +kernel
theorem dX2_clear_6 : decode cX2_clear 6 = .ok (.iconst 1, 1) := by decide +kernel
theorem dX2_clear_7 : decode cX2_clear 7 = .ok (.putfield 15, 3) := by decide +kernel
theorem dX2_clear_10 : decode cX2_clear 10 = .ok (.aload_n 0, 1) := by decide +kernel
theorem dX2_clear_11 : decode cX2_clear 11 = .ok (.iconst 0, 1) := by decide +kernel
theorem dX2_clear_12 : decode cX2_clear 12 = .ok (.putfield 18, 3) := by decide +kernel
theorem dX2_clear_15 : decode cX2_clear 15 = .ok (.aload_n 0, 1) := by decide +kernel
theorem dX2_clear_16 : decode cX2_clear 16 = .ok (.iconst 0, 1) := by decide +kernel
theorem dX2_clear_17 : decode cX2_clear 17 = .ok (.putfield 21, 3) := by decide +kernel
theorem dX2_clear_20 : decode cX2_clear 20 = .ok (.aload_n 0, 1) := by decide +kernel
theorem dX2_clear_21 : decode cX2_clear 21 = .ok (.bipush (-4), 2) := by decide +kernel
theorem dX2_clear_23 : decode cX2_clear 23 = .ok (.putfield 24, 3) := by decide +kernel
theorem dX2_clear_26 : decode cX2_clear 26 = .ok (.iconst 0, 1) := by decide +kernel
theorem dX2_clear_27 : decode cX2_clear 27 = .ok (.istore_n 1, 1) := by decide +kernel
theorem dX2_clear_28 : decode cX2_clear 28 = .ok (.iload_n 1, 1) := by decide +kernel
theorem dX2_clear_29 : decode cX2_clear 29 = .ok (.iconst 4, 1) := by decide +kernel
theorem dX2_clear_30 : decode cX2_clear 30 = .ok (.if_icmp .ge 16, 3) := by decide +kernel
theorem dX2_clear_33 : decode cX2_clear 33 = .ok (.aload_n 0, 1) := by decide +kernel
theorem dX2_clear_34 : decode cX2_clear 34 = .ok (.getfield 27, 3) := by decide +kernel
theorem dX2_clear_37 : decode cX2_clear 37 = .ok (.iload_n 1, 1) := by decide +kernel
theorem dX2_clear_38 : decode cX2_clear 38 = .ok (.iconst 0, 1) := by decide +kernel
theorem dX2_clear_39 : decode cX2_clear 39 = .ok (.iastore, 1) := by decide +kernel
theorem dX2_clear_40 : decode cX2_clear 40 = .ok (.iinc 1 1, 3) := by decide +kernel
theorem dX2_clear_43 : decode cX2_clear 43 = .ok (.goto (-15), 3) := by decide +kernel
theorem dX2_clear_46 : decode cX2_clear 46 = .ok (.return_, 1) := by decide +kernel
theorem gf_X2_27 {ω : WD} {ρ : FR} {M : Mem} {cc : ByteArray} {d n pc i : Nat} {lv : List (Nat × Value)} {rest : List Value} (C : Cx ω ρ cc RX2 d n) (hk : isK 2 i) (hd : decode cc pc = .ok (.getfield 27, 3)) (k : G ω ρ M (pc + 3) lv (.ref (adr ω (i + 1)) :: rest)) : G ω ρ M pc lv (.ref (adr ω i) :: rest) := G_get (N := 6) (T := TX2) (C := RX2) (q := 5) C hk (by decide) rfl in_X2 (by decide) (tb_of 114 ⟨by decide +kernel, rfl⟩) rfl rfl hd k
theorem pf_X2_9 {ω : WD} {ρ : FR} {M : Mem} {cc : ByteArray} {d n pc i : Nat} {lv : List (Nat × Value)} {rest : List Value} {v : Int32} (C : Cx ω ρ cc RX2 d n) (hk : isK 2 i) (hd : decode cc pc = .ok (.putfield 9, 3)) (k : ∀ M1, M1 = wr M i 0 v → G ω ρ M1 (pc + 3) lv rest) : G ω ρ M pc lv (.int v :: .ref (adr ω i) :: rest) := G_put (N := 6) (T := TX2) (C := RX2) (q := 0) (ty := .int) C hk (by decide) rfl in_X2 tyX2 tyX2_ok nmX2 (by decide) (tb_of 99 ⟨by decide +kernel, rfl⟩) rfl rfl (by decide +kernel) rfl rfl (fun _ _ => Nat.le_of_ble_eq_true rfl) (fun _ => rfl) hd (k _ rfl)
theorem pf_X2_15 {ω : WD} {ρ : FR} {M : Mem} {cc : ByteArray} {d n pc i : Nat} {lv : List (Nat × Value)} {rest : List Value} {v : Int32} (C : Cx ω ρ cc RX2 d n) (hk : isK 2 i) (hd : decode cc pc = .ok (.putfield 15, 3)) (k : ∀ M1, M1 = wr M i 1 v → G ω ρ M1 (pc + 3) lv rest) : G ω ρ M pc lv (.int v :: .ref (adr ω i) :: rest) := G_put (N := 6) (T := TX2) (C := RX2) (q := 1) (ty := .int) C hk (by decide) rfl in_X2 tyX2 tyX2_ok nmX2 (by decide) (tb_of 102 ⟨by decide +kernel, rfl⟩) rfl rfl (by decide +kernel) rfl rfl (fun _ _ => Nat.le_of_ble_eq_true rfl) (fun _ => rfl) hd (k _ rfl)
theorem pf_X2_18 {ω : WD} {ρ : FR} {M : Mem} {cc : ByteArray} {d n pc i : Nat} {lv : List (Nat × Value)} {rest : List Value} {v : Int32} (C : Cx ω ρ cc RX2 d n) (hk : isK 2 i) (hd : decode cc pc = .ok (.putfield 18, 3)) (k : ∀ M1, M1 = wr M i 2 v → G ω ρ M1 (pc + 3) lv rest) : G ω ρ M pc lv (.int v :: .ref (adr ω i) :: rest) := G_put (N := 6) (T := TX2) (C := RX2) (q := 2) (ty := .int) C hk (by decide) rfl in_X2 tyX2 tyX2_ok nmX2 (by decide) (tb_of 105 ⟨by decide +kernel, rfl⟩) rfl rfl (by decide +kernel) rfl rfl (fun _ _ => Nat.le_of_ble_eq_true rfl) (fun _ => rfl) hd (k _ rfl)
theorem pf_X2_21 {ω : WD} {ρ : FR} {M : Mem} {cc : ByteArray} {d n pc i : Nat} {lv : List (Nat × Value)} {rest : List Value} {v : Int32} (C : Cx ω ρ cc RX2 d n) (hk : isK 2 i) (hd : decode cc pc = .ok (.putfield 21, 3)) (k : ∀ M1, M1 = wr M i 3 v → G ω ρ M1 (pc + 3) lv rest) : G ω ρ M pc lv (.int v :: .ref (adr ω i) :: rest) := G_put (N := 6) (T := TX2) (C := RX2) (q := 3) (ty := .int) C hk (by decide) rfl in_X2 tyX2 tyX2_ok nmX2 (by decide) (tb_of 108 ⟨by decide +kernel, rfl⟩) rfl rfl (by decide +kernel) rfl rfl (fun _ _ => Nat.le_of_ble_eq_true rfl) (fun _ => rfl) hd (k _ rfl)
theorem pf_X2_24 {ω : WD} {ρ : FR} {M : Mem} {cc : ByteArray} {d n pc i : Nat} {lv : List (Nat × Value)} {rest : List Value} {v : Int32} (C : Cx ω ρ cc RX2 d n) (hk : isK 2 i) (hd : decode cc pc = .ok (.putfield 24, 3)) (k : ∀ M1, M1 = wr M i 4 v → G ω ρ M1 (pc + 3) lv rest) : G ω ρ M pc lv (.int v :: .ref (adr ω i) :: rest) := G_put (N := 6) (T := TX2) (C := RX2) (q := 4) (ty := .int) C hk (by decide) rfl in_X2 tyX2 tyX2_ok nmX2 (by decide) (tb_of 111 ⟨by decide +kernel, rfl⟩) rfl rfl (by decide +kernel) rfl rfl (fun _ _ => Nat.le_of_ble_eq_true rfl) (fun _ => rfl) hd (k _ rfl)
def w_X2_clear_L28 (x : Nat) (post : Mem → Prop) : Nat → Int32 → Mem → Prop
  | 0, _, _ => False
  | f + 1, l1, M => ((4 ≤ l1 → post M) ∧ (¬ 4 ≤ l1 → vp_in l1 4 ∧ (∀ M1 : Mem, M1 = wr M (x + 1) l1.toNatClampNeg 0 → ∀ v2 : Int32, v2 = (l1 + 1) → (w_X2_clear_L28 x post f) v2 M1)))
set_option maxRecDepth 100000 in
set_option maxHeartbeats 4000000 in
theorem s_X2_clear_L28 {ω : WD} {ρ : FR} {post : Mem → Prop} (C : Cx ω ρ cX2_clear RX2 0 2) (R : RtV ω ρ cX2_clear post) {x : Nat} (hx : isK 2 x) : ∀ (f : Nat) (l1 : Int32) (M : Mem), w_X2_clear_L28 x post f l1 M → G ω ρ M 28 [(0, .ref (adr ω x)), (1, .int l1)] [] := by
  intro f
  induction f with
  | zero => intro l1 M h; exact False.elim h
  | succ f k28 =>
    intro l1 M h
    refine G_iload_n C dX2_clear_28 1 rfl ?_
    refine G_iconst (v := 4) C dX2_clear_29 (by decide) ?_
    obtain ⟨h1, h2⟩ := h
    refine G_icmp_ge (tgt := 46) C dX2_clear_30 (by decide) (fun c => ?_) (fun c => ?_)
    · have h := h1 c
      clear h1 h2
      exact R 46 _ _ dX2_clear_46 h
    · have h := h2 c
      clear h1 h2
      refine G_aload_n C dX2_clear_33 0 rfl ?_
      refine gf_X2_27 C hx dX2_clear_34 ?_
      refine G_iload_n C dX2_clear_37 1 rfl ?_
      refine G_iconst (v := 0) C dX2_clear_38 (by decide) ?_
      obtain ⟨hi, h⟩ := h
      refine G_iast C (st_2_5 hx) hi dX2_clear_39 (G_mname (fun M1 eM1 => ?_))
      replace h := h M1 eM1
      obtain ⟨v2, ev2⟩ : ∃ y : Int32, y = (l1 + 1) := ⟨_, rfl⟩
      replace h := h v2 ev2
      refine G_iinc C dX2_clear_40 1 rfl (v := v2) (by rw [ev2]; rfl) (by decide) (lv' := [(1, .int v2), (0, .ref (adr ω x))]) rfl ?_
      refine G_goto (tgt := 28) C dX2_clear_43 (by decide) ?_
      refine G_sub [1, 0] (lv' := [(0, .ref (adr ω x)), (1, .int v2)]) rfl ?_
      exact k28 _ _ h
def w_X2_clear (x : Nat) (M : Mem) (post : Mem → Prop) : Prop := ∀ M3 : Mem, M3 = wr M x 0 0 → ∀ M4 : Mem, M4 = wr M3 x 1 1 → ∀ M5 : Mem, M5 = wr M4 x 2 0 → ∀ M6 : Mem, M6 = wr M5 x 3 0 → ∀ M7 : Mem, M7 = wr M6 x 4 (-4) → ∃ g28 : Nat, w_X2_clear_L28 x post g28 0 M7
set_option maxRecDepth 100000 in
set_option maxHeartbeats 4000000 in
theorem S_X2_clear {ω : WD} {x : Nat} {M : Mem} {post : Mem → Prop} (hx : isK 2 x) (h : w_X2_clear x M post) : MtV ω yX2_clear cX2_clear 2 none 0 [.ref (adr ω x)] M post := by
  refine MtV.start rfl (by decide +kernel) (own := RX2) rfl (Nat.le_of_ble_eq_true rfl) (fun ρ C R => ?_)
  show G ω ρ M 0 [(0, .ref (adr ω x))] []
  refine G_aload_n C dX2_clear_0 0 rfl ?_
  refine G_iconst (v := 0) C dX2_clear_1 (by decide) ?_
  refine pf_X2_9 C hx dX2_clear_2 (fun M3 eM3 => ?_)
  replace h := h M3 eM3
  refine G_aload_n C dX2_clear_5 0 rfl ?_
  refine G_iconst (v := 1) C dX2_clear_6 (by decide) ?_
  refine pf_X2_15 C hx dX2_clear_7 (fun M4 eM4 => ?_)
  replace h := h M4 eM4
  refine G_aload_n C dX2_clear_10 0 rfl ?_
  refine G_iconst (v := 0) C dX2_clear_11 (by decide) ?_
  refine pf_X2_18 C hx dX2_clear_12 (fun M5 eM5 => ?_)
  replace h := h M5 eM5
  refine G_aload_n C dX2_clear_15 0 rfl ?_
  refine G_iconst (v := 0) C dX2_clear_16 (by decide) ?_
  refine pf_X2_21 C hx dX2_clear_17 (fun M6 eM6 => ?_)
  replace h := h M6 eM6
  refine G_aload_n C dX2_clear_20 0 rfl ?_
  refine G_bipush (v := (-4)) C dX2_clear_21 (by decide) ?_
  refine pf_X2_24 C hx dX2_clear_23 (fun M7 eM7 => ?_)
  replace h := h M7 eM7
  refine G_iconst (v := 0) C dX2_clear_26 (by decide) ?_
  refine G_istore_n C dX2_clear_27 (by decide) (lv' := [(1, .int 0), (0, .ref (adr ω x))]) rfl ?_
  refine G_sub [1, 0] (lv' := [(0, .ref (adr ω x)), (1, .int 0)]) rfl ?_
  obtain ⟨f, h⟩ := h
  exact s_X2_clear_L28 C R hx f _ _ h
theorem dX2_copyFrom_0 : decode cX2_copyFrom 0 = .ok (.aload_n 0, 1) := by decide +kernel
theorem dX2_copyFrom_1 : decode cX2_copyFrom 1 = .ok (.aload_n 1, 1) := by decide +kernel
theorem dX2_copyFrom_2 : decode cX2_copyFrom 2 = .ok (.getfield 9, 3) := by decide +kernel
theorem dX2_copyFrom_5 : decode cX2_copyFrom 5 = .ok (.putfield 9, 3) := by decide +kernel
theorem dX2_copyFrom_8 : decode cX2_copyFrom 8 = .ok (.aload_n 0, 1) := by decide +kernel
theorem dX2_copyFrom_9 : decode cX2_copyFrom 9 = .ok (.aload_n 1, 1) := by decide +kernel
theorem dX2_copyFrom_10 : decode cX2_copyFrom 10 = .ok (.getfield 15, 3) := by decide +kernel
theorem dX2_copyFrom_13 : decode cX2_copyFrom 13 = .ok (.putfield 15, 3) := by decide +kernel
theorem dX2_copyFrom_16 : decode cX2_copyFrom 16 = .ok (.aload_n 0, 1) := by decide +kernel
theorem dX2_copyFrom_17 : decode cX2_copyFrom 17 = .ok (.aload_n 1, 1) := by decide +kernel
theorem dX2_copyFrom_18 : decode cX2_copyFrom 18 = .ok (.getfield 18, 3) := by decide +kernel
theorem dX2_copyFrom_21 : decode cX2_copyFrom 21 = .ok (.putfield 18, 3) := by decide +kernel
theorem dX2_copyFrom_24 : decode cX2_copyFrom 24 = .ok (.aload_n 0, 1) := by decide +kernel
theorem dX2_copyFrom_25 : decode cX2_copyFrom 25 = .ok (.aload_n 1, 1) := by decide +kernel
theorem dX2_copyFrom_26 : decode cX2_copyFrom 26 = .ok (.getfield 21, 3) := by decide +kernel
theorem dX2_copyFrom_29 : decode cX2_copyFrom 29 = .ok (.putfield 21, 3) := by decide +kernel
theorem dX2_copyFrom_32 : decode cX2_copyFrom 32 = .ok (.aload_n 0, 1) := by decide +kernel
theorem dX2_copyFrom_33 : decode cX2_copyFrom 33 = .ok (.aload_n 1, 1) := by decide +kernel
theorem dX2_copyFrom_34 : decode cX2_copyFrom 34 = .ok (.getfield 24, 3) := by decide +kernel
theorem dX2_copyFrom_37 : decode cX2_copyFrom 37 = .ok (.putfield 24, 3) := by decide +kernel
theorem dX2_copyFrom_40 : decode cX2_copyFrom 40 = .ok (.iconst 0, 1) := by decide +kernel
theorem dX2_copyFrom_41 : decode cX2_copyFrom 41 = .ok (.istore_n 2, 1) := by decide +kernel
theorem dX2_copyFrom_42 : decode cX2_copyFrom 42 = .ok (.iload_n 2, 1) := by decide +kernel
theorem dX2_copyFrom_43 : decode cX2_copyFrom 43 = .ok (.iconst 4, 1) := by decide +kernel
theorem dX2_copyFrom_44 : decode cX2_copyFrom 44 = .ok (.if_icmp .ge 21, 3) := by decide +kernel
theorem dX2_copyFrom_47 : decode cX2_copyFrom 47 = .ok (.aload_n 0, 1) := by decide +kernel
theorem dX2_copyFrom_48 : decode cX2_copyFrom 48 = .ok (.getfield 27, 3) := by decide +kernel
theorem dX2_copyFrom_51 : decode cX2_copyFrom 51 = .ok (.iload_n 2, 1) := by decide +kernel
theorem dX2_copyFrom_52 : decode cX2_copyFrom 52 = .ok (.aload_n 1, 1) := by decide +kernel
theorem dX2_copyFrom_53 : decode cX2_copyFrom 53 = .ok (.getfield 27, 3) := by decide +kernel
theorem dX2_copyFrom_56 : decode cX2_copyFrom 56 = .ok (.iload_n 2, 1) := by decide +kernel
theorem dX2_copyFrom_57 : decode cX2_copyFrom 57 = .ok (.iaload, 1) := by decide +kernel
theorem dX2_copyFrom_58 : decode cX2_copyFrom 58 = .ok (.iastore, 1) := by decide +kernel
theorem dX2_copyFrom_59 : decode cX2_copyFrom 59 = .ok (.iinc 2 1, 3) := by decide +kernel
theorem dX2_copyFrom_62 : decode cX2_copyFrom 62 = .ok (.goto (-20), 3) := by decide +kernel
theorem dX2_copyFrom_65 : decode cX2_copyFrom 65 = .ok (.return_, 1) := by decide +kernel
theorem gf_X2_9 {ω : WD} {ρ : FR} {M : Mem} {cc : ByteArray} {d n pc i : Nat} {lv : List (Nat × Value)} {rest : List Value} (C : Cx ω ρ cc RX2 d n) (hk : isK 2 i) (hd : decode cc pc = .ok (.getfield 9, 3)) (k : G ω ρ M (pc + 3) lv (.int (rd M i 0) :: rest)) : G ω ρ M pc lv (.ref (adr ω i) :: rest) := G_get (N := 6) (T := TX2) (C := RX2) (q := 0) C hk (by decide) rfl in_X2 (by decide) (tb_of 99 ⟨by decide +kernel, rfl⟩) rfl rfl hd k
theorem gf_X2_15 {ω : WD} {ρ : FR} {M : Mem} {cc : ByteArray} {d n pc i : Nat} {lv : List (Nat × Value)} {rest : List Value} (C : Cx ω ρ cc RX2 d n) (hk : isK 2 i) (hd : decode cc pc = .ok (.getfield 15, 3)) (k : G ω ρ M (pc + 3) lv (.int (rd M i 1) :: rest)) : G ω ρ M pc lv (.ref (adr ω i) :: rest) := G_get (N := 6) (T := TX2) (C := RX2) (q := 1) C hk (by decide) rfl in_X2 (by decide) (tb_of 102 ⟨by decide +kernel, rfl⟩) rfl rfl hd k
theorem gf_X2_18 {ω : WD} {ρ : FR} {M : Mem} {cc : ByteArray} {d n pc i : Nat} {lv : List (Nat × Value)} {rest : List Value} (C : Cx ω ρ cc RX2 d n) (hk : isK 2 i) (hd : decode cc pc = .ok (.getfield 18, 3)) (k : G ω ρ M (pc + 3) lv (.int (rd M i 2) :: rest)) : G ω ρ M pc lv (.ref (adr ω i) :: rest) := G_get (N := 6) (T := TX2) (C := RX2) (q := 2) C hk (by decide) rfl in_X2 (by decide) (tb_of 105 ⟨by decide +kernel, rfl⟩) rfl rfl hd k
theorem gf_X2_21 {ω : WD} {ρ : FR} {M : Mem} {cc : ByteArray} {d n pc i : Nat} {lv : List (Nat × Value)} {rest : List Value} (C : Cx ω ρ cc RX2 d n) (hk : isK 2 i) (hd : decode cc pc = .ok (.getfield 21, 3)) (k : G ω ρ M (pc + 3) lv (.int (rd M i 3) :: rest)) : G ω ρ M pc lv (.ref (adr ω i) :: rest) := G_get (N := 6) (T := TX2) (C := RX2) (q := 3) C hk (by decide) rfl in_X2 (by decide) (tb_of 108 ⟨by decide +kernel, rfl⟩) rfl rfl hd k
theorem gf_X2_24 {ω : WD} {ρ : FR} {M : Mem} {cc : ByteArray} {d n pc i : Nat} {lv : List (Nat × Value)} {rest : List Value} (C : Cx ω ρ cc RX2 d n) (hk : isK 2 i) (hd : decode cc pc = .ok (.getfield 24, 3)) (k : G ω ρ M (pc + 3) lv (.int (rd M i 4) :: rest)) : G ω ρ M pc lv (.ref (adr ω i) :: rest) := G_get (N := 6) (T := TX2) (C := RX2) (q := 4) C hk (by decide) rfl in_X2 (by decide) (tb_of 111 ⟨by decide +kernel, rfl⟩) rfl rfl hd k
def w_X2_copyFrom_L42 (x : Nat) (y : Nat) (post : Mem → Prop) : Nat → Int32 → Mem → Prop
  | 0, _, _ => False
  | f + 1, l2, M => ((4 ≤ l2 → post M) ∧ (¬ 4 ≤ l2 → vp_in l2 4 ∧ (vp_in l2 4 ∧ (∀ M1 : Mem, M1 = wr M (x + 1) l2.toNatClampNeg (rd M (y + 1) l2.toNatClampNeg) → ∀ v2 : Int32, v2 = (l2 + 1) → (w_X2_copyFrom_L42 x y post f) v2 M1))))
set_option maxRecDepth 100000 in
set_option maxHeartbeats 4000000 in
theorem s_X2_copyFrom_L42 {ω : WD} {ρ : FR} {post : Mem → Prop} (C : Cx ω ρ cX2_copyFrom RX2 0 3) (R : RtV ω ρ cX2_copyFrom post) {x : Nat} {y : Nat} (hx : isK 2 x) (hy : isK 2 y) : ∀ (f : Nat) (l2 : Int32) (M : Mem), w_X2_copyFrom_L42 x y post f l2 M → G ω ρ M 42 [(0, .ref (adr ω x)), (1, .ref (adr ω y)), (2, .int l2)] [] := by
  intro f
  induction f with
  | zero => intro l2 M h; exact False.elim h
  | succ f k42 =>
    intro l2 M h
    refine G_iload_n C dX2_copyFrom_42 2 rfl ?_
    refine G_iconst (v := 4) C dX2_copyFrom_43 (by decide) ?_
    obtain ⟨h1, h2⟩ := h
    refine G_icmp_ge (tgt := 65) C dX2_copyFrom_44 (by decide) (fun c => ?_) (fun c => ?_)
    · have h := h1 c
      clear h1 h2
      exact R 65 _ _ dX2_copyFrom_65 h
    · have h := h2 c
      clear h1 h2
      refine G_aload_n C dX2_copyFrom_47 0 rfl ?_
      refine gf_X2_27 C hx dX2_copyFrom_48 ?_
      refine G_iload_n C dX2_copyFrom_51 2 rfl ?_
      refine G_aload_n C dX2_copyFrom_52 1 rfl ?_
      refine gf_X2_27 C hy dX2_copyFrom_53 ?_
      refine G_iload_n C dX2_copyFrom_56 2 rfl ?_
      obtain ⟨hi, h⟩ := h
      refine G_iald C (st_2_5 hy) hi dX2_copyFrom_57 ?_
      obtain ⟨hi, h⟩ := h
      refine G_iast C (st_2_5 hx) hi dX2_copyFrom_58 (G_mname (fun M1 eM1 => ?_))
      replace h := h M1 eM1
      obtain ⟨v2, ev2⟩ : ∃ y : Int32, y = (l2 + 1) := ⟨_, rfl⟩
      replace h := h v2 ev2
      refine G_iinc C dX2_copyFrom_59 2 rfl (v := v2) (by rw [ev2]; rfl) (by decide) (lv' := [(2, .int v2), (0, .ref (adr ω x)), (1, .ref (adr ω y))]) rfl ?_
      refine G_goto (tgt := 42) C dX2_copyFrom_62 (by decide) ?_
      refine G_sub [1, 2, 0] (lv' := [(0, .ref (adr ω x)), (1, .ref (adr ω y)), (2, .int v2)]) rfl ?_
      exact k42 _ _ h
def w_X2_copyFrom (x : Nat) (y : Nat) (M : Mem) (post : Mem → Prop) : Prop := ∀ M3 : Mem, M3 = wr M x 0 (rd M y 0) → ∀ M4 : Mem, M4 = wr M3 x 1 (rd M3 y 1) → ∀ M5 : Mem, M5 = wr M4 x 2 (rd M4 y 2) → ∀ M6 : Mem, M6 = wr M5 x 3 (rd M5 y 3) → ∀ M7 : Mem, M7 = wr M6 x 4 (rd M6 y 4) → ∃ g42 : Nat, w_X2_copyFrom_L42 x y post g42 0 M7
set_option maxRecDepth 100000 in
set_option maxHeartbeats 4000000 in
theorem S_X2_copyFrom {ω : WD} {x : Nat} {y : Nat} {M : Mem} {post : Mem → Prop} (hx : isK 2 x) (hy : isK 2 y) (h : w_X2_copyFrom x y M post) : MtV ω yX2_copyFrom cX2_copyFrom 3 none 0 [.ref (adr ω x), .ref (adr ω y)] M post := by
  refine MtV.start rfl (by decide +kernel) (own := RX2) rfl (Nat.le_of_ble_eq_true rfl) (fun ρ C R => ?_)
  show G ω ρ M 0 [(0, .ref (adr ω x)), (1, .ref (adr ω y))] []
  refine G_aload_n C dX2_copyFrom_0 0 rfl ?_
  refine G_aload_n C dX2_copyFrom_1 1 rfl ?_
  refine gf_X2_9 C hy dX2_copyFrom_2 ?_
  refine pf_X2_9 C hx dX2_copyFrom_5 (fun M3 eM3 => ?_)
  replace h := h M3 eM3
  refine G_aload_n C dX2_copyFrom_8 0 rfl ?_
  refine G_aload_n C dX2_copyFrom_9 1 rfl ?_
  refine gf_X2_15 C hy dX2_copyFrom_10 ?_
  refine pf_X2_15 C hx dX2_copyFrom_13 (fun M4 eM4 => ?_)
  replace h := h M4 eM4
  refine G_aload_n C dX2_copyFrom_16 0 rfl ?_
  refine G_aload_n C dX2_copyFrom_17 1 rfl ?_
  refine gf_X2_18 C hy dX2_copyFrom_18 ?_
  refine pf_X2_18 C hx dX2_copyFrom_21 (fun M5 eM5 => ?_)
  replace h := h M5 eM5
  refine G_aload_n C dX2_copyFrom_24 0 rfl ?_
  refine G_aload_n C dX2_copyFrom_25 1 rfl ?_
  refine gf_X2_21 C hy dX2_copyFrom_26 ?_
  refine pf_X2_21 C hx dX2_copyFrom_29 (fun M6 eM6 => ?_)
  replace h := h M6 eM6
  refine G_aload_n C dX2_copyFrom_32 0 rfl ?_
  refine G_aload_n C dX2_copyFrom_33 1 rfl ?_
  refine gf_X2_24 C hy dX2_copyFrom_34 ?_
  refine pf_X2_24 C hx dX2_copyFrom_37 (fun M7 eM7 => ?_)
  replace h := h M7 eM7
  refine G_iconst (v := 0) C dX2_copyFrom_40 (by decide) ?_
  refine G_istore_n C dX2_copyFrom_41 (by decide) (lv' := [(2, .int 0), (0, .ref (adr ω x)), (1, .ref (adr ω y))]) rfl ?_
  refine G_sub [1, 2, 0] (lv' := [(0, .ref (adr ω x)), (1, .ref (adr ω y)), (2, .int 0)]) rfl ?_
  obtain ⟨f, h⟩ := h
  exact s_X2_copyFrom_L42 C R hx hy f _ _ h
theorem dX2_isFreeFrom_0 : decode cX2_isFreeFrom 0 = .ok (.aload_n 0, 1) := by decide +kernel
theorem dX2_isFreeFrom_1 : decode cX2_isFreeFrom 1 = .ok (.getfield 21, 3) := by decide +kernel
theorem dX2_isFreeFrom_4 : decode cX2_isFreeFrom 4 = .ok (.iload_n 1, 1) := by decide +kernel
theorem dX2_isFreeFrom_5 : decode cX2_isFreeFrom 5 = .ok (.ishr, 1) := by decide +kernel
theorem dX2_isFreeFrom_6 : decode cX2_isFreeFrom 6 = .ok (.ifCond .ne 7, 3) := by decide +kernel
theorem dX2_isFreeFrom_9 : decode cX2_isFreeFrom 9 = .ok (.iconst 1, 1) := by decide +kernel
theorem dX2_isFreeFrom_10 : decode cX2_isFreeFrom 10 = .ok (.goto 4, 3) := by decide +kernel
theorem dX2_isFreeFrom_13 : decode cX2_isFreeFrom 13 = .ok (.iconst 0, 1) := by decide +kernel
theorem dX2_isFreeFrom_14 : decode cX2_isFreeFrom 14 = .ok (.ireturn, 1) := by decide +kernel
def w_X2_isFreeFrom (x : Nat) (l1 : Int32) (M : Mem) (post : Int32 → Mem → Prop) : Prop := ((¬ (ishr (rd M x 3) l1) = 0 → post 0 M) ∧ ((ishr (rd M x 3) l1) = 0 → post 1 M))
set_option maxRecDepth 100000 in
set_option maxHeartbeats 4000000 in
theorem S_X2_isFreeFrom {ω : WD} {x : Nat} {l1 : Int32} {M : Mem} {post : Int32 → Mem → Prop} (hx : isK 2 x) (h : w_X2_isFreeFrom x l1 M post) : MtI ω yX2_isFreeFrom cX2_isFreeFrom 2 (some .boolean) 0 [.ref (adr ω x), .int l1] M post := by
  refine MtI.start (ty := .boolean) rfl (by decide +kernel) (own := RX2) rfl (Nat.le_of_ble_eq_true rfl) (fun ρ C R => ?_)
  show G ω ρ M 0 [(0, .ref (adr ω x)), (1, .int l1)] []
  refine G_aload_n C dX2_isFreeFrom_0 0 rfl ?_
  refine gf_X2_21 C hx dX2_isFreeFrom_1 ?_
  refine G_iload_n C dX2_isFreeFrom_4 1 rfl ?_
  refine G_ishr C dX2_isFreeFrom_5 ?_
  obtain ⟨h1, h2⟩ := h
  refine G_if_ne (tgt := 13) C dX2_isFreeFrom_6 (by decide) (fun c => ?_) (fun c => ?_)
  · have h := h1 c
    clear h1 h2
    refine G_iconst (v := 0) C dX2_isFreeFrom_13 (by decide) ?_
    exact R 14 _ _ _ dX2_isFreeFrom_14 rfl h
  · have h := h2 c
    clear h1 h2
    refine G_iconst (v := 1) C dX2_isFreeFrom_9 (by decide) ?_
    refine G_goto (tgt := 14) C dX2_isFreeFrom_10 (by decide) ?_
    exact R 14 _ _ _ dX2_isFreeFrom_14 rfl h
theorem dX2_resize_0 : decode cX2_resize 0 = .ok (.aload_n 0, 1) := by decide +kernel
theorem dX2_resize_1 : decode cX2_resize 1 = .ok (.iload_n 1, 1) := by decide +kernel
theorem dX2_resize_2 : decode cX2_resize 2 = .ok (.putfield 15, 3) := by decide +kernel
theorem dX2_resize_5 : decode cX2_resize 5 = .ok (.aload_n 0, 1) := by decide +kernel
theorem dX2_resize_6 : decode cX2_resize 6 = .ok (.dup, 1) := by decide +kernel
theorem dX2_resize_7 : decode cX2_resize 7 = .ok (.getfield 18, 3) := by decide +kernel
theorem dX2_resize_10 : decode cX2_resize 10 = .ok (.iconst 1, 1) := by decide +kernel
theorem dX2_resize_11 : decode cX2_resize 11 = .ok (.iload_n 1, 1) := by decide +kernel
theorem dX2_resize_12 : decode cX2_resize 12 = .ok (.ishl, 1) := by decide +kernel
theorem dX2_resize_13 : decode cX2_resize 13 = .ok (.iconst 1, 1) := by decide +kernel
theorem dX2_resize_14 : decode cX2_resize 14 = .ok (.isub, 1) := by decide +kernel
theorem dX2_resize_15 : decode cX2_resize 15 = .ok (.iand, 1) := by decide +kernel
theorem dX2_resize_16 : decode cX2_resize 16 = .ok (.putfield 18, 3) := by decide +kernel
theorem dX2_resize_19 : decode cX2_resize 19 = .ok (.iload_n 1, 1) := by decide +kernel
theorem dX2_resize_20 : decode cX2_resize 20 = .ok (.istore_n 2, 1) := by decide +kernel
theorem dX2_resize_21 : decode cX2_resize 21 = .ok (.iload_n 2, 1) := by decide +kernel
theorem dX2_resize_22 : decode cX2_resize 22 = .ok (.iconst 4, 1) := by decide +kernel
theorem dX2_resize_23 : decode cX2_resize 23 = .ok (.if_icmp .ge 16, 3) := by decide +kernel
theorem dX2_resize_26 : decode cX2_resize 26 = .ok (.aload_n 0, 1) := by decide +kernel
theorem dX2_resize_27 : decode cX2_resize 27 = .ok (.getfield 27, 3) := by decide +kernel
theorem dX2_resize_30 : decode cX2_resize 30 = .ok (.iload_n 2, 1) := by decide +kernel
theorem dX2_resize_31 : decode cX2_resize 31 = .ok (.iconst 0, 1) := by decide +kernel
theorem dX2_resize_32 : decode cX2_resize 32 = .ok (.iastore, 1) := by decide +kernel
theorem dX2_resize_33 : decode cX2_resize 33 = .ok (.iinc 2 1, 3) := by decide +kernel
theorem dX2_resize_36 : decode cX2_resize 36 = .ok (.goto (-15), 3) := by decide +kernel
theorem dX2_resize_39 : decode cX2_resize 39 = .ok (.aload_n 0, 1) := by decide +kernel
theorem dX2_resize_40 : decode cX2_resize 40 = .ok (.getfield 24, 3) := by decide +kernel
theorem dX2_resize_43 : decode cX2_resize 43 = .ok (.iload_n 1, 1) := by decide +kernel
theorem dX2_resize_44 : decode cX2_resize 44 = .ok (.if_icmp .lt 9, 3) := by decide +kernel
theorem dX2_resize_47 : decode cX2_resize 47 = .ok (.aload_n 0, 1) := by decide +kernel
theorem dX2_resize_48 : decode cX2_resize 48 = .ok (.bipush (-4), 2) := by decide +kernel
theorem dX2_resize_50 : decode cX2_resize 50 = .ok (.putfield 24, 3) := by decide +kernel
theorem dX2_resize_53 : decode cX2_resize 53 = .ok (.return_, 1) := by decide +kernel
def w_X2_resize_L21 (x : Nat) (post : Mem → Prop) (l1 : Int32) : Nat → Int32 → Mem → Prop
  | 0, _, _ => False
  | f + 1, l2, M => ((4 ≤ l2 → (((rd M x 4) < l1 → post M) ∧ (¬ (rd M x 4) < l1 → ∀ M1 : Mem, M1 = wr M x 4 (-4) → post M1))) ∧ (¬ 4 ≤ l2 → vp_in l2 4 ∧ (∀ M2 : Mem, M2 = wr M (x + 1) l2.toNatClampNeg 0 → ∀ v3 : Int32, v3 = (l2 + 1) → (w_X2_resize_L21 x post l1 f) v3 M2)))
set_option maxRecDepth 100000 in
set_option maxHeartbeats 4000000 in
theorem s_X2_resize_L21 {ω : WD} {ρ : FR} {post : Mem → Prop} (C : Cx ω ρ cX2_resize RX2 0 3) (R : RtV ω ρ cX2_resize post) {x : Nat} (hx : isK 2 x) {l1 : Int32} : ∀ (f : Nat) (l2 : Int32) (M : Mem), w_X2_resize_L21 x post l1 f l2 M → G ω ρ M 21 [(0, .ref (adr ω x)), (1, .int l1), (2, .int l2)] [] := by
  intro f
  induction f with
  | zero => intro l2 M h; exact False.elim h
  | succ f k21 =>
    intro l2 M h
    refine G_iload_n C dX2_resize_21 2 rfl ?_
    refine G_iconst (v := 4) C dX2_resize_22 (by decide) ?_
    obtain ⟨h1, h2⟩ := h
    refine G_icmp_ge (tgt := 39) C dX2_resize_23 (by decide) (fun c => ?_) (fun c => ?_)
    · have h := h1 c
      clear h1 h2
      refine G_aload_n C dX2_resize_39 0 rfl ?_
      refine gf_X2_24 C hx dX2_resize_40 ?_
      refine G_iload_n C dX2_resize_43 1 rfl ?_
      obtain ⟨h1, h2⟩ := h
      refine G_icmp_lt (tgt := 53) C dX2_resize_44 (by decide) (fun c => ?_) (fun c => ?_)
      · have h := h1 c
        clear h1 h2
        exact R 53 _ _ dX2_resize_53 h
      · have h := h2 c
        clear h1 h2
        refine G_aload_n C dX2_resize_47 0 rfl ?_
        refine G_bipush (v := (-4)) C dX2_resize_48 (by decide) ?_
        refine pf_X2_24 C hx dX2_resize_50 (fun M1 eM1 => ?_)
        replace h := h M1 eM1
        exact R 53 _ _ dX2_resize_53 h
    · have h := h2 c
      clear h1 h2
      refine G_aload_n C dX2_resize_26 0 rfl ?_
      refine gf_X2_27 C hx dX2_resize_27 ?_
      refine G_iload_n C dX2_resize_30 2 rfl ?_
      refine G_iconst (v := 0) C dX2_resize_31 (by decide) ?_
      obtain ⟨hi, h⟩ := h
      refine G_iast C (st_2_5 hx) hi dX2_resize_32 (G_mname (fun M2 eM2 => ?_))
      replace h := h M2 eM2
      obtain ⟨v3, ev3⟩ : ∃ y : Int32, y = (l2 + 1) := ⟨_, rfl⟩
      replace h := h v3 ev3
      refine G_iinc C dX2_resize_33 2 rfl (v := v3) (by rw [ev3]; rfl) (by decide) (lv' := [(2, .int v3), (0, .ref (adr ω x)), (1, .int l1)]) rfl ?_
      refine G_goto (tgt := 21) C dX2_resize_36 (by decide) ?_
      refine G_sub [1, 2, 0] (lv' := [(0, .ref (adr ω x)), (1, .int l1), (2, .int v3)]) rfl ?_
      exact k21 _ _ h
def w_X2_resize (x : Nat) (l1 : Int32) (M : Mem) (post : Mem → Prop) : Prop := ∀ M4 : Mem, M4 = wr M x 1 l1 → ∀ M5 : Mem, M5 = wr M4 x 2 ((rd M4 x 2) &&& ((ishl 1 l1) - 1)) → ∃ g21 : Nat, w_X2_resize_L21 x post l1 g21 l1 M5
set_option maxRecDepth 100000 in
set_option maxHeartbeats 4000000 in
theorem S_X2_resize {ω : WD} {x : Nat} {l1 : Int32} {M : Mem} {post : Mem → Prop} (hx : isK 2 x) (h : w_X2_resize x l1 M post) : MtV ω yX2_resize cX2_resize 3 none 0 [.ref (adr ω x), .int l1] M post := by
  refine MtV.start rfl (by decide +kernel) (own := RX2) rfl (Nat.le_of_ble_eq_true rfl) (fun ρ C R => ?_)
  show G ω ρ M 0 [(0, .ref (adr ω x)), (1, .int l1)] []
  refine G_aload_n C dX2_resize_0 0 rfl ?_
  refine G_iload_n C dX2_resize_1 1 rfl ?_
  refine pf_X2_15 C hx dX2_resize_2 (fun M4 eM4 => ?_)
  replace h := h M4 eM4
  refine G_aload_n C dX2_resize_5 0 rfl ?_
  refine G_dup C dX2_resize_6 rfl ?_
  refine gf_X2_18 C hx dX2_resize_7 ?_
  refine G_iconst (v := 1) C dX2_resize_10 (by decide) ?_
  refine G_iload_n C dX2_resize_11 1 rfl ?_
  refine G_ishl C dX2_resize_12 ?_
  refine G_iconst (v := 1) C dX2_resize_13 (by decide) ?_
  refine G_isub C dX2_resize_14 ?_
  refine G_iand C dX2_resize_15 ?_
  refine pf_X2_18 C hx dX2_resize_16 (fun M5 eM5 => ?_)
  replace h := h M5 eM5
  refine G_iload_n C dX2_resize_19 1 rfl ?_
  refine G_istore_n C dX2_resize_20 (by decide) (lv' := [(2, .int l1), (0, .ref (adr ω x)), (1, .int l1)]) rfl ?_
  refine G_sub [1, 2, 0] (lv' := [(0, .ref (adr ω x)), (1, .int l1), (2, .int l1)]) rfl ?_
  obtain ⟨f, h⟩ := h
  exact s_X2_resize_L21 C R hx f _ _ h
theorem dX2_isDead_0 : decode cX2_isDead 0 = .ok (.aload_n 0, 1) := by decide +kernel
theorem dX2_isDead_1 : decode cX2_isDead 1 = .ok (.getfield 18, 3) := by decide +kernel
theorem dX2_isDead_4 : decode cX2_isDead 4 = .ok (.iload_n 1, 1) := by decide +kernel
theorem dX2_isDead_5 : decode cX2_isDead 5 = .ok (.ishr, 1) := by decide +kernel
theorem dX2_isDead_6 : decode cX2_isDead 6 = .ok (.iconst 1, 1) := by decide +kernel
theorem dX2_isDead_7 : decode cX2_isDead 7 = .ok (.iand, 1) := by decide +kernel
theorem dX2_isDead_8 : decode cX2_isDead 8 = .ok (.ifCond .eq 7, 3) := by decide +kernel
theorem dX2_isDead_11 : decode cX2_isDead 11 = .ok (.iconst 1, 1) := by decide +kernel
theorem dX2_isDead_12 : decode cX2_isDead 12 = .ok (.goto 4, 3) := by decide +kernel
theorem dX2_isDead_15 : decode cX2_isDead 15 = .ok (.iconst 0, 1) := by decide +kernel
theorem dX2_isDead_16 : decode cX2_isDead 16 = .ok (.ireturn, 1) := by decide +kernel
def w_X2_isDead (x : Nat) (l1 : Int32) (M : Mem) (post : Int32 → Mem → Prop) : Prop := ((((ishr (rd M x 2) l1) &&& 1) = 0 → post 0 M) ∧ (¬ ((ishr (rd M x 2) l1) &&& 1) = 0 → post 1 M))
set_option maxRecDepth 100000 in
set_option maxHeartbeats 4000000 in
theorem S_X2_isDead {ω : WD} {x : Nat} {l1 : Int32} {M : Mem} {post : Int32 → Mem → Prop} (hx : isK 2 x) (h : w_X2_isDead x l1 M post) : MtI ω yX2_isDead cX2_isDead 2 (some .boolean) 0 [.ref (adr ω x), .int l1] M post := by
  refine MtI.start (ty := .boolean) rfl (by decide +kernel) (own := RX2) rfl (Nat.le_of_ble_eq_true rfl) (fun ρ C R => ?_)
  show G ω ρ M 0 [(0, .ref (adr ω x)), (1, .int l1)] []
  refine G_aload_n C dX2_isDead_0 0 rfl ?_
  refine gf_X2_18 C hx dX2_isDead_1 ?_
  refine G_iload_n C dX2_isDead_4 1 rfl ?_
  refine G_ishr C dX2_isDead_5 ?_
  refine G_iconst (v := 1) C dX2_isDead_6 (by decide) ?_
  refine G_iand C dX2_isDead_7 ?_
  obtain ⟨h1, h2⟩ := h
  refine G_if_eq (tgt := 15) C dX2_isDead_8 (by decide) (fun c => ?_) (fun c => ?_)
  · have h := h1 c
    clear h1 h2
    refine G_iconst (v := 0) C dX2_isDead_15 (by decide) ?_
    exact R 16 _ _ _ dX2_isDead_16 rfl h
  · have h := h2 c
    clear h1 h2
    refine G_iconst (v := 1) C dX2_isDead_11 (by decide) ?_
    refine G_goto (tgt := 16) C dX2_isDead_12 (by decide) ?_
    exact R 16 _ _ _ dX2_isDead_16 rfl h
theorem dX2_isFree_0 : decode cX2_isFree 0 = .ok (.aload_n 0, 1) := by decide +kernel
theorem dX2_isFree_1 : decode cX2_isFree 1 = .ok (.getfield 21, 3) := by decide +kernel
theorem dX2_isFree_4 : decode cX2_isFree 4 = .ok (.iload_n 1, 1) := by decide +kernel
theorem dX2_isFree_5 : decode cX2_isFree 5 = .ok (.ishr, 1) := by decide +kernel
theorem dX2_isFree_6 : decode cX2_isFree 6 = .ok (.iconst 1, 1) := by decide +kernel
theorem dX2_isFree_7 : decode cX2_isFree 7 = .ok (.iand, 1) := by decide +kernel
theorem dX2_isFree_8 : decode cX2_isFree 8 = .ok (.ifCond .ne 7, 3) := by decide +kernel
theorem dX2_isFree_11 : decode cX2_isFree 11 = .ok (.iconst 1, 1) := by decide +kernel
theorem dX2_isFree_12 : decode cX2_isFree 12 = .ok (.goto 4, 3) := by decide +kernel
theorem dX2_isFree_15 : decode cX2_isFree 15 = .ok (.iconst 0, 1) := by decide +kernel
theorem dX2_isFree_16 : decode cX2_isFree 16 = .ok (.ireturn, 1) := by decide +kernel
def w_X2_isFree (x : Nat) (l1 : Int32) (M : Mem) (post : Int32 → Mem → Prop) : Prop := ((¬ ((ishr (rd M x 3) l1) &&& 1) = 0 → post 0 M) ∧ (((ishr (rd M x 3) l1) &&& 1) = 0 → post 1 M))
set_option maxRecDepth 100000 in
set_option maxHeartbeats 4000000 in
theorem S_X2_isFree {ω : WD} {x : Nat} {l1 : Int32} {M : Mem} {post : Int32 → Mem → Prop} (hx : isK 2 x) (h : w_X2_isFree x l1 M post) : MtI ω yX2_isFree cX2_isFree 2 (some .boolean) 0 [.ref (adr ω x), .int l1] M post := by
  refine MtI.start (ty := .boolean) rfl (by decide +kernel) (own := RX2) rfl (Nat.le_of_ble_eq_true rfl) (fun ρ C R => ?_)
  show G ω ρ M 0 [(0, .ref (adr ω x)), (1, .int l1)] []
  refine G_aload_n C dX2_isFree_0 0 rfl ?_
  refine gf_X2_21 C hx dX2_isFree_1 ?_
  refine G_iload_n C dX2_isFree_4 1 rfl ?_
  refine G_ishr C dX2_isFree_5 ?_
  refine G_iconst (v := 1) C dX2_isFree_6 (by decide) ?_
  refine G_iand C dX2_isFree_7 ?_
  obtain ⟨h1, h2⟩ := h
  refine G_if_ne (tgt := 15) C dX2_isFree_8 (by decide) (fun c => ?_) (fun c => ?_)
  · have h := h1 c
    clear h1 h2
    refine G_iconst (v := 0) C dX2_isFree_15 (by decide) ?_
    exact R 16 _ _ _ dX2_isFree_16 rfl h
  · have h := h2 c
    clear h1 h2
    refine G_iconst (v := 1) C dX2_isFree_11 (by decide) ?_
    refine G_goto (tgt := 16) C dX2_isFree_12 (by decide) ?_
    exact R 16 _ _ _ dX2_isFree_16 rfl h
theorem dX2_inTurn_0 : decode cX2_inTurn 0 = .ok (.aload_n 0, 1) := by decide +kernel
theorem dX2_inTurn_1 : decode cX2_inTurn 1 = .ok (.getfield 9, 3) := by decide +kernel
theorem dX2_inTurn_4 : decode cX2_inTurn 4 = .ok (.ifCond .ne 5, 3) := by decide +kernel
theorem dX2_inTurn_7 : decode cX2_inTurn 7 = .ok (.iload_n 1, 1) := by decide +kernel
theorem dX2_inTurn_8 : decode cX2_inTurn 8 = .ok (.ireturn, 1) := by decide +kernel
theorem dX2_inTurn_9 : decode cX2_inTurn 9 = .ok (.aload_n 0, 1) := by decide +kernel
theorem dX2_inTurn_10 : decode cX2_inTurn 10 = .ok (.getfield 9, 3) := by decide +kernel
theorem dX2_inTurn_13 : decode cX2_inTurn 13 = .ok (.iconst 2, 1) := by decide +kernel
theorem dX2_inTurn_14 : decode cX2_inTurn 14 = .ok (.if_icmp .ne 12, 3) := by decide +kernel
theorem dX2_inTurn_17 : decode cX2_inTurn 17 = .ok (.aload_n 0, 1) := by decide +kernel
theorem dX2_inTurn_18 : decode cX2_inTurn 18 = .ok (.getfield 15, 3) := by decide +kernel
theorem dX2_inTurn_21 : decode cX2_inTurn 21 = .ok (.iconst 1, 1) := by decide +kernel
theorem dX2_inTurn_22 : decode cX2_inTurn 22 = .ok (.isub, 1) := by decide +kernel
theorem dX2_inTurn_23 : decode cX2_inTurn 23 = .ok (.iload_n 1, 1) := by decide +kernel
theorem dX2_inTurn_24 : decode cX2_inTurn 24 = .ok (.isub, 1) := by decide +kernel
theorem dX2_inTurn_25 : decode cX2_inTurn 25 = .ok (.ireturn, 1) := by decide +kernel
theorem dX2_inTurn_26 : decode cX2_inTurn 26 = .ok (.aload_n 0, 1) := by decide +kernel
theorem dX2_inTurn_27 : decode cX2_inTurn 27 = .ok (.getfield 24, 3) := by decide +kernel
theorem dX2_inTurn_30 : decode cX2_inTurn 30 = .ok (.bipush (-4), 2) := by decide +kernel
theorem dX2_inTurn_32 : decode cX2_inTurn 32 = .ok (.if_icmp .ne 7, 3) := by decide +kernel
theorem dX2_inTurn_35 : decode cX2_inTurn 35 = .ok (.iload_n 1, 1) := by decide +kernel
theorem dX2_inTurn_36 : decode cX2_inTurn 36 = .ok (.goto 11, 3) := by decide +kernel
theorem dX2_inTurn_39 : decode cX2_inTurn 39 = .ok (.aload_n 0, 1) := by decide +kernel
theorem dX2_inTurn_40 : decode cX2_inTurn 40 = .ok (.getfield 24, 3) := by decide +kernel
theorem dX2_inTurn_43 : decode cX2_inTurn 43 = .ok (.iconst 1, 1) := by decide +kernel
theorem dX2_inTurn_44 : decode cX2_inTurn 44 = .ok (.iadd, 1) := by decide +kernel
theorem dX2_inTurn_45 : decode cX2_inTurn 45 = .ok (.iload_n 1, 1) := by decide +kernel
theorem dX2_inTurn_46 : decode cX2_inTurn 46 = .ok (.iadd, 1) := by decide +kernel
theorem dX2_inTurn_47 : decode cX2_inTurn 47 = .ok (.istore_n 2, 1) := by decide +kernel
theorem dX2_inTurn_48 : decode cX2_inTurn 48 = .ok (.iload_n 2, 1) := by decide +kernel
theorem dX2_inTurn_49 : decode cX2_inTurn 49 = .ok (.aload_n 0, 1) := by decide +kernel
theorem dX2_inTurn_50 : decode cX2_inTurn 50 = .ok (.getfield 15, 3) := by decide +kernel
theorem dX2_inTurn_53 : decode cX2_inTurn 53 = .ok (.if_icmp .ge 7, 3) := by decide +kernel
theorem dX2_inTurn_56 : decode cX2_inTurn 56 = .ok (.iload_n 2, 1) := by decide +kernel
theorem dX2_inTurn_57 : decode cX2_inTurn 57 = .ok (.goto 9, 3) := by decide +kernel
theorem dX2_inTurn_60 : decode cX2_inTurn 60 = .ok (.iload_n 2, 1) := by decide +kernel
theorem dX2_inTurn_61 : decode cX2_inTurn 61 = .ok (.aload_n 0, 1) := by decide +kernel
theorem dX2_inTurn_62 : decode cX2_inTurn 62 = .ok (.getfield 15, 3) := by decide +kernel
theorem dX2_inTurn_65 : decode cX2_inTurn 65 = .ok (.isub, 1) := by decide +kernel
theorem dX2_inTurn_66 : decode cX2_inTurn 66 = .ok (.ireturn, 1) := by decide +kernel
def w_X2_inTurn_J47 (x : Nat) (post : Int32 → Mem → Prop) (s0 : Int32) (M : Mem) : Prop := (((rd M x 1) ≤ s0 → post (s0 - (rd M x 1)) M) ∧ (¬ (rd M x 1) ≤ s0 → post s0 M))
set_option maxRecDepth 100000 in
set_option maxHeartbeats 4000000 in
theorem s_X2_inTurn_J47 {ω : WD} {ρ : FR} {post : Int32 → Mem → Prop} (C : Cx ω ρ cX2_inTurn RX2 0 3) (R : RtI ω ρ cX2_inTurn .int post) {x : Nat} (hx : isK 2 x) {s0 : Int32} {M : Mem} (h : w_X2_inTurn_J47 x post s0 M) : G ω ρ M 47 [(0, .ref (adr ω x))] [.int s0] := by
  refine G_istore_n C dX2_inTurn_47 (by decide) (lv' := [(2, .int s0), (0, .ref (adr ω x))]) rfl ?_
  refine G_iload_n C dX2_inTurn_48 0 rfl ?_
  refine G_aload_n C dX2_inTurn_49 1 rfl ?_
  refine gf_X2_15 C hx dX2_inTurn_50 ?_
  obtain ⟨h1, h2⟩ := h
  refine G_icmp_ge (tgt := 60) C dX2_inTurn_53 (by decide) (fun c => ?_) (fun c => ?_)
  · have h := h1 c
    clear h1 h2
    refine G_iload_n C dX2_inTurn_60 0 rfl ?_
    refine G_aload_n C dX2_inTurn_61 1 rfl ?_
    refine gf_X2_15 C hx dX2_inTurn_62 ?_
    refine G_isub C dX2_inTurn_65 ?_
    exact R 66 _ _ _ dX2_inTurn_66 rfl h
  · have h := h2 c
    clear h1 h2
    refine G_iload_n C dX2_inTurn_56 0 rfl ?_
    refine G_goto (tgt := 66) C dX2_inTurn_57 (by decide) ?_
    exact R 66 _ _ _ dX2_inTurn_66 rfl h
def w_X2_inTurn (x : Nat) (l1 : Int32) (M : Mem) (post : Int32 → Mem → Prop) : Prop := ((¬ (rd M x 0) = 0 → ((¬ (rd M x 0) = 2 → ((¬ (rd M x 4) = (-4) → w_X2_inTurn_J47 x post (((rd M x 4) + 1) + l1) M) ∧ ((rd M x 4) = (-4) → w_X2_inTurn_J47 x post l1 M))) ∧ ((rd M x 0) = 2 → post (((rd M x 1) - 1) - l1) M))) ∧ ((rd M x 0) = 0 → post l1 M))
set_option maxRecDepth 100000 in
set_option maxHeartbeats 4000000 in
theorem S_X2_inTurn {ω : WD} {x : Nat} {l1 : Int32} {M : Mem} {post : Int32 → Mem → Prop} (hx : isK 2 x) (h : w_X2_inTurn x l1 M post) : MtI ω yX2_inTurn cX2_inTurn 3 (some .int) 0 [.ref (adr ω x), .int l1] M post := by
  refine MtI.start (ty := .int) rfl (by decide +kernel) (own := RX2) rfl (Nat.le_of_ble_eq_true rfl) (fun ρ C R => ?_)
  show G ω ρ M 0 [(0, .ref (adr ω x)), (1, .int l1)] []
  refine G_aload_n C dX2_inTurn_0 0 rfl ?_
  refine gf_X2_9 C hx dX2_inTurn_1 ?_
  obtain ⟨h1, h2⟩ := h
  refine G_if_ne (tgt := 9) C dX2_inTurn_4 (by decide) (fun c => ?_) (fun c => ?_)
  · have h := h1 c
    clear h1 h2
    refine G_aload_n C dX2_inTurn_9 0 rfl ?_
    refine gf_X2_9 C hx dX2_inTurn_10 ?_
    refine G_iconst (v := 2) C dX2_inTurn_13 (by decide) ?_
    obtain ⟨h1, h2⟩ := h
    refine G_icmp_ne (tgt := 26) C dX2_inTurn_14 (by decide) (fun c => ?_) (fun c => ?_)
    · have h := h1 c
      clear h1 h2
      refine G_aload_n C dX2_inTurn_26 0 rfl ?_
      refine gf_X2_24 C hx dX2_inTurn_27 ?_
      refine G_bipush (v := (-4)) C dX2_inTurn_30 (by decide) ?_
      obtain ⟨h1, h2⟩ := h
      refine G_icmp_ne (tgt := 39) C dX2_inTurn_32 (by decide) (fun c => ?_) (fun c => ?_)
      · have h := h1 c
        clear h1 h2
        refine G_aload_n C dX2_inTurn_39 0 rfl ?_
        refine gf_X2_24 C hx dX2_inTurn_40 ?_
        refine G_iconst (v := 1) C dX2_inTurn_43 (by decide) ?_
        refine G_iadd C dX2_inTurn_44 ?_
        refine G_iload_n C dX2_inTurn_45 1 rfl ?_
        refine G_iadd C dX2_inTurn_46 ?_
        refine G_sub [0] (lv' := [(0, .ref (adr ω x))]) rfl ?_
        exact s_X2_inTurn_J47 C R hx h
      · have h := h2 c
        clear h1 h2
        refine G_iload_n C dX2_inTurn_35 1 rfl ?_
        refine G_goto (tgt := 47) C dX2_inTurn_36 (by decide) ?_
        refine G_sub [0] (lv' := [(0, .ref (adr ω x))]) rfl ?_
        exact s_X2_inTurn_J47 C R hx h
    · have h := h2 c
      clear h1 h2
      refine G_aload_n C dX2_inTurn_17 0 rfl ?_
      refine gf_X2_15 C hx dX2_inTurn_18 ?_
      refine G_iconst (v := 1) C dX2_inTurn_21 (by decide) ?_
      refine G_isub C dX2_inTurn_22 ?_
      refine G_iload_n C dX2_inTurn_23 1 rfl ?_
      refine G_isub C dX2_inTurn_24 ?_
      exact R 25 _ _ _ dX2_inTurn_25 rfl h
  · have h := h2 c
    clear h1 h2
    refine G_iload_n C dX2_inTurn_7 1 rfl ?_
    exact R 8 _ _ _ dX2_inTurn_8 rfl h
theorem dX2_pick_0 : decode cX2_pick 0 = .ok (.bipush (-4), 2) := by decide +kernel
theorem dX2_pick_2 : decode cX2_pick 2 = .ok (.istore_n 1, 1) := by decide +kernel
theorem dX2_pick_3 : decode cX2_pick 3 = .ok (.iconst 0, 1) := by decide +kernel
theorem dX2_pick_4 : decode cX2_pick 4 = .ok (.istore_n 2, 1) := by decide +kernel
theorem dX2_pick_5 : decode cX2_pick 5 = .ok (.iload_n 2, 1) := by decide +kernel
theorem dX2_pick_6 : decode cX2_pick 6 = .ok (.aload_n 0, 1) := by decide +kernel
theorem dX2_pick_7 : decode cX2_pick 7 = .ok (.getfield 15, 3) := by decide +kernel
theorem dX2_pick_10 : decode cX2_pick 10 = .ok (.if_icmp .ge 54, 3) := by decide +kernel
theorem dX2_pick_13 : decode cX2_pick 13 = .ok (.aload_n 0, 1) := by decide +kernel
theorem dX2_pick_14 : decode cX2_pick 14 = .ok (.iload_n 2, 1) := by decide +kernel
theorem dX2_pick_15 : decode cX2_pick 15 = .ok (.invokevirtual 31, 3) := by decide +kernel
theorem dX2_pick_18 : decode cX2_pick 18 = .ok (.istore_n 3, 1) := by decide +kernel
theorem dX2_pick_19 : decode cX2_pick 19 = .ok (.aload_n 0, 1) := by decide +kernel
theorem dX2_pick_20 : decode cX2_pick 20 = .ok (.iload_n 3, 1) := by decide +kernel
theorem dX2_pick_21 : decode cX2_pick 21 = .ok (.invokevirtual 35, 3) := by decide +kernel
theorem dX2_pick_24 : decode cX2_pick 24 = .ok (.ifCond .eq 34, 3) := by decide +kernel
theorem dX2_pick_27 : decode cX2_pick 27 = .ok (.iload_n 1, 1) := by decide +kernel
theorem dX2_pick_28 : decode cX2_pick 28 = .ok (.bipush (-4), 2) := by decide +kernel
theorem dX2_pick_30 : decode cX2_pick 30 = .ok (.if_icmp .eq 26, 3) := by decide +kernel
theorem dX2_pick_33 : decode cX2_pick 33 = .ok (.aload_n 0, 1) := by decide +kernel
theorem dX2_pick_34 : decode cX2_pick 34 = .ok (.getfield 9, 3) := by decide +kernel
theorem dX2_pick_37 : decode cX2_pick 37 = .ok (.iconst 3, 1) := by decide +kernel
theorem dX2_pick_38 : decode cX2_pick 38 = .ok (.if_icmp .ne 20, 3) := by decide +kernel
theorem dX2_pick_41 : decode cX2_pick 41 = .ok (.aload_n 0, 1) := by decide +kernel
theorem dX2_pick_42 : decode cX2_pick 42 = .ok (.getfield 27, 3) := by decide +kernel
theorem dX2_pick_45 : decode cX2_pick 45 = .ok (.iload_n 3, 1) := by decide +kernel
theorem dX2_pick_46 : decode cX2_pick 46 = .ok (.iaload, 1) := by decide +kernel
theorem dX2_pick_47 : decode cX2_pick 47 = .ok (.aload_n 0, 1) := by decide +kernel
theorem dX2_pick_48 : decode cX2_pick 48 = .ok (.getfield 27, 3) := by decide +kernel
theorem dX2_pick_51 : decode cX2_pick 51 = .ok (.iload_n 1, 1) := by decide +kernel
theorem dX2_pick_52 : decode cX2_pick 52 = .ok (.iaload, 1) := by decide +kernel
theorem dX2_pick_53 : decode cX2_pick 53 = .ok (.if_icmp .ge 5, 3) := by decide +kernel
theorem dX2_pick_56 : decode cX2_pick 56 = .ok (.iload_n 3, 1) := by decide +kernel
theorem dX2_pick_57 : decode cX2_pick 57 = .ok (.istore_n 1, 1) := by decide +kernel
theorem dX2_pick_58 : decode cX2_pick 58 = .ok (.iinc 2 1, 3) := by decide +kernel
theorem dX2_pick_61 : decode cX2_pick 61 = .ok (.goto (-56), 3) := by decide +kernel
theorem dX2_pick_64 : decode cX2_pick 64 = .ok (.iload_n 1, 1) := by decide +kernel
theorem dX2_pick_65 : decode cX2_pick 65 = .ok (.ireturn, 1) := by decide +kernel
theorem lk_X2_31 : LkV RX2 31 RX2 yX2_inTurn cX2_inTurn 3 (some .int) 1 := LkV.of 628 629 630 63 631 (by decide +kernel) (by decide +kernel) (by decide +kernel) (by decide +kernel) (by decide +kernel) (by decide +kernel)
theorem lk_X2_35 : LkV RX2 35 RX2 yX2_isFree cX2_isFree 2 (some .boolean) 1 := LkV.of 632 633 634 63 635 (by decide +kernel) (by decide +kernel) (by decide +kernel) (by decide +kernel) (by decide +kernel) (by decide +kernel)
def w_X2_pick_J58 (x : Nat) (post : Int32 → Mem → Prop) (K5 : Int32 → Int32 → Mem → Prop) (l1 : Int32) (l2 : Int32) (M : Mem) : Prop := ∀ v1 : Int32, v1 = (l2 + 1) → K5 l1 v1 M
set_option maxRecDepth 100000 in
set_option maxHeartbeats 4000000 in
theorem s_X2_pick_J58 {ω : WD} {ρ : FR} {post : Int32 → Mem → Prop} (C : Cx ω ρ cX2_pick RX2 1 4) (R : RtI ω ρ cX2_pick .int post) {x : Nat} (hx : isK 2 x) {K5 : Int32 → Int32 → Mem → Prop} {l1 : Int32} {l2 : Int32} (k5 : ∀ (u1 : Int32) (u2 : Int32) (M : Mem), K5 u1 u2 M → G ω ρ M 5 [(0, .ref (adr ω x)), (1, .int u1), (2, .int u2)] []) {M : Mem} (h : w_X2_pick_J58 x post K5 l1 l2 M) : G ω ρ M 58 [(0, .ref (adr ω x)), (1, .int l1), (2, .int l2)] [] := by
  obtain ⟨v1, ev1⟩ : ∃ y : Int32, y = (l2 + 1) := ⟨_, rfl⟩
  replace h := h v1 ev1
  refine G_iinc C dX2_pick_58 2 rfl (v := v1) (by rw [ev1]; rfl) (by decide) (lv' := [(2, .int v1), (0, .ref (adr ω x)), (1, .int l1)]) rfl ?_
  refine G_goto (tgt := 5) C dX2_pick_61 (by decide) ?_
  refine G_sub [1, 2, 0] (lv' := [(0, .ref (adr ω x)), (1, .int l1), (2, .int v1)]) rfl ?_
  exact k5 _ _ _ h
def w_X2_pick_J56 (x : Nat) (post : Int32 → Mem → Prop) (K5 : Int32 → Int32 → Mem → Prop) (l2 : Int32) (l3 : Int32) (M : Mem) : Prop := w_X2_pick_J58 x post K5 l3 l2 M
set_option maxRecDepth 100000 in
set_option maxHeartbeats 4000000 in
theorem s_X2_pick_J56 {ω : WD} {ρ : FR} {post : Int32 → Mem → Prop} (C : Cx ω ρ cX2_pick RX2 1 4) (R : RtI ω ρ cX2_pick .int post) {x : Nat} (hx : isK 2 x) {K5 : Int32 → Int32 → Mem → Prop} {l2 : Int32} {l3 : Int32} (k5 : ∀ (u1 : Int32) (u2 : Int32) (M : Mem), K5 u1 u2 M → G ω ρ M 5 [(0, .ref (adr ω x)), (1, .int u1), (2, .int u2)] []) {M : Mem} (h : w_X2_pick_J56 x post K5 l2 l3 M) : G ω ρ M 56 [(0, .ref (adr ω x)), (2, .int l2), (3, .int l3)] [] := by
  refine G_iload_n C dX2_pick_56 2 rfl ?_
  refine G_istore_n C dX2_pick_57 (by decide) (lv' := [(1, .int l3), (0, .ref (adr ω x)), (2, .int l2), (3, .int l3)]) rfl ?_
  refine G_sub [1, 0, 2] (lv' := [(0, .ref (adr ω x)), (1, .int l3), (2, .int l2)]) rfl ?_
  exact s_X2_pick_J58 C R hx k5 h
def w_X2_pick_L5 (x : Nat) (post : Int32 → Mem → Prop) : Nat → Int32 → Int32 → Mem → Prop
  | 0, _, _, _ => False
  | f + 1, l1, l2, M => (((rd M x 1) ≤ l2 → post l1 M) ∧ (¬ (rd M x 1) ≤ l2 → w_X2_inTurn x l2 M (fun (r3 : Int32) (M2 : Mem) => w_X2_isFree x r3 M2 (fun (r5 : Int32) (M4 : Mem) => ((r5 = 0 → w_X2_pick_J58 x post (w_X2_pick_L5 x post f) l1 l2 M4) ∧ (¬ r5 = 0 → ((l1 = (-4) → w_X2_pick_J56 x post (w_X2_pick_L5 x post f) l2 r3 M4) ∧ (¬ l1 = (-4) → ((¬ (rd M4 x 0) = 3 → w_X2_pick_J58 x post (w_X2_pick_L5 x post f) l1 l2 M4) ∧ ((rd M4 x 0) = 3 → vp_in r3 4 ∧ (vp_in l1 4 ∧ ((((rd M4 (x + 1) l1.toNatClampNeg) ≤ (rd M4 (x + 1) r3.toNatClampNeg) → w_X2_pick_J58 x post (w_X2_pick_L5 x post f) l1 l2 M4) ∧ (¬ (rd M4 (x + 1) l1.toNatClampNeg) ≤ (rd M4 (x + 1) r3.toNatClampNeg) → w_X2_pick_J56 x post (w_X2_pick_L5 x post f) l2 r3 M4))))))))))))))
set_option maxRecDepth 100000 in
set_option maxHeartbeats 4000000 in
theorem s_X2_pick_L5 {ω : WD} {ρ : FR} {post : Int32 → Mem → Prop} (C : Cx ω ρ cX2_pick RX2 1 4) (R : RtI ω ρ cX2_pick .int post) {x : Nat} (hx : isK 2 x) : ∀ (f : Nat) (l1 : Int32) (l2 : Int32) (M : Mem), w_X2_pick_L5 x post f l1 l2 M → G ω ρ M 5 [(0, .ref (adr ω x)), (1, .int l1), (2, .int l2)] [] := by
  intro f
  induction f with
  | zero => intro l1 l2 M h; exact False.elim h
  | succ f k5 =>
    intro l1 l2 M h
    refine G_iload_n C dX2_pick_5 2 rfl ?_
    refine G_aload_n C dX2_pick_6 0 rfl ?_
    refine gf_X2_15 C hx dX2_pick_7 ?_
    obtain ⟨h1, h2⟩ := h
    refine G_icmp_ge (tgt := 64) C dX2_pick_10 (by decide) (fun c => ?_) (fun c => ?_)
    · have h := h1 c
      clear h1 h2
      refine G_iload_n C dX2_pick_64 1 rfl ?_
      exact R 65 _ _ _ dX2_pick_65 rfl h
    · have h := h2 c
      clear h1 h2
      refine G_aload_n C dX2_pick_13 0 rfl ?_
      refine G_iload_n C dX2_pick_14 2 rfl ?_
      refine G_callI (As := [.int l2]) (rest := []) C dX2_pick_15 lk_X2_31 (Nat.le_of_ble_eq_true rfl) (Nat.le_of_ble_eq_true rfl) hx (by decide) rfl (Nat.le_of_ble_eq_true rfl) rfl (S_X2_inTurn hx h) (fun r3 M2 h => ?_)
      refine G_istore_n C dX2_pick_18 (by decide) (lv' := [(3, .int r3), (0, .ref (adr ω x)), (1, .int l1), (2, .int l2)]) rfl ?_
      refine G_aload_n C dX2_pick_19 1 rfl ?_
      refine G_iload_n C dX2_pick_20 0 rfl ?_
      refine G_callI (As := [.int r3]) (rest := []) C dX2_pick_21 lk_X2_35 (Nat.le_of_ble_eq_true rfl) (Nat.le_of_ble_eq_true rfl) hx (by decide) rfl (Nat.le_of_ble_eq_true rfl) rfl (S_X2_isFree hx h) (fun r5 M4 h => ?_)
      obtain ⟨h1, h2⟩ := h
      refine G_if_eq (tgt := 58) C dX2_pick_24 (by decide) (fun c => ?_) (fun c => ?_)
      · have h := h1 c
        clear h1 h2
        refine G_sub [1, 2, 3] (lv' := [(0, .ref (adr ω x)), (1, .int l1), (2, .int l2)]) rfl ?_
        exact s_X2_pick_J58 C R hx k5 h
      · have h := h2 c
        clear h1 h2
        refine G_iload_n C dX2_pick_27 2 rfl ?_
        refine G_bipush (v := (-4)) C dX2_pick_28 (by decide) ?_
        obtain ⟨h1, h2⟩ := h
        refine G_icmp_eq (tgt := 56) C dX2_pick_30 (by decide) (fun c => ?_) (fun c => ?_)
        · have h := h1 c
          clear h1 h2
          refine G_sub [1, 3, 0] (lv' := [(0, .ref (adr ω x)), (2, .int l2), (3, .int r3)]) rfl ?_
          exact s_X2_pick_J56 C R hx k5 h
        · have h := h2 c
          clear h1 h2
          refine G_aload_n C dX2_pick_33 1 rfl ?_
          refine gf_X2_9 C hx dX2_pick_34 ?_
          refine G_iconst (v := 3) C dX2_pick_37 (by decide) ?_
          obtain ⟨h1, h2⟩ := h
          refine G_icmp_ne (tgt := 58) C dX2_pick_38 (by decide) (fun c => ?_) (fun c => ?_)
          · have h := h1 c
            clear h1 h2
            refine G_sub [1, 2, 3] (lv' := [(0, .ref (adr ω x)), (1, .int l1), (2, .int l2)]) rfl ?_
            exact s_X2_pick_J58 C R hx k5 h
          · have h := h2 c
            clear h1 h2
            refine G_aload_n C dX2_pick_41 1 rfl ?_
            refine gf_X2_27 C hx dX2_pick_42 ?_
            refine G_iload_n C dX2_pick_45 0 rfl ?_
            obtain ⟨hi, h⟩ := h
            refine G_iald C (st_2_5 hx) hi dX2_pick_46 ?_
            refine G_aload_n C dX2_pick_47 1 rfl ?_
            refine gf_X2_27 C hx dX2_pick_48 ?_
            refine G_iload_n C dX2_pick_51 2 rfl ?_
            obtain ⟨hi, h⟩ := h
            refine G_iald C (st_2_5 hx) hi dX2_pick_52 ?_
            obtain ⟨h1, h2⟩ := h
            refine G_icmp_ge (tgt := 58) C dX2_pick_53 (by decide) (fun c => ?_) (fun c => ?_)
            · have h := h1 c
              clear h1 h2
              refine G_sub [1, 2, 3] (lv' := [(0, .ref (adr ω x)), (1, .int l1), (2, .int l2)]) rfl ?_
              exact s_X2_pick_J58 C R hx k5 h
            · have h := h2 c
              clear h1 h2
              refine G_sub [1, 3, 0] (lv' := [(0, .ref (adr ω x)), (2, .int l2), (3, .int r3)]) rfl ?_
              exact s_X2_pick_J56 C R hx k5 h
def w_X2_pick (x : Nat) (M : Mem) (post : Int32 → Mem → Prop) : Prop := ∃ g5 : Nat, w_X2_pick_L5 x post g5 (-4) 0 M
set_option maxRecDepth 100000 in
set_option maxHeartbeats 4000000 in
theorem S_X2_pick {ω : WD} {x : Nat} {M : Mem} {post : Int32 → Mem → Prop} (hx : isK 2 x) (h : w_X2_pick x M post) : MtI ω yX2_pick cX2_pick 4 (some .int) 1 [.ref (adr ω x)] M post := by
  refine MtI.start (ty := .int) rfl (by decide +kernel) (own := RX2) rfl (Nat.le_of_ble_eq_true rfl) (fun ρ C R => ?_)
  show G ω ρ M 0 [(0, .ref (adr ω x))] []
  refine G_bipush (v := (-4)) C dX2_pick_0 (by decide) ?_
  refine G_istore_n C dX2_pick_2 (by decide) (lv' := [(1, .int (-4)), (0, .ref (adr ω x))]) rfl ?_
  refine G_iconst (v := 0) C dX2_pick_3 (by decide) ?_
  refine G_istore_n C dX2_pick_4 (by decide) (lv' := [(2, .int 0), (1, .int (-4)), (0, .ref (adr ω x))]) rfl ?_
  refine G_sub [2, 1, 0] (lv' := [(0, .ref (adr ω x)), (1, .int (-4)), (2, .int 0)]) rfl ?_
  obtain ⟨f, h⟩ := h
  exact s_X2_pick_L5 C R hx f _ _ _ h
end
section
theorem dJ6_bitCount_0f7a4_0 : decode cJ6_bitCount_0f7a4 0 = .ok (.iload_n 0, 1) := by decide +kernel
theorem dJ6_bitCount_0f7a4_1 : decode cJ6_bitCount_0f7a4 1 = .ok (.iload_n 0, 1) := by decide +kernel
theorem dJ6_bitCount_0f7a4_2 : decode cJ6_bitCount_0f7a4 2 = .ok (.iconst 1, 1) := by decide +kernel
theorem dJ6_bitCount_0f7a4_3 : decode cJ6_bitCount_0f7a4 3 = .ok (.iushr, 1) := by decide +kernel
theorem dJ6_bitCount_0f7a4_4 : decode cJ6_bitCount_0f7a4 4 = .ok (.ldc_w 265, 3) := by decide +kernel
theorem dJ6_bitCount_0f7a4_7 : decode cJ6_bitCount_0f7a4 7 = .ok (.iand, 1) := by decide +kernel
theorem dJ6_bitCount_0f7a4_8 : decode cJ6_bitCount_0f7a4 8 = .ok (.isub, 1) := by decide +kernel
theorem dJ6_bitCount_0f7a4_9 : decode cJ6_bitCount_0f7a4 9 = .ok (.istore_n 0, 1) := by decide +kernel
theorem dJ6_bitCount_0f7a4_10 : decode cJ6_bitCount_0f7a4 10 = .ok (.iload_n 0, 1) := by decide +kernel
theorem dJ6_bitCount_0f7a4_11 : decode cJ6_bitCount_0f7a4 11 = .ok (.ldc_w 266, 3) := by decide +kernel
theorem dJ6_bitCount_0f7a4_14 : decode cJ6_bitCount_0f7a4 14 = .ok (.iand, 1) := by decide +kernel
theorem dJ6_bitCount_0f7a4_15 : decode cJ6_bitCount_0f7a4 15 = .ok (.iload_n 0, 1) := by decide +kernel
theorem dJ6_bitCount_0f7a4_16 : decode cJ6_bitCount_0f7a4 16 = .ok (.iconst 2, 1) := by decide +kernel
theorem dJ6_bitCount_0f7a4_17 : decode cJ6_bitCount_0f7a4 17 = .ok (.iushr, 1) := by decide +kernel
theorem dJ6_bitCount_0f7a4_18 : decode cJ6_bitCount_0f7a4 18 = .ok (.ldc_w 266, 3) := by decide +kernel
theorem dJ6_bitCount_0f7a4_21 : decode cJ6_bitCount_0f7a4 21 = .ok (.iand, 1) := by decide +kernel
theorem dJ6_bitCount_0f7a4_22 : decode cJ6_bitCount_0f7a4 22 = .ok (.iadd, 1) := by decide +kernel
theorem dJ6_bitCount_0f7a4_23 : decode cJ6_bitCount_0f7a4 23 = .ok (.istore_n 0, 1) := by decide +kernel
theorem dJ6_bitCount_0f7a4_24 : decode cJ6_bitCount_0f7a4 24 = .ok (.iload_n 0, 1) := by decide +kernel
theorem dJ6_bitCount_0f7a4_25 : decode cJ6_bitCount_0f7a4 25 = .ok (.iload_n 0, 1) := by decide +kernel
theorem dJ6_bitCount_0f7a4_26 : decode cJ6_bitCount_0f7a4 26 = .ok (.iconst 4, 1) := by decide +kernel
theorem dJ6_bitCount_0f7a4_27 : decode cJ6_bitCount_0f7a4 27 = .ok (.iushr, 1) := by decide +kernel
theorem dJ6_bitCount_0f7a4_28 : decode cJ6_bitCount_0f7a4 28 = .ok (.iadd, 1) := by decide +kernel
theorem dJ6_bitCount_0f7a4_29 : decode cJ6_bitCount_0f7a4 29 = .ok (.ldc_w 267, 3) := by decide +kernel
theorem dJ6_bitCount_0f7a4_32 : decode cJ6_bitCount_0f7a4 32 = .ok (.iand, 1) := by decide +kernel
theorem dJ6_bitCount_0f7a4_33 : decode cJ6_bitCount_0f7a4 33 = .ok (.istore_n 0, 1) := by decide +kernel
theorem dJ6_bitCount_0f7a4_34 : decode cJ6_bitCount_0f7a4 34 = .ok (.iload_n 0, 1) := by decide +kernel
theorem dJ6_bitCount_0f7a4_35 : decode cJ6_bitCount_0f7a4 35 = .ok (.iload_n 0, 1) := by decide +kernel
theorem dJ6_bitCount_0f7a4_36 : decode cJ6_bitCount_0f7a4 36 = .ok (.bipush 8, 2) := by decide +kernel
theorem dJ6_bitCount_0f7a4_38 : decode cJ6_bitCount_0f7a4 38 = .ok (.iushr, 1) := by decide +kernel
theorem dJ6_bitCount_0f7a4_39 : decode cJ6_bitCount_0f7a4 39 = .ok (.iadd, 1) := by decide +kernel
theorem dJ6_bitCount_0f7a4_40 : decode cJ6_bitCount_0f7a4 40 = .ok (.istore_n 0, 1) := by decide +kernel
theorem dJ6_bitCount_0f7a4_41 : decode cJ6_bitCount_0f7a4 41 = .ok (.iload_n 0, 1) := by decide +kernel
theorem dJ6_bitCount_0f7a4_42 : decode cJ6_bitCount_0f7a4 42 = .ok (.iload_n 0, 1) := by decide +kernel
theorem dJ6_bitCount_0f7a4_43 : decode cJ6_bitCount_0f7a4 43 = .ok (.bipush 16, 2) := by decide +kernel
theorem dJ6_bitCount_0f7a4_45 : decode cJ6_bitCount_0f7a4 45 = .ok (.iushr, 1) := by decide +kernel
theorem dJ6_bitCount_0f7a4_46 : decode cJ6_bitCount_0f7a4 46 = .ok (.iadd, 1) := by decide +kernel
theorem dJ6_bitCount_0f7a4_47 : decode cJ6_bitCount_0f7a4 47 = .ok (.istore_n 0, 1) := by decide +kernel
theorem dJ6_bitCount_0f7a4_48 : decode cJ6_bitCount_0f7a4 48 = .ok (.iload_n 0, 1) := by decide +kernel
theorem dJ6_bitCount_0f7a4_49 : decode cJ6_bitCount_0f7a4 49 = .ok (.bipush 63, 2) := by decide +kernel
theorem dJ6_bitCount_0f7a4_51 : decode cJ6_bitCount_0f7a4 51 = .ok (.iand, 1) := by decide +kernel
theorem dJ6_bitCount_0f7a4_52 : decode cJ6_bitCount_0f7a4 52 = .ok (.ireturn, 1) := by decide +kernel
def w_J6_bitCount_0f7a4 (l0 : Int32) (M : Mem) (post : Int32 → Mem → Prop) : Prop := ∀ v1 : Int32, v1 = (l0 - ((iushr l0 1) &&& 1431655765)) → ∀ v2 : Int32, v2 = ((v1 &&& 858993459) + ((iushr v1 2) &&& 858993459)) → ∀ v3 : Int32, v3 = ((v2 + (iushr v2 4)) &&& 252645135) → ∀ v4 : Int32, v4 = (v3 + (iushr v3 8)) → ∀ v5 : Int32, v5 = (v4 + (iushr v4 16)) → post (v5 &&& 63) M
set_option maxRecDepth 100000 in
set_option maxHeartbeats 4000000 in
theorem S_J6_bitCount_0f7a4 {ω : WD} {l0 : Int32} {M : Mem} {post : Int32 → Mem → Prop} (h : w_J6_bitCount_0f7a4 l0 M post) : MtI ω yJ6_bitCount_0f7a4 cJ6_bitCount_0f7a4 1 (some .int) 0 [.int l0] M post := by
  refine MtI.start (ty := .int) rfl (by decide +kernel) (own := RJ6) rfl (Nat.le_of_ble_eq_true rfl) (fun ρ C R => ?_)
  show G ω ρ M 0 [(0, .int l0)] []
  refine G_iload_n C dJ6_bitCount_0f7a4_0 0 rfl ?_
  refine G_iload_n C dJ6_bitCount_0f7a4_1 0 rfl ?_
  refine G_iconst (v := 1) C dJ6_bitCount_0f7a4_2 (by decide) ?_
  refine G_iushr C dJ6_bitCount_0f7a4_3 ?_
  refine G_ldcw (v := 1431655765) C dJ6_bitCount_0f7a4_4 (tb_of 828 ⟨by decide +kernel, rfl⟩) ?_
  refine G_iand C dJ6_bitCount_0f7a4_7 ?_
  refine G_isub C dJ6_bitCount_0f7a4_8 ?_
  refine G_iname (fun v1 ev1 => ?_)
  replace h := h v1 ev1
  refine G_istore_n C dJ6_bitCount_0f7a4_9 (by decide) (lv' := [(0, .int v1)]) rfl ?_
  refine G_iload_n C dJ6_bitCount_0f7a4_10 0 rfl ?_
  refine G_ldcw (v := 858993459) C dJ6_bitCount_0f7a4_11 (tb_of 829 ⟨by decide +kernel, rfl⟩) ?_
  refine G_iand C dJ6_bitCount_0f7a4_14 ?_
  refine G_iload_n C dJ6_bitCount_0f7a4_15 0 rfl ?_
  refine G_iconst (v := 2) C dJ6_bitCount_0f7a4_16 (by decide) ?_
  refine G_iushr C dJ6_bitCount_0f7a4_17 ?_
  refine G_ldcw (v := 858993459) C dJ6_bitCount_0f7a4_18 (tb_of 829 ⟨by decide +kernel, rfl⟩) ?_
  refine G_iand C dJ6_bitCount_0f7a4_21 ?_
  refine G_iadd C dJ6_bitCount_0f7a4_22 ?_
  refine G_iname (fun v2 ev2 => ?_)
  replace h := h v2 ev2
  refine G_istore_n C dJ6_bitCount_0f7a4_23 (by decide) (lv' := [(0, .int v2)]) rfl ?_
  refine G_iload_n C dJ6_bitCount_0f7a4_24 0 rfl ?_
  refine G_iload_n C dJ6_bitCount_0f7a4_25 0 rfl ?_
  refine G_iconst (v := 4) C dJ6_bitCount_0f7a4_26 (by decide) ?_
  refine G_iushr C dJ6_bitCount_0f7a4_27 ?_
  refine G_iadd C dJ6_bitCount_0f7a4_28 ?_
  refine G_ldcw (v := 252645135) C dJ6_bitCount_0f7a4_29 (tb_of 830 ⟨by decide +kernel, rfl⟩) ?_
  refine G_iand C dJ6_bitCount_0f7a4_32 ?_
  refine G_iname (fun v3 ev3 => ?_)
  replace h := h v3 ev3
  refine G_istore_n C dJ6_bitCount_0f7a4_33 (by decide) (lv' := [(0, .int v3)]) rfl ?_
  refine G_iload_n C dJ6_bitCount_0f7a4_34 0 rfl ?_
  refine G_iload_n C dJ6_bitCount_0f7a4_35 0 rfl ?_
  refine G_bipush (v := 8) C dJ6_bitCount_0f7a4_36 (by decide) ?_
  refine G_iushr C dJ6_bitCount_0f7a4_38 ?_
  refine G_iadd C dJ6_bitCount_0f7a4_39 ?_
  refine G_iname (fun v4 ev4 => ?_)
  replace h := h v4 ev4
  refine G_istore_n C dJ6_bitCount_0f7a4_40 (by decide) (lv' := [(0, .int v4)]) rfl ?_
  refine G_iload_n C dJ6_bitCount_0f7a4_41 0 rfl ?_
  refine G_iload_n C dJ6_bitCount_0f7a4_42 0 rfl ?_
  refine G_bipush (v := 16) C dJ6_bitCount_0f7a4_43 (by decide) ?_
  refine G_iushr C dJ6_bitCount_0f7a4_45 ?_
  refine G_iadd C dJ6_bitCount_0f7a4_46 ?_
  refine G_iname (fun v5 ev5 => ?_)
  replace h := h v5 ev5
  refine G_istore_n C dJ6_bitCount_0f7a4_47 (by decide) (lv' := [(0, .int v5)]) rfl ?_
  refine G_iload_n C dJ6_bitCount_0f7a4_48 0 rfl ?_
  refine G_bipush (v := 63) C dJ6_bitCount_0f7a4_49 (by decide) ?_
  refine G_iand C dJ6_bitCount_0f7a4_51 ?_
  exact R 52 _ _ _ dJ6_bitCount_0f7a4_52 rfl h
theorem dX1_clear_0 : decode cX1_clear 0 = .ok (.aload_n 0, 1) := by decide +kernel
theorem dX1_clear_1 : decode cX1_clear 1 = .ok (.iconst 0, 1) := by decide +kernel
theorem dX1_clear_2 : decode cX1_clear 2 = .ok (.putfield 9, 3) := by decide +kernel
theorem dX1_clear_5 : decode cX1_clear 5 = .ok (.aload_n 0, 1) := by decide +kernel
theorem dX1_clear_6 : decode cX1_clear 6 = .ok (.iconst 2, 1) := by decide +kernel
theorem dX1_clear_7 : decode cX1_clear 7 = .ok (.putfield 15, 3) := by decide +kernel
theorem dX1_clear_10 : decode cX1_clear 10 = .ok (.aload_n 0, 1) := by decide +kernel
theorem dX1_clear_11 : decode cX1_clear 11 = .ok (.iconst 0, 1) := by decide +kernel
theorem dX1_clear_12 : decode cX1_clear 12 = .ok (.putfield 18, 3) := by decide +kernel
theorem dX1_clear_15 : decode cX1_clear 15 = .ok (.iconst 0, 1) := by decide +kernel
theorem dX1_clear_16 : decode cX1_clear 16 = .ok (.istore_n 1, 1) := by decide +kernel
theorem dX1_clear_17 : decode cX1_clear 17 = .ok (.iload_n 1, 1) := by decide +kernel
theorem dX1_clear_18 : decode cX1_clear 18 = .ok (.iconst 5, 1) := by decide +kernel
theorem dX1_clear_19 : decode cX1_clear 19 = .ok (.if_icmp .ge 18, 3) := by decide +kernel
theorem dX1_clear_22 : decode cX1_clear 22 = .ok (.aload_n 0, 1) := by decide +kernel
theorem dX1_clear_23 : decode cX1_clear 23 = .ok (.getfield 36, 3) := by decide +kernel
theorem dX1_clear_26 : decode cX1_clear 26 = .ok (.iload_n 1, 1) := by decide +kernel
theorem dX1_clear_27 : decode cX1_clear 27 = .ok (.aaload, 1) := by decide +kernel
theorem dX1_clear_28 : decode cX1_clear 28 = .ok (.invokevirtual 41, 3) := by decide +kernel
theorem dX1_clear_31 : decode cX1_clear 31 = .ok (.iinc 1 1, 3) := by decide +kernel
theorem dX1_clear_34 : decode cX1_clear 34 = .ok (.goto (-17), 3) := by decide +kernel
theorem dX1_clear_37 : decode cX1_clear 37 = .ok (.return_, 1) := by decide +kernel
theorem gf_X1_36 {ω : WD} {ρ : FR} {M : Mem} {cc : ByteArray} {d n pc i : Nat} {lv : List (Nat × Value)} {rest : List Value} (C : Cx ω ρ cc RX1 d n) (hk : isK 1 i) (hd : decode cc pc = .ok (.getfield 36, 3)) (k : G ω ρ M (pc + 3) lv (.ref (adr ω (i + 5)) :: rest)) : G ω ρ M pc lv (.ref (adr ω i) :: rest) := G_get (N := 8) (T := TX1) (C := RX1) (q := 7) C hk (by decide) rfl in_X1 (by decide) (tb_of 148 ⟨by decide +kernel, rfl⟩) rfl rfl hd k
theorem lk_X1_41 : LkV RX1 41 RX2 yX2_clear cX2_clear 2 none 0 := LkV.of 433 434 435 63 436 (by decide +kernel) (by decide +kernel) (by decide +kernel) (by decide +kernel) (by decide +kernel) (by decide +kernel)
theorem pf_X1_9 {ω : WD} {ρ : FR} {M : Mem} {cc : ByteArray} {d n pc i : Nat} {lv : List (Nat × Value)} {rest : List Value} {v : Int32} (C : Cx ω ρ cc RX1 d n) (hk : isK 1 i) (hd : decode cc pc = .ok (.putfield 9, 3)) (k : ∀ M1, M1 = wr M i 0 v → G ω ρ M1 (pc + 3) lv rest) : G ω ρ M pc lv (.int v :: .ref (adr ω i) :: rest) := G_put (N := 8) (T := TX1) (C := RX1) (q := 0) (ty := .int) C hk (by decide) rfl in_X1 tyX1 tyX1_ok nmX1 (by decide) (tb_of 131 ⟨by decide +kernel, rfl⟩) rfl rfl (by decide +kernel) rfl rfl (fun _ _ => Nat.le_of_ble_eq_true rfl) (fun _ => rfl) hd (k _ rfl)
theorem pf_X1_15 {ω : WD} {ρ : FR} {M : Mem} {cc : ByteArray} {d n pc i : Nat} {lv : List (Nat × Value)} {rest : List Value} {v : Int32} (C : Cx ω ρ cc RX1 d n) (hk : isK 1 i) (hd : decode cc pc = .ok (.putfield 15, 3)) (k : ∀ M1, M1 = wr M i 1 v → G ω ρ M1 (pc + 3) lv rest) : G ω ρ M pc lv (.int v :: .ref (adr ω i) :: rest) := G_put (N := 8) (T := TX1) (C := RX1) (q := 1) (ty := .int) C hk (by decide) rfl in_X1 tyX1 tyX1_ok nmX1 (by decide) (tb_of 134 ⟨by decide +kernel, rfl⟩) rfl rfl (by decide +kernel) rfl rfl (fun _ _ => Nat.le_of_ble_eq_true rfl) (fun _ => rfl) hd (k _ rfl)
theorem pf_X1_18 {ω : WD} {ρ : FR} {M : Mem} {cc : ByteArray} {d n pc i : Nat} {lv : List (Nat × Value)} {rest : List Value} {v : Int32} (C : Cx ω ρ cc RX1 d n) (hk : isK 1 i) (hd : decode cc pc = .ok (.putfield 18, 3)) (k : ∀ M1, M1 = wr M i 2 v → G ω ρ M1 (pc + 3) lv rest) : G ω ρ M pc lv (.int v :: .ref (adr ω i) :: rest) := G_put (N := 8) (T := TX1) (C := RX1) (q := 2) (ty := .int) C hk (by decide) rfl in_X1 tyX1 tyX1_ok nmX1 (by decide) (tb_of 137 ⟨by decide +kernel, rfl⟩) rfl rfl (by decide +kernel) rfl rfl (fun _ _ => Nat.le_of_ble_eq_true rfl) (fun _ => rfl) hd (k _ rfl)
def w_X1_clear_L17 (x : Nat) (post : Mem → Prop) : Nat → Int32 → Mem → Prop
  | 0, _, _ => False
  | f + 1, l1, M => ((5 ≤ l1 → post M) ∧ (¬ 5 ≤ l1 → vp_in l1 5 ∧ (∀ g1 : Nat, g1 = x + 5 + 1 + 2 * l1.toNatClampNeg → w_X2_clear g1 M (fun (M2 : Mem) => ∀ v3 : Int32, v3 = (l1 + 1) → (w_X1_clear_L17 x post f) v3 M2))))
set_option maxRecDepth 100000 in
set_option maxHeartbeats 4000000 in
theorem s_X1_clear_L17 {ω : WD} {ρ : FR} {post : Mem → Prop} (C : Cx ω ρ cX1_clear RX1 1 2) (R : RtV ω ρ cX1_clear post) {x : Nat} (hx : isK 1 x) : ∀ (f : Nat) (l1 : Int32) (M : Mem), w_X1_clear_L17 x post f l1 M → G ω ρ M 17 [(0, .ref (adr ω x)), (1, .int l1)] [] := by
  intro f
  induction f with
  | zero => intro l1 M h; exact False.elim h
  | succ f k17 =>
    intro l1 M h
    refine G_iload_n C dX1_clear_17 1 rfl ?_
    refine G_iconst (v := 5) C dX1_clear_18 (by decide) ?_
    obtain ⟨h1, h2⟩ := h
    refine G_icmp_ge (tgt := 37) C dX1_clear_19 (by decide) (fun c => ?_) (fun c => ?_)
    · have h := h1 c
      clear h1 h2
      exact R 37 _ _ dX1_clear_37 h
    · have h := h2 c
      clear h1 h2
      refine G_aload_n C dX1_clear_22 0 rfl ?_
      refine gf_X1_36 C hx dX1_clear_23 ?_
      refine G_iload_n C dX1_clear_26 1 rfl ?_
      obtain ⟨hi, h⟩ := h
      refine G_aldGroup C (st_1_7 hx) hi dX1_clear_27 (G_rname (fun g1 eg1 => ?_))
      replace h := h g1 eg1
      have hg1 := el_13 (st_1_7 hx) hi eg1
      refine G_callV (As := []) (rest := []) C dX1_clear_28 lk_X1_41 (Nat.le_of_ble_eq_true rfl) (Nat.le_of_ble_eq_true rfl) hg1 (by decide) rfl (Nat.le_of_ble_eq_true rfl) rfl (S_X2_clear hg1 h) (fun M2 h => ?_)
      obtain ⟨v3, ev3⟩ : ∃ y : Int32, y = (l1 + 1) := ⟨_, rfl⟩
      replace h := h v3 ev3
      refine G_iinc C dX1_clear_31 1 rfl (v := v3) (by rw [ev3]; rfl) (by decide) (lv' := [(1, .int v3), (0, .ref (adr ω x))]) rfl ?_
      refine G_goto (tgt := 17) C dX1_clear_34 (by decide) ?_
      refine G_sub [1, 0] (lv' := [(0, .ref (adr ω x)), (1, .int v3)]) rfl ?_
      exact k17 _ _ h
def w_X1_clear (x : Nat) (M : Mem) (post : Mem → Prop) : Prop := ∀ M4 : Mem, M4 = wr M x 0 0 → ∀ M5 : Mem, M5 = wr M4 x 1 2 → ∀ M6 : Mem, M6 = wr M5 x 2 0 → ∃ g17 : Nat, w_X1_clear_L17 x post g17 0 M6
set_option maxRecDepth 100000 in
set_option maxHeartbeats 4000000 in
theorem S_X1_clear {ω : WD} {x : Nat} {M : Mem} {post : Mem → Prop} (hx : isK 1 x) (h : w_X1_clear x M post) : MtV ω yX1_clear cX1_clear 2 none 1 [.ref (adr ω x)] M post := by
  refine MtV.start rfl (by decide +kernel) (own := RX1) rfl (Nat.le_of_ble_eq_true rfl) (fun ρ C R => ?_)
  show G ω ρ M 0 [(0, .ref (adr ω x))] []
  refine G_aload_n C dX1_clear_0 0 rfl ?_
  refine G_iconst (v := 0) C dX1_clear_1 (by decide) ?_
  refine pf_X1_9 C hx dX1_clear_2 (fun M4 eM4 => ?_)
  replace h := h M4 eM4
  refine G_aload_n C dX1_clear_5 0 rfl ?_
  refine G_iconst (v := 2) C dX1_clear_6 (by decide) ?_
  refine pf_X1_15 C hx dX1_clear_7 (fun M5 eM5 => ?_)
  replace h := h M5 eM5
  refine G_aload_n C dX1_clear_10 0 rfl ?_
  refine G_iconst (v := 0) C dX1_clear_11 (by decide) ?_
  refine pf_X1_18 C hx dX1_clear_12 (fun M6 eM6 => ?_)
  replace h := h M6 eM6
  refine G_iconst (v := 0) C dX1_clear_15 (by decide) ?_
  refine G_istore_n C dX1_clear_16 (by decide) (lv' := [(1, .int 0), (0, .ref (adr ω x))]) rfl ?_
  refine G_sub [1, 0] (lv' := [(0, .ref (adr ω x)), (1, .int 0)]) rfl ?_
  obtain ⟨f, h⟩ := h
  exact s_X1_clear_L17 C R hx f _ _ h
theorem dX1_copyFrom_0 : decode cX1_copyFrom 0 = .ok (.aload_n 0, 1) := by decide +kernel
theorem dX1_copyFrom_1 : decode cX1_copyFrom 1 = .ok (.aload_n 1, 1) := by decide +kernel
theorem dX1_copyFrom_2 : decode cX1_copyFrom 2 = .ok (.getfield 9, 3) := by decide +kernel
theorem dX1_copyFrom_5 : decode cX1_copyFrom 5 = .ok (.putfield 9, 3) := by decide +kernel
theorem dX1_copyFrom_8 : decode cX1_copyFrom 8 = .ok (.aload_n 0, 1) := by decide +kernel
theorem dX1_copyFrom_9 : decode cX1_copyFrom 9 = .ok (.aload_n 1, 1) := by decide +kernel
theorem dX1_copyFrom_10 : decode cX1_copyFrom 10 = .ok (.getfield 15, 3) := by decide +kernel
theorem dX1_copyFrom_13 : decode cX1_copyFrom 13 = .ok (.putfield 15, 3) := by decide +kernel
theorem dX1_copyFrom_16 : decode cX1_copyFrom 16 = .ok (.aload_n 0, 1) := by decide +kernel
theorem dX1_copyFrom_17 : decode cX1_copyFrom 17 = .ok (.aload_n 1, 1) := by decide +kernel
theorem dX1_copyFrom_18 : decode cX1_copyFrom 18 = .ok (.getfield 18, 3) := by decide +kernel
theorem dX1_copyFrom_21 : decode cX1_copyFrom 21 = .ok (.putfield 18, 3) := by decide +kernel
theorem dX1_copyFrom_24 : decode cX1_copyFrom 24 = .ok (.iconst 0, 1) := by decide +kernel
theorem dX1_copyFrom_25 : decode cX1_copyFrom 25 = .ok (.istore_n 2, 1) := by decide +kernel
theorem dX1_copyFrom_26 : decode cX1_copyFrom 26 = .ok (.iload_n 2, 1) := by decide +kernel
theorem dX1_copyFrom_27 : decode cX1_copyFrom 27 = .ok (.aload_n 0, 1) := by decide +kernel
theorem dX1_copyFrom_28 : decode cX1_copyFrom 28 = .ok (.getfield 9, 3) := by decide +kernel
theorem dX1_copyFrom_31 : decode cX1_copyFrom 31 = .ok (.if_icmp .ge 57, 3) := by decide +kernel
theorem dX1_copyFrom_34 : decode cX1_copyFrom 34 = .ok (.aload_n 0, 1) := by decide +kernel
theorem dX1_copyFrom_35 : decode cX1_copyFrom 35 = .ok (.getfield 21, 3) := by decide +kernel
theorem dX1_copyFrom_38 : decode cX1_copyFrom 38 = .ok (.iload_n 2, 1) := by decide +kernel
theorem dX1_copyFrom_39 : decode cX1_copyFrom 39 = .ok (.aload_n 1, 1) := by decide +kernel
theorem dX1_copyFrom_40 : decode cX1_copyFrom 40 = .ok (.getfield 21, 3) := by decide +kernel
theorem dX1_copyFrom_43 : decode cX1_copyFrom 43 = .ok (.iload_n 2, 1) := by decide +kernel
theorem dX1_copyFrom_44 : decode cX1_copyFrom 44 = .ok (.iaload, 1) := by decide +kernel
theorem dX1_copyFrom_45 : decode cX1_copyFrom 45 = .ok (.iastore, 1) := by decide +kernel
theorem dX1_copyFrom_46 : decode cX1_copyFrom 46 = .ok (.aload_n 0, 1) := by decide +kernel
theorem dX1_copyFrom_47 : decode cX1_copyFrom 47 = .ok (.getfield 25, 3) := by decide +kernel
theorem dX1_copyFrom_50 : decode cX1_copyFrom 50 = .ok (.iload_n 2, 1) := by decide +kernel
theorem dX1_copyFrom_51 : decode cX1_copyFrom 51 = .ok (.aload_n 1, 1) := by decide +kernel
theorem dX1_copyFrom_52 : decode cX1_copyFrom 52 = .ok (.getfield 25, 3) := by decide +kernel
theorem dX1_copyFrom_55 : decode cX1_copyFrom 55 = .ok (.iload_n 2, 1) := by decide +kernel
theorem dX1_copyFrom_56 : decode cX1_copyFrom 56 = .ok (.iaload, 1) := by decide +kernel
theorem dX1_copyFrom_57 : decode cX1_copyFrom 57 = .ok (.iastore, 1) := by decide +kernel
theorem dX1_copyFrom_58 : decode cX1_copyFrom 58 = .ok (.aload_n 0, 1) := by decide +kernel
theorem dX1_copyFrom_59 : decode cX1_copyFrom 59 = .ok (.getfield 28, 3) := by decide +kernel
theorem dX1_copyFrom_62 : decode cX1_copyFrom 62 = .ok (.iload_n 2, 1) := by decide +kernel
theorem dX1_copyFrom_63 : decode cX1_copyFrom 63 = .ok (.aload_n 1, 1) := by decide +kernel
theorem dX1_copyFrom_64 : decode cX1_copyFrom 64 = .ok (.getfield 28, 3) := by decide +kernel
theorem dX1_copyFrom_67 : decode cX1_copyFrom 67 = .ok (.iload_n 2, 1) := by decide +kernel
theorem dX1_copyFrom_68 : decode cX1_copyFrom 68 = .ok (.iaload, 1) := by decide +kernel
theorem dX1_copyFrom_69 : decode cX1_copyFrom 69 = .ok (.iastore, 1) := by decide +kernel
theorem dX1_copyFrom_70 : decode cX1_copyFrom 70 = .ok (.aload_n 0, 1) := by decide +kernel
theorem dX1_copyFrom_71 : decode cX1_copyFrom 71 = .ok (.getfield 31, 3) := by decide +kernel
theorem dX1_copyFrom_74 : decode cX1_copyFrom 74 = .ok (.iload_n 2, 1) := by decide +kernel
theorem dX1_copyFrom_75 : decode cX1_copyFrom 75 = .ok (.aload_n 1, 1) := by decide +kernel
theorem dX1_copyFrom_76 : decode cX1_copyFrom 76 = .ok (.getfield 31, 3) := by decide +kernel
theorem dX1_copyFrom_79 : decode cX1_copyFrom 79 = .ok (.iload_n 2, 1) := by decide +kernel
theorem dX1_copyFrom_80 : decode cX1_copyFrom 80 = .ok (.iaload, 1) := by decide +kernel
theorem dX1_copyFrom_81 : decode cX1_copyFrom 81 = .ok (.iastore, 1) := by decide +kernel
theorem dX1_copyFrom_82 : decode cX1_copyFrom 82 = .ok (.iinc 2 1, 3) := by decide +kernel
theorem dX1_copyFrom_85 : decode cX1_copyFrom 85 = .ok (.goto (-59), 3) := by decide +kernel
theorem dX1_copyFrom_88 : decode cX1_copyFrom 88 = .ok (.iconst 0, 1) := by decide +kernel
theorem dX1_copyFrom_89 : decode cX1_copyFrom 89 = .ok (.istore_n 2, 1) := by decide +kernel
theorem dX1_copyFrom_90 : decode cX1_copyFrom 90 = .ok (.iload_n 2, 1) := by decide +kernel
theorem dX1_copyFrom_91 : decode cX1_copyFrom 91 = .ok (.iconst 5, 1) := by decide +kernel
theorem dX1_copyFrom_92 : decode cX1_copyFrom 92 = .ok (.if_icmp .ge 24, 3) := by decide +kernel
theorem dX1_copyFrom_95 : decode cX1_copyFrom 95 = .ok (.aload_n 0, 1) := by decide +kernel
theorem dX1_copyFrom_96 : decode cX1_copyFrom 96 = .ok (.getfield 36, 3) := by decide +kernel
theorem dX1_copyFrom_99 : decode cX1_copyFrom 99 = .ok (.iload_n 2, 1) := by decide +kernel
theorem dX1_copyFrom_100 : decode cX1_copyFrom 100 = .ok (.aaload, 1) := by decide +kernel
theorem dX1_copyFrom_101 : decode cX1_copyFrom 101 = .ok (.aload_n 1, 1) := by decide +kernel
theorem dX1_copyFrom_102 : decode cX1_copyFrom 102 = .ok (.getfield 36, 3) := by decide +kernel
theorem dX1_copyFrom_105 : decode cX1_copyFrom 105 = .ok (.iload_n 2, 1) := by decide +kernel
theorem dX1_copyFrom_106 : decode cX1_copyFrom 106 = .ok (.aaload, 1) := by decide +kernel
theorem dX1_copyFrom_107 : decode cX1_copyFrom 107 = .ok (.invokevirtual 44, 3) := by decide +kernel
theorem dX1_copyFrom_110 : decode cX1_copyFrom 110 = .ok (.iinc 2 1, 3) := by decide +kernel
theorem dX1_copyFrom_113 : decode cX1_copyFrom 113 = .ok (.goto (-23), 3) := by decide +kernel
theorem dX1_copyFrom_116 : decode cX1_copyFrom 116 = .ok (.return_, 1) := by decide +kernel
theorem lk_X1_44 : LkV RX1 44 RX2 yX2_copyFrom cX2_copyFrom 3 none 1 := LkV.of 587 588 589 63 590 (by decide +kernel) (by decide +kernel) (by decide +kernel) (by decide +kernel) (by decide +kernel) (by decide +kernel)
theorem gf_X1_9 {ω : WD} {ρ : FR} {M : Mem} {cc : ByteArray} {d n pc i : Nat} {lv : List (Nat × Value)} {rest : List Value} (C : Cx ω ρ cc RX1 d n) (hk : isK 1 i) (hd : decode cc pc = .ok (.getfield 9, 3)) (k : G ω ρ M (pc + 3) lv (.int (rd M i 0) :: rest)) : G ω ρ M pc lv (.ref (adr ω i) :: rest) := G_get (N := 8) (T := TX1) (C := RX1) (q := 0) C hk (by decide) rfl in_X1 (by decide) (tb_of 131 ⟨by decide +kernel, rfl⟩) rfl rfl hd k
theorem gf_X1_21 {ω : WD} {ρ : FR} {M : Mem} {cc : ByteArray} {d n pc i : Nat} {lv : List (Nat × Value)} {rest : List Value} (C : Cx ω ρ cc RX1 d n) (hk : isK 1 i) (hd : decode cc pc = .ok (.getfield 21, 3)) (k : G ω ρ M (pc + 3) lv (.ref (adr ω (i + 1)) :: rest)) : G ω ρ M pc lv (.ref (adr ω i) :: rest) := G_get (N := 8) (T := TX1) (C := RX1) (q := 3) C hk (by decide) rfl in_X1 (by decide) (tb_of 139 ⟨by decide +kernel, rfl⟩) rfl rfl hd k
theorem gf_X1_25 {ω : WD} {ρ : FR} {M : Mem} {cc : ByteArray} {d n pc i : Nat} {lv : List (Nat × Value)} {rest : List Value} (C : Cx ω ρ cc RX1 d n) (hk : isK 1 i) (hd : decode cc pc = .ok (.getfield 25, 3)) (k : G ω ρ M (pc + 3) lv (.ref (adr ω (i + 2)) :: rest)) : G ω ρ M pc lv (.ref (adr ω i) :: rest) := G_get (N := 8) (T := TX1) (C := RX1) (q := 4) C hk (by decide) rfl in_X1 (by decide) (tb_of 141 ⟨by decide +kernel, rfl⟩) rfl rfl hd k
theorem gf_X1_28 {ω : WD} {ρ : FR} {M : Mem} {cc : ByteArray} {d n pc i : Nat} {lv : List (Nat × Value)} {rest : List Value} (C : Cx ω ρ cc RX1 d n) (hk : isK 1 i) (hd : decode cc pc = .ok (.getfield 28, 3)) (k : G ω ρ M (pc + 3) lv (.ref (adr ω (i + 3)) :: rest)) : G ω ρ M pc lv (.ref (adr ω i) :: rest) := G_get (N := 8) (T := TX1) (C := RX1) (q := 5) C hk (by decide) rfl in_X1 (by decide) (tb_of 143 ⟨by decide +kernel, rfl⟩) rfl rfl hd k
theorem gf_X1_31 {ω : WD} {ρ : FR} {M : Mem} {cc : ByteArray} {d n pc i : Nat} {lv : List (Nat × Value)} {rest : List Value} (C : Cx ω ρ cc RX1 d n) (hk : isK 1 i) (hd : decode cc pc = .ok (.getfield 31, 3)) (k : G ω ρ M (pc + 3) lv (.ref (adr ω (i + 4)) :: rest)) : G ω ρ M pc lv (.ref (adr ω i) :: rest) := G_get (N := 8) (T := TX1) (C := RX1) (q := 6) C hk (by decide) rfl in_X1 (by decide) (tb_of 146 ⟨by decide +kernel, rfl⟩) rfl rfl hd k
theorem gf_X1_15 {ω : WD} {ρ : FR} {M : Mem} {cc : ByteArray} {d n pc i : Nat} {lv : List (Nat × Value)} {rest : List Value} (C : Cx ω ρ cc RX1 d n) (hk : isK 1 i) (hd : decode cc pc = .ok (.getfield 15, 3)) (k : G ω ρ M (pc + 3) lv (.int (rd M i 1) :: rest)) : G ω ρ M pc lv (.ref (adr ω i) :: rest) := G_get (N := 8) (T := TX1) (C := RX1) (q := 1) C hk (by decide) rfl in_X1 (by decide) (tb_of 134 ⟨by decide +kernel, rfl⟩) rfl rfl hd k
theorem gf_X1_18 {ω : WD} {ρ : FR} {M : Mem} {cc : ByteArray} {d n pc i : Nat} {lv : List (Nat × Value)} {rest : List Value} (C : Cx ω ρ cc RX1 d n) (hk : isK 1 i) (hd : decode cc pc = .ok (.getfield 18, 3)) (k : G ω ρ M (pc + 3) lv (.int (rd M i 2) :: rest)) : G ω ρ M pc lv (.ref (adr ω i) :: rest) := G_get (N := 8) (T := TX1) (C := RX1) (q := 2) C hk (by decide) rfl in_X1 (by decide) (tb_of 137 ⟨by decide +kernel, rfl⟩) rfl rfl hd k
def w_X1_copyFrom_L90 (x : Nat) (y : Nat) (post : Mem → Prop) : Nat → Int32 → Mem → Prop
  | 0, _, _ => False
  | f + 1, l2, M => ((5 ≤ l2 → post M) ∧ (¬ 5 ≤ l2 → vp_in l2 5 ∧ (∀ g1 : Nat, g1 = x + 5 + 1 + 2 * l2.toNatClampNeg → vp_in l2 5 ∧ (∀ g2 : Nat, g2 = y + 5 + 1 + 2 * l2.toNatClampNeg → w_X2_copyFrom g1 g2 M (fun (M3 : Mem) => ∀ v4 : Int32, v4 = (l2 + 1) → (w_X1_copyFrom_L90 x y post f) v4 M3)))))
set_option maxRecDepth 100000 in
set_option maxHeartbeats 4000000 in
theorem s_X1_copyFrom_L90 {ω : WD} {ρ : FR} {post : Mem → Prop} (C : Cx ω ρ cX1_copyFrom RX1 1 3) (R : RtV ω ρ cX1_copyFrom post) {x : Nat} {y : Nat} (hx : isK 1 x) (hy : isK 1 y) : ∀ (f : Nat) (l2 : Int32) (M : Mem), w_X1_copyFrom_L90 x y post f l2 M → G ω ρ M 90 [(0, .ref (adr ω x)), (1, .ref (adr ω y)), (2, .int l2)] [] := by
  intro f
  induction f with
  | zero => intro l2 M h; exact False.elim h
  | succ f k90 =>
    intro l2 M h
    refine G_iload_n C dX1_copyFrom_90 2 rfl ?_
    refine G_iconst (v := 5) C dX1_copyFrom_91 (by decide) ?_
    obtain ⟨h1, h2⟩ := h
    refine G_icmp_ge (tgt := 116) C dX1_copyFrom_92 (by decide) (fun c => ?_) (fun c => ?_)
    · have h := h1 c
      clear h1 h2
      exact R 116 _ _ dX1_copyFrom_116 h
    · have h := h2 c
      clear h1 h2
      refine G_aload_n C dX1_copyFrom_95 0 rfl ?_
      refine gf_X1_36 C hx dX1_copyFrom_96 ?_
      refine G_iload_n C dX1_copyFrom_99 2 rfl ?_
      obtain ⟨hi, h⟩ := h
      refine G_aldGroup C (st_1_7 hx) hi dX1_copyFrom_100 (G_rname (fun g1 eg1 => ?_))
      replace h := h g1 eg1
      have hg1 := el_13 (st_1_7 hx) hi eg1
      refine G_aload_n C dX1_copyFrom_101 1 rfl ?_
      refine gf_X1_36 C hy dX1_copyFrom_102 ?_
      refine G_iload_n C dX1_copyFrom_105 2 rfl ?_
      obtain ⟨hi, h⟩ := h
      refine G_aldGroup C (st_1_7 hy) hi dX1_copyFrom_106 (G_rname (fun g2 eg2 => ?_))
      replace h := h g2 eg2
      have hg2 := el_13 (st_1_7 hy) hi eg2
      refine G_callV (As := [.ref (adr ω g2)]) (rest := []) C dX1_copyFrom_107 lk_X1_44 (Nat.le_of_ble_eq_true rfl) (Nat.le_of_ble_eq_true rfl) hg1 (by decide) rfl (Nat.le_of_ble_eq_true rfl) rfl (S_X2_copyFrom hg1 hg2 h) (fun M3 h => ?_)
      obtain ⟨v4, ev4⟩ : ∃ y : Int32, y = (l2 + 1) := ⟨_, rfl⟩
      replace h := h v4 ev4
      refine G_iinc C dX1_copyFrom_110 2 rfl (v := v4) (by rw [ev4]; rfl) (by decide) (lv' := [(2, .int v4), (0, .ref (adr ω x)), (1, .ref (adr ω y))]) rfl ?_
      refine G_goto (tgt := 90) C dX1_copyFrom_113 (by decide) ?_
      refine G_sub [1, 2, 0] (lv' := [(0, .ref (adr ω x)), (1, .ref (adr ω y)), (2, .int v4)]) rfl ?_
      exact k90 _ _ h
def w_X1_copyFrom_L26 (x : Nat) (y : Nat) (post : Mem → Prop) : Nat → Int32 → Mem → Prop
  | 0, _, _ => False
  | f + 1, l2, M => (((rd M x 0) ≤ l2 → ∃ g90 : Nat, w_X1_copyFrom_L90 x y post g90 0 M) ∧ (¬ (rd M x 0) ≤ l2 → vp_in l2 6 ∧ (vp_in l2 6 ∧ (∀ M5 : Mem, M5 = wr M (x + 1) l2.toNatClampNeg (rd M (y + 1) l2.toNatClampNeg) → vp_in l2 6 ∧ (vp_in l2 6 ∧ (∀ M6 : Mem, M6 = wr M5 (x + 2) l2.toNatClampNeg (rd M5 (y + 2) l2.toNatClampNeg) → vp_in l2 6 ∧ (vp_in l2 6 ∧ (∀ M7 : Mem, M7 = wr M6 (x + 3) l2.toNatClampNeg (rd M6 (y + 3) l2.toNatClampNeg) → vp_in l2 6 ∧ (vp_in l2 6 ∧ (∀ M8 : Mem, M8 = wr M7 (x + 4) l2.toNatClampNeg (rd M7 (y + 4) l2.toNatClampNeg) → ∀ v9 : Int32, v9 = (l2 + 1) → (w_X1_copyFrom_L26 x y post f) v9 M8))))))))))
set_option maxRecDepth 100000 in
set_option maxHeartbeats 4000000 in
theorem s_X1_copyFrom_L26 {ω : WD} {ρ : FR} {post : Mem → Prop} (C : Cx ω ρ cX1_copyFrom RX1 1 3) (R : RtV ω ρ cX1_copyFrom post) {x : Nat} {y : Nat} (hx : isK 1 x) (hy : isK 1 y) : ∀ (f : Nat) (l2 : Int32) (M : Mem), w_X1_copyFrom_L26 x y post f l2 M → G ω ρ M 26 [(0, .ref (adr ω x)), (1, .ref (adr ω y)), (2, .int l2)] [] := by
  intro f
  induction f with
  | zero => intro l2 M h; exact False.elim h
  | succ f k26 =>
    intro l2 M h
    refine G_iload_n C dX1_copyFrom_26 2 rfl ?_
    refine G_aload_n C dX1_copyFrom_27 0 rfl ?_
    refine gf_X1_9 C hx dX1_copyFrom_28 ?_
    obtain ⟨h1, h2⟩ := h
    refine G_icmp_ge (tgt := 88) C dX1_copyFrom_31 (by decide) (fun c => ?_) (fun c => ?_)
    · have h := h1 c
      clear h1 h2
      refine G_iconst (v := 0) C dX1_copyFrom_88 (by decide) ?_
      refine G_istore_n C dX1_copyFrom_89 (by decide) (lv' := [(2, .int 0), (0, .ref (adr ω x)), (1, .ref (adr ω y))]) rfl ?_
      refine G_sub [1, 2, 0] (lv' := [(0, .ref (adr ω x)), (1, .ref (adr ω y)), (2, .int 0)]) rfl ?_
      obtain ⟨f, h⟩ := h
      exact s_X1_copyFrom_L90 C R hx hy f _ _ h
    · have h := h2 c
      clear h1 h2
      refine G_aload_n C dX1_copyFrom_34 0 rfl ?_
      refine gf_X1_21 C hx dX1_copyFrom_35 ?_
      refine G_iload_n C dX1_copyFrom_38 2 rfl ?_
      refine G_aload_n C dX1_copyFrom_39 1 rfl ?_
      refine gf_X1_21 C hy dX1_copyFrom_40 ?_
      refine G_iload_n C dX1_copyFrom_43 2 rfl ?_
      obtain ⟨hi, h⟩ := h
      refine G_iald C (st_1_3 hy) hi dX1_copyFrom_44 ?_
      obtain ⟨hi, h⟩ := h
      refine G_iast C (st_1_3 hx) hi dX1_copyFrom_45 (G_mname (fun M5 eM5 => ?_))
      replace h := h M5 eM5
      refine G_aload_n C dX1_copyFrom_46 0 rfl ?_
      refine gf_X1_25 C hx dX1_copyFrom_47 ?_
      refine G_iload_n C dX1_copyFrom_50 2 rfl ?_
      refine G_aload_n C dX1_copyFrom_51 1 rfl ?_
      refine gf_X1_25 C hy dX1_copyFrom_52 ?_
      refine G_iload_n C dX1_copyFrom_55 2 rfl ?_
      obtain ⟨hi, h⟩ := h
      refine G_iald C (st_1_4 hy) hi dX1_copyFrom_56 ?_
      obtain ⟨hi, h⟩ := h
      refine G_iast C (st_1_4 hx) hi dX1_copyFrom_57 (G_mname (fun M6 eM6 => ?_))
      replace h := h M6 eM6
      refine G_aload_n C dX1_copyFrom_58 0 rfl ?_
      refine gf_X1_28 C hx dX1_copyFrom_59 ?_
      refine G_iload_n C dX1_copyFrom_62 2 rfl ?_
      refine G_aload_n C dX1_copyFrom_63 1 rfl ?_
      refine gf_X1_28 C hy dX1_copyFrom_64 ?_
      refine G_iload_n C dX1_copyFrom_67 2 rfl ?_
      obtain ⟨hi, h⟩ := h
      refine G_iald C (st_1_5 hy) hi dX1_copyFrom_68 ?_
      obtain ⟨hi, h⟩ := h
      refine G_iast C (st_1_5 hx) hi dX1_copyFrom_69 (G_mname (fun M7 eM7 => ?_))
      replace h := h M7 eM7
      refine G_aload_n C dX1_copyFrom_70 0 rfl ?_
      refine gf_X1_31 C hx dX1_copyFrom_71 ?_
      refine G_iload_n C dX1_copyFrom_74 2 rfl ?_
      refine G_aload_n C dX1_copyFrom_75 1 rfl ?_
      refine gf_X1_31 C hy dX1_copyFrom_76 ?_
      refine G_iload_n C dX1_copyFrom_79 2 rfl ?_
      obtain ⟨hi, h⟩ := h
      refine G_iald C (st_1_6 hy) hi dX1_copyFrom_80 ?_
      obtain ⟨hi, h⟩ := h
      refine G_iast C (st_1_6 hx) hi dX1_copyFrom_81 (G_mname (fun M8 eM8 => ?_))
      replace h := h M8 eM8
      obtain ⟨v9, ev9⟩ : ∃ y : Int32, y = (l2 + 1) := ⟨_, rfl⟩
      replace h := h v9 ev9
      refine G_iinc C dX1_copyFrom_82 2 rfl (v := v9) (by rw [ev9]; rfl) (by decide) (lv' := [(2, .int v9), (0, .ref (adr ω x)), (1, .ref (adr ω y))]) rfl ?_
      refine G_goto (tgt := 26) C dX1_copyFrom_85 (by decide) ?_
      refine G_sub [1, 2, 0] (lv' := [(0, .ref (adr ω x)), (1, .ref (adr ω y)), (2, .int v9)]) rfl ?_
      exact k26 _ _ h
def w_X1_copyFrom (x : Nat) (y : Nat) (M : Mem) (post : Mem → Prop) : Prop := ∀ M10 : Mem, M10 = wr M x 0 (rd M y 0) → ∀ M11 : Mem, M11 = wr M10 x 1 (rd M10 y 1) → ∀ M12 : Mem, M12 = wr M11 x 2 (rd M11 y 2) → ∃ g26 : Nat, w_X1_copyFrom_L26 x y post g26 0 M12
set_option maxRecDepth 100000 in
set_option maxHeartbeats 4000000 in
theorem S_X1_copyFrom {ω : WD} {x : Nat} {y : Nat} {M : Mem} {post : Mem → Prop} (hx : isK 1 x) (hy : isK 1 y) (h : w_X1_copyFrom x y M post) : MtV ω yX1_copyFrom cX1_copyFrom 3 none 1 [.ref (adr ω x), .ref (adr ω y)] M post := by
  refine MtV.start rfl (by decide +kernel) (own := RX1) rfl (Nat.le_of_ble_eq_true rfl) (fun ρ C R => ?_)
  show G ω ρ M 0 [(0, .ref (adr ω x)), (1, .ref (adr ω y))] []
  refine G_aload_n C dX1_copyFrom_0 0 rfl ?_
  refine G_aload_n C dX1_copyFrom_1 1 rfl ?_
  refine gf_X1_9 C hy dX1_copyFrom_2 ?_
  refine pf_X1_9 C hx dX1_copyFrom_5 (fun M10 eM10 => ?_)
  replace h := h M10 eM10
  refine G_aload_n C dX1_copyFrom_8 0 rfl ?_
  refine G_aload_n C dX1_copyFrom_9 1 rfl ?_
  refine gf_X1_15 C hy dX1_copyFrom_10 ?_
  refine pf_X1_15 C hx dX1_copyFrom_13 (fun M11 eM11 => ?_)
  replace h := h M11 eM11
  refine G_aload_n C dX1_copyFrom_16 0 rfl ?_
  refine G_aload_n C dX1_copyFrom_17 1 rfl ?_
  refine gf_X1_18 C hy dX1_copyFrom_18 ?_
  refine pf_X1_18 C hx dX1_copyFrom_21 (fun M12 eM12 => ?_)
  replace h := h M12 eM12
  refine G_iconst (v := 0) C dX1_copyFrom_24 (by decide) ?_
  refine G_istore_n C dX1_copyFrom_25 (by decide) (lv' := [(2, .int 0), (0, .ref (adr ω x)), (1, .ref (adr ω y))]) rfl ?_
  refine G_sub [1, 2, 0] (lv' := [(0, .ref (adr ω x)), (1, .ref (adr ω y)), (2, .int 0)]) rfl ?_
  obtain ⟨f, h⟩ := h
  exact s_X1_copyFrom_L26 C R hx hy f _ _ h
theorem dX1_has_0 : decode cX1_has 0 = .ok (.iload_n 1, 1) := by decide +kernel
theorem dX1_has_1 : decode cX1_has 1 = .ok (.ifCond .lt 15, 3) := by decide +kernel
theorem dX1_has_4 : decode cX1_has 4 = .ok (.iload_n 1, 1) := by decide +kernel
theorem dX1_has_5 : decode cX1_has 5 = .ok (.aload_n 0, 1) := by decide +kernel
theorem dX1_has_6 : decode cX1_has 6 = .ok (.getfield 9, 3) := by decide +kernel
theorem dX1_has_9 : decode cX1_has 9 = .ok (.if_icmp .ge 7, 3) := by decide +kernel
theorem dX1_has_12 : decode cX1_has 12 = .ok (.iconst 1, 1) := by decide +kernel
theorem dX1_has_13 : decode cX1_has 13 = .ok (.goto 4, 3) := by decide +kernel
theorem dX1_has_16 : decode cX1_has 16 = .ok (.iconst 0, 1) := by decide +kernel
theorem dX1_has_17 : decode cX1_has 17 = .ok (.ireturn, 1) := by decide +kernel
def w_X1_has (x : Nat) (l1 : Int32) (M : Mem) (post : Int32 → Mem → Prop) : Prop := ((l1 < 0 → post 0 M) ∧ (¬ l1 < 0 → (((rd M x 0) ≤ l1 → post 0 M) ∧ (¬ (rd M x 0) ≤ l1 → post 1 M))))
set_option maxRecDepth 100000 in
set_option maxHeartbeats 4000000 in
theorem S_X1_has {ω : WD} {x : Nat} {l1 : Int32} {M : Mem} {post : Int32 → Mem → Prop} (hx : isK 1 x) (h : w_X1_has x l1 M post) : MtI ω yX1_has cX1_has 2 (some .boolean) 0 [.ref (adr ω x), .int l1] M post := by
  refine MtI.start (ty := .boolean) rfl (by decide +kernel) (own := RX1) rfl (Nat.le_of_ble_eq_true rfl) (fun ρ C R => ?_)
  show G ω ρ M 0 [(0, .ref (adr ω x)), (1, .int l1)] []
  refine G_iload_n C dX1_has_0 1 rfl ?_
  obtain ⟨h1, h2⟩ := h
  refine G_if_lt (tgt := 16) C dX1_has_1 (by decide) (fun c => ?_) (fun c => ?_)
  · have h := h1 c
    clear h1 h2
    refine G_iconst (v := 0) C dX1_has_16 (by decide) ?_
    exact R 17 _ _ _ dX1_has_17 rfl h
  · have h := h2 c
    clear h1 h2
    refine G_iload_n C dX1_has_4 1 rfl ?_
    refine G_aload_n C dX1_has_5 0 rfl ?_
    refine gf_X1_9 C hx dX1_has_6 ?_
    obtain ⟨h1, h2⟩ := h
    refine G_icmp_ge (tgt := 16) C dX1_has_9 (by decide) (fun c => ?_) (fun c => ?_)
    · have h := h1 c
      clear h1 h2
      refine G_iconst (v := 0) C dX1_has_16 (by decide) ?_
      exact R 17 _ _ _ dX1_has_17 rfl h
    · have h := h2 c
      clear h1 h2
      refine G_iconst (v := 1) C dX1_has_12 (by decide) ?_
      refine G_goto (tgt := 17) C dX1_has_13 (by decide) ?_
      exact R 17 _ _ _ dX1_has_17 rfl h
theorem dX1_release_0 : decode cX1_release 0 = .ok (.aload_n 0, 1) := by decide +kernel
theorem dX1_release_1 : decode cX1_release 1 = .ok (.getfield 25, 3) := by decide +kernel
theorem dX1_release_4 : decode cX1_release 4 = .ok (.iload_n 1, 1) := by decide +kernel
theorem dX1_release_5 : decode cX1_release 5 = .ok (.bipush (-4), 2) := by decide +kernel
theorem dX1_release_7 : decode cX1_release 7 = .ok (.iastore, 1) := by decide +kernel
theorem dX1_release_8 : decode cX1_release 8 = .ok (.aload_n 0, 1) := by decide +kernel
theorem dX1_release_9 : decode cX1_release 9 = .ok (.getfield 28, 3) := by decide +kernel
theorem dX1_release_12 : decode cX1_release 12 = .ok (.iload_n 1, 1) := by decide +kernel
theorem dX1_release_13 : decode cX1_release 13 = .ok (.iconst 0, 1) := by decide +kernel
theorem dX1_release_14 : decode cX1_release 14 = .ok (.iastore, 1) := by decide +kernel
theorem dX1_release_15 : decode cX1_release 15 = .ok (.aload_n 0, 1) := by decide +kernel
theorem dX1_release_16 : decode cX1_release 16 = .ok (.getfield 31, 3) := by decide +kernel
theorem dX1_release_19 : decode cX1_release 19 = .ok (.iload_n 1, 1) := by decide +kernel
theorem dX1_release_20 : decode cX1_release 20 = .ok (.bipush (-4), 2) := by decide +kernel
theorem dX1_release_22 : decode cX1_release 22 = .ok (.iastore, 1) := by decide +kernel
theorem dX1_release_23 : decode cX1_release 23 = .ok (.return_, 1) := by decide +kernel
def w_X1_release (x : Nat) (l1 : Int32) (M : Mem) (post : Mem → Prop) : Prop := vp_in l1 6 ∧ (∀ M1 : Mem, M1 = wr M (x + 2) l1.toNatClampNeg (-4) → vp_in l1 6 ∧ (∀ M2 : Mem, M2 = wr M1 (x + 3) l1.toNatClampNeg 0 → vp_in l1 6 ∧ (∀ M3 : Mem, M3 = wr M2 (x + 4) l1.toNatClampNeg (-4) → post M3)))
set_option maxRecDepth 100000 in
set_option maxHeartbeats 4000000 in
theorem S_X1_release {ω : WD} {x : Nat} {l1 : Int32} {M : Mem} {post : Mem → Prop} (hx : isK 1 x) (h : w_X1_release x l1 M post) : MtV ω yX1_release cX1_release 2 none 0 [.ref (adr ω x), .int l1] M post := by
  refine MtV.start rfl (by decide +kernel) (own := RX1) rfl (Nat.le_of_ble_eq_true rfl) (fun ρ C R => ?_)
  show G ω ρ M 0 [(0, .ref (adr ω x)), (1, .int l1)] []
  refine G_aload_n C dX1_release_0 0 rfl ?_
  refine gf_X1_25 C hx dX1_release_1 ?_
  refine G_iload_n C dX1_release_4 1 rfl ?_
  refine G_bipush (v := (-4)) C dX1_release_5 (by decide) ?_
  obtain ⟨hi, h⟩ := h
  refine G_iast C (st_1_4 hx) hi dX1_release_7 (G_mname (fun M1 eM1 => ?_))
  replace h := h M1 eM1
  refine G_aload_n C dX1_release_8 0 rfl ?_
  refine gf_X1_28 C hx dX1_release_9 ?_
  refine G_iload_n C dX1_release_12 1 rfl ?_
  refine G_iconst (v := 0) C dX1_release_13 (by decide) ?_
  obtain ⟨hi, h⟩ := h
  refine G_iast C (st_1_5 hx) hi dX1_release_14 (G_mname (fun M2 eM2 => ?_))
  replace h := h M2 eM2
  refine G_aload_n C dX1_release_15 0 rfl ?_
  refine gf_X1_31 C hx dX1_release_16 ?_
  refine G_iload_n C dX1_release_19 1 rfl ?_
  refine G_bipush (v := (-4)) C dX1_release_20 (by decide) ?_
  obtain ⟨hi, h⟩ := h
  refine G_iast C (st_1_6 hx) hi dX1_release_22 (G_mname (fun M3 eM3 => ?_))
  replace h := h M3 eM3
  exact R 23 _ _ dX1_release_23 h
theorem dX1_addOne_0 : decode cX1_addOne 0 = .ok (.aload_n 0, 1) := by decide +kernel
theorem dX1_addOne_1 : decode cX1_addOne 1 = .ok (.getfield 21, 3) := by decide +kernel
theorem dX1_addOne_4 : decode cX1_addOne 4 = .ok (.aload_n 0, 1) := by decide +kernel
theorem dX1_addOne_5 : decode cX1_addOne 5 = .ok (.getfield 9, 3) := by decide +kernel
theorem dX1_addOne_8 : decode cX1_addOne 8 = .ok (.iload_n 1, 1) := by decide +kernel
theorem dX1_addOne_9 : decode cX1_addOne 9 = .ok (.iastore, 1) := by decide +kernel
theorem dX1_addOne_10 : decode cX1_addOne 10 = .ok (.aload_n 0, 1) := by decide +kernel
theorem dX1_addOne_11 : decode cX1_addOne 11 = .ok (.aload_n 0, 1) := by decide +kernel
theorem dX1_addOne_12 : decode cX1_addOne 12 = .ok (.getfield 9, 3) := by decide +kernel
theorem dX1_addOne_15 : decode cX1_addOne 15 = .ok (.invokevirtual 48, 3) := by decide +kernel
theorem dX1_addOne_18 : decode cX1_addOne 18 = .ok (.aload_n 0, 1) := by decide +kernel
theorem dX1_addOne_19 : decode cX1_addOne 19 = .ok (.dup, 1) := by decide +kernel
theorem dX1_addOne_20 : decode cX1_addOne 20 = .ok (.getfield 9, 3) := by decide +kernel
theorem dX1_addOne_23 : decode cX1_addOne 23 = .ok (.iconst 1, 1) := by decide +kernel
theorem dX1_addOne_24 : decode cX1_addOne 24 = .ok (.iadd, 1) := by decide +kernel
theorem dX1_addOne_25 : decode cX1_addOne 25 = .ok (.putfield 9, 3) := by decide +kernel
theorem dX1_addOne_28 : decode cX1_addOne 28 = .ok (.return_, 1) := by decide +kernel
theorem lk_X1_48 : LkV RX1 48 RX1 yX1_release cX1_release 2 none 1 := LkV.of 545 546 547 62 548 (by decide +kernel) (by decide +kernel) (by decide +kernel) (by decide +kernel) (by decide +kernel) (by decide +kernel)
def w_X1_addOne (x : Nat) (l1 : Int32) (M : Mem) (post : Mem → Prop) : Prop := vp_in (rd M x 0) 6 ∧ (∀ M1 : Mem, M1 = wr M (x + 1) (rd M x 0).toNatClampNeg l1 → w_X1_release x (rd M1 x 0) M1 (fun (M2 : Mem) => ∀ M3 : Mem, M3 = wr M2 x 0 ((rd M2 x 0) + 1) → post M3))
set_option maxRecDepth 100000 in
set_option maxHeartbeats 4000000 in
theorem S_X1_addOne {ω : WD} {x : Nat} {l1 : Int32} {M : Mem} {post : Mem → Prop} (hx : isK 1 x) (h : w_X1_addOne x l1 M post) : MtV ω yX1_addOne cX1_addOne 2 none 1 [.ref (adr ω x), .int l1] M post := by
  refine MtV.start rfl (by decide +kernel) (own := RX1) rfl (Nat.le_of_ble_eq_true rfl) (fun ρ C R => ?_)
  show G ω ρ M 0 [(0, .ref (adr ω x)), (1, .int l1)] []
  refine G_aload_n C dX1_addOne_0 0 rfl ?_
  refine gf_X1_21 C hx dX1_addOne_1 ?_
  refine G_aload_n C dX1_addOne_4 0 rfl ?_
  refine gf_X1_9 C hx dX1_addOne_5 ?_
  refine G_iload_n C dX1_addOne_8 1 rfl ?_
  obtain ⟨hi, h⟩ := h
  refine G_iast C (st_1_3 hx) hi dX1_addOne_9 (G_mname (fun M1 eM1 => ?_))
  replace h := h M1 eM1
  refine G_aload_n C dX1_addOne_10 0 rfl ?_
  refine G_aload_n C dX1_addOne_11 0 rfl ?_
  refine gf_X1_9 C hx dX1_addOne_12 ?_
  refine G_callV (As := [.int (rd M1 x 0)]) (rest := []) C dX1_addOne_15 lk_X1_48 (Nat.le_of_ble_eq_true rfl) (Nat.le_of_ble_eq_true rfl) hx (by decide) rfl (Nat.le_of_ble_eq_true rfl) rfl (S_X1_release hx h) (fun M2 h => ?_)
  refine G_aload_n C dX1_addOne_18 0 rfl ?_
  refine G_dup C dX1_addOne_19 rfl ?_
  refine gf_X1_9 C hx dX1_addOne_20 ?_
  refine G_iconst (v := 1) C dX1_addOne_23 (by decide) ?_
  refine G_iadd C dX1_addOne_24 ?_
  refine pf_X1_9 C hx dX1_addOne_25 (fun M3 eM3 => ?_)
  replace h := h M3 eM3
  exact R 28 _ _ dX1_addOne_28 h
theorem dX1_owner_0 : decode cX1_owner 0 = .ok (.iconst 0, 1) := by decide +kernel
theorem dX1_owner_1 : decode cX1_owner 1 = .ok (.istore_n 2, 1) := by decide +kernel
theorem dX1_owner_2 : decode cX1_owner 2 = .ok (.iload_n 2, 1) := by decide +kernel
theorem dX1_owner_3 : decode cX1_owner 3 = .ok (.aload_n 0, 1) := by decide +kernel
theorem dX1_owner_4 : decode cX1_owner 4 = .ok (.getfield 9, 3) := by decide +kernel
theorem dX1_owner_7 : decode cX1_owner 7 = .ok (.if_icmp .ge 21, 3) := by decide +kernel
theorem dX1_owner_10 : decode cX1_owner 10 = .ok (.aload_n 0, 1) := by decide +kernel
theorem dX1_owner_11 : decode cX1_owner 11 = .ok (.getfield 21, 3) := by decide +kernel
theorem dX1_owner_14 : decode cX1_owner 14 = .ok (.iload_n 2, 1) := by decide +kernel
theorem dX1_owner_15 : decode cX1_owner 15 = .ok (.iaload, 1) := by decide +kernel
theorem dX1_owner_16 : decode cX1_owner 16 = .ok (.iload_n 1, 1) := by decide +kernel
theorem dX1_owner_17 : decode cX1_owner 17 = .ok (.if_icmp .ne 5, 3) := by decide +kernel
theorem dX1_owner_20 : decode cX1_owner 20 = .ok (.iload_n 2, 1) := by decide +kernel
theorem dX1_owner_21 : decode cX1_owner 21 = .ok (.ireturn, 1) := by decide +kernel
theorem dX1_owner_22 : decode cX1_owner 22 = .ok (.iinc 2 1, 3) := by decide +kernel
theorem dX1_owner_25 : decode cX1_owner 25 = .ok (.goto (-23), 3) := by decide +kernel
theorem dX1_owner_28 : decode cX1_owner 28 = .ok (.bipush (-4), 2) := by decide +kernel
theorem dX1_owner_30 : decode cX1_owner 30 = .ok (.ireturn, 1) := by decide +kernel
def w_X1_owner_L2 (x : Nat) (post : Int32 → Mem → Prop) (l1 : Int32) : Nat → Int32 → Mem → Prop
  | 0, _, _ => False
  | f + 1, l2, M => (((rd M x 0) ≤ l2 → post (-4) M) ∧ (¬ (rd M x 0) ≤ l2 → vp_in l2 6 ∧ (((¬ (rd M (x + 1) l2.toNatClampNeg) = l1 → ∀ v1 : Int32, v1 = (l2 + 1) → (w_X1_owner_L2 x post l1 f) v1 M) ∧ ((rd M (x + 1) l2.toNatClampNeg) = l1 → post l2 M)))))
set_option maxRecDepth 100000 in
set_option maxHeartbeats 4000000 in
theorem s_X1_owner_L2 {ω : WD} {ρ : FR} {post : Int32 → Mem → Prop} (C : Cx ω ρ cX1_owner RX1 0 3) (R : RtI ω ρ cX1_owner .int post) {x : Nat} (hx : isK 1 x) {l1 : Int32} : ∀ (f : Nat) (l2 : Int32) (M : Mem), w_X1_owner_L2 x post l1 f l2 M → G ω ρ M 2 [(0, .ref (adr ω x)), (1, .int l1), (2, .int l2)] [] := by
  intro f
  induction f with
  | zero => intro l2 M h; exact False.elim h
  | succ f k2 =>
    intro l2 M h
    refine G_iload_n C dX1_owner_2 2 rfl ?_
    refine G_aload_n C dX1_owner_3 0 rfl ?_
    refine gf_X1_9 C hx dX1_owner_4 ?_
    obtain ⟨h1, h2⟩ := h
    refine G_icmp_ge (tgt := 28) C dX1_owner_7 (by decide) (fun c => ?_) (fun c => ?_)
    · have h := h1 c
      clear h1 h2
      refine G_bipush (v := (-4)) C dX1_owner_28 (by decide) ?_
      exact R 30 _ _ _ dX1_owner_30 rfl h
    · have h := h2 c
      clear h1 h2
      refine G_aload_n C dX1_owner_10 0 rfl ?_
      refine gf_X1_21 C hx dX1_owner_11 ?_
      refine G_iload_n C dX1_owner_14 2 rfl ?_
      obtain ⟨hi, h⟩ := h
      refine G_iald C (st_1_3 hx) hi dX1_owner_15 ?_
      refine G_iload_n C dX1_owner_16 1 rfl ?_
      obtain ⟨h1, h2⟩ := h
      refine G_icmp_ne (tgt := 22) C dX1_owner_17 (by decide) (fun c => ?_) (fun c => ?_)
      · have h := h1 c
        clear h1 h2
        obtain ⟨v1, ev1⟩ : ∃ y : Int32, y = (l2 + 1) := ⟨_, rfl⟩
        replace h := h v1 ev1
        refine G_iinc C dX1_owner_22 2 rfl (v := v1) (by rw [ev1]; rfl) (by decide) (lv' := [(2, .int v1), (0, .ref (adr ω x)), (1, .int l1)]) rfl ?_
        refine G_goto (tgt := 2) C dX1_owner_25 (by decide) ?_
        refine G_sub [1, 2, 0] (lv' := [(0, .ref (adr ω x)), (1, .int l1), (2, .int v1)]) rfl ?_
        exact k2 _ _ h
      · have h := h2 c
        clear h1 h2
        refine G_iload_n C dX1_owner_20 2 rfl ?_
        exact R 21 _ _ _ dX1_owner_21 rfl h
def w_X1_owner (x : Nat) (l1 : Int32) (M : Mem) (post : Int32 → Mem → Prop) : Prop := ∃ g2 : Nat, w_X1_owner_L2 x post l1 g2 0 M
set_option maxRecDepth 100000 in
set_option maxHeartbeats 4000000 in
theorem S_X1_owner {ω : WD} {x : Nat} {l1 : Int32} {M : Mem} {post : Int32 → Mem → Prop} (hx : isK 1 x) (h : w_X1_owner x l1 M post) : MtI ω yX1_owner cX1_owner 3 (some .int) 0 [.ref (adr ω x), .int l1] M post := by
  refine MtI.start (ty := .int) rfl (by decide +kernel) (own := RX1) rfl (Nat.le_of_ble_eq_true rfl) (fun ρ C R => ?_)
  show G ω ρ M 0 [(0, .ref (adr ω x)), (1, .int l1)] []
  refine G_iconst (v := 0) C dX1_owner_0 (by decide) ?_
  refine G_istore_n C dX1_owner_1 (by decide) (lv' := [(2, .int 0), (0, .ref (adr ω x)), (1, .int l1)]) rfl ?_
  refine G_sub [1, 2, 0] (lv' := [(0, .ref (adr ω x)), (1, .int l1), (2, .int 0)]) rfl ?_
  obtain ⟨f, h⟩ := h
  exact s_X1_owner_L2 C R hx f _ _ h
theorem dX1_join_0 : decode cX1_join 0 = .ok (.aload_n 0, 1) := by decide +kernel
theorem dX1_join_1 : decode cX1_join 1 = .ok (.getfield 25, 3) := by decide +kernel
theorem dX1_join_4 : decode cX1_join 4 = .ok (.iload_n 1, 1) := by decide +kernel
theorem dX1_join_5 : decode cX1_join 5 = .ok (.iload_n 2, 1) := by decide +kernel
theorem dX1_join_6 : decode cX1_join 6 = .ok (.iastore, 1) := by decide +kernel
theorem dX1_join_7 : decode cX1_join 7 = .ok (.aload_n 0, 1) := by decide +kernel
theorem dX1_join_8 : decode cX1_join 8 = .ok (.getfield 25, 3) := by decide +kernel
theorem dX1_join_11 : decode cX1_join 11 = .ok (.iload_n 2, 1) := by decide +kernel
theorem dX1_join_12 : decode cX1_join 12 = .ok (.iload_n 1, 1) := by decide +kernel
theorem dX1_join_13 : decode cX1_join 13 = .ok (.iastore, 1) := by decide +kernel
theorem dX1_join_14 : decode cX1_join 14 = .ok (.aload_n 0, 1) := by decide +kernel
theorem dX1_join_15 : decode cX1_join 15 = .ok (.getfield 28, 3) := by decide +kernel
theorem dX1_join_18 : decode cX1_join 18 = .ok (.iload_n 1, 1) := by decide +kernel
theorem dX1_join_19 : decode cX1_join 19 = .ok (.iconst 1, 1) := by decide +kernel
theorem dX1_join_20 : decode cX1_join 20 = .ok (.iastore, 1) := by decide +kernel
theorem dX1_join_21 : decode cX1_join 21 = .ok (.aload_n 0, 1) := by decide +kernel
theorem dX1_join_22 : decode cX1_join 22 = .ok (.getfield 28, 3) := by decide +kernel
theorem dX1_join_25 : decode cX1_join 25 = .ok (.iload_n 2, 1) := by decide +kernel
theorem dX1_join_26 : decode cX1_join 26 = .ok (.iconst 2, 1) := by decide +kernel
theorem dX1_join_27 : decode cX1_join 27 = .ok (.iastore, 1) := by decide +kernel
theorem dX1_join_28 : decode cX1_join 28 = .ok (.aload_n 0, 1) := by decide +kernel
theorem dX1_join_29 : decode cX1_join 29 = .ok (.getfield 31, 3) := by decide +kernel
theorem dX1_join_32 : decode cX1_join 32 = .ok (.iload_n 1, 1) := by decide +kernel
theorem dX1_join_33 : decode cX1_join 33 = .ok (.iload_n 3, 1) := by decide +kernel
theorem dX1_join_34 : decode cX1_join 34 = .ok (.iastore, 1) := by decide +kernel
theorem dX1_join_35 : decode cX1_join 35 = .ok (.aload_n 0, 1) := by decide +kernel
theorem dX1_join_36 : decode cX1_join 36 = .ok (.getfield 31, 3) := by decide +kernel
theorem dX1_join_39 : decode cX1_join 39 = .ok (.iload_n 2, 1) := by decide +kernel
theorem dX1_join_40 : decode cX1_join 40 = .ok (.iload_n 3, 1) := by decide +kernel
theorem dX1_join_41 : decode cX1_join 41 = .ok (.iastore, 1) := by decide +kernel
theorem dX1_join_42 : decode cX1_join 42 = .ok (.aload_n 0, 1) := by decide +kernel
theorem dX1_join_43 : decode cX1_join 43 = .ok (.getfield 36, 3) := by decide +kernel
theorem dX1_join_46 : decode cX1_join 46 = .ok (.iload_n 3, 1) := by decide +kernel
theorem dX1_join_47 : decode cX1_join 47 = .ok (.bipush 10, 2) := by decide +kernel
theorem dX1_join_49 : decode cX1_join 49 = .ok (.idiv, 1) := by decide +kernel
theorem dX1_join_50 : decode cX1_join 50 = .ok (.aaload, 1) := by decide +kernel
theorem dX1_join_51 : decode cX1_join 51 = .ok (.dup, 1) := by decide +kernel
theorem dX1_join_52 : decode cX1_join 52 = .ok (.getfield 74, 3) := by decide +kernel
theorem dX1_join_55 : decode cX1_join 55 = .ok (.iconst 1, 1) := by decide +kernel
theorem dX1_join_56 : decode cX1_join 56 = .ok (.iload_n 3, 1) := by decide +kernel
theorem dX1_join_57 : decode cX1_join 57 = .ok (.bipush 10, 2) := by decide +kernel
theorem dX1_join_59 : decode cX1_join 59 = .ok (.irem, 1) := by decide +kernel
theorem dX1_join_60 : decode cX1_join 60 = .ok (.ishl, 1) := by decide +kernel
theorem dX1_join_61 : decode cX1_join 61 = .ok (.ior, 1) := by decide +kernel
theorem dX1_join_62 : decode cX1_join 62 = .ok (.putfield 74, 3) := by decide +kernel
theorem dX1_join_65 : decode cX1_join 65 = .ok (.aload_n 0, 1) := by decide +kernel
theorem dX1_join_66 : decode cX1_join 66 = .ok (.dup, 1) := by decide +kernel
theorem dX1_join_67 : decode cX1_join 67 = .ok (.getfield 18, 3) := by decide +kernel
theorem dX1_join_70 : decode cX1_join 70 = .ok (.iconst 1, 1) := by decide +kernel
theorem dX1_join_71 : decode cX1_join 71 = .ok (.iadd, 1) := by decide +kernel
theorem dX1_join_72 : decode cX1_join 72 = .ok (.putfield 18, 3) := by decide +kernel
theorem dX1_join_75 : decode cX1_join 75 = .ok (.return_, 1) := by decide +kernel
theorem gf_X1_74 {ω : WD} {ρ : FR} {M : Mem} {cc : ByteArray} {d n pc i : Nat} {lv : List (Nat × Value)} {rest : List Value} (C : Cx ω ρ cc RX1 d n) (hk : isK 2 i) (hd : decode cc pc = .ok (.getfield 74, 3)) (k : G ω ρ M (pc + 3) lv (.int (rd M i 3) :: rest)) : G ω ρ M pc lv (.ref (adr ω i) :: rest) := G_get (N := 6) (T := TX2) (C := RX2) (q := 3) C hk (by decide) rfl in_X2 (by decide) (tb_of 109 ⟨by decide +kernel, rfl⟩) rfl rfl hd k
theorem pf_X1_74 {ω : WD} {ρ : FR} {M : Mem} {cc : ByteArray} {d n pc i : Nat} {lv : List (Nat × Value)} {rest : List Value} {v : Int32} (C : Cx ω ρ cc RX1 d n) (hk : isK 2 i) (hd : decode cc pc = .ok (.putfield 74, 3)) (k : ∀ M1, M1 = wr M i 3 v → G ω ρ M1 (pc + 3) lv rest) : G ω ρ M pc lv (.int v :: .ref (adr ω i) :: rest) := G_put (N := 6) (T := TX2) (C := RX2) (q := 3) (ty := .int) C hk (by decide) rfl in_X2 tyX2 tyX2_ok nmX2 (by decide) (tb_of 109 ⟨by decide +kernel, rfl⟩) rfl rfl (by decide +kernel) rfl rfl (fun _ _ => Nat.le_of_ble_eq_true rfl) (fun _ => rfl) hd (k _ rfl)
def w_X1_join (x : Nat) (l1 : Int32) (l2 : Int32) (l3 : Int32) (M : Mem) (post : Mem → Prop) : Prop := vp_in l1 6 ∧ (∀ M1 : Mem, M1 = wr M (x + 2) l1.toNatClampNeg l2 → vp_in l2 6 ∧ (∀ M2 : Mem, M2 = wr M1 (x + 2) l2.toNatClampNeg l1 → vp_in l1 6 ∧ (∀ M3 : Mem, M3 = wr M2 (x + 3) l1.toNatClampNeg 1 → vp_in l2 6 ∧ (∀ M4 : Mem, M4 = wr M3 (x + 3) l2.toNatClampNeg 2 → vp_in l1 6 ∧ (∀ M5 : Mem, M5 = wr M4 (x + 4) l1.toNatClampNeg l3 → vp_in l2 6 ∧ (∀ M6 : Mem, M6 = wr M5 (x + 4) l2.toNatClampNeg l3 → vp_in (l3 / 10) 5 ∧ (∀ g7 : Nat, g7 = x + 5 + 1 + 2 * (l3 / 10).toNatClampNeg → ∀ M8 : Mem, M8 = wr M6 g7 3 ((rd M6 g7 3) ||| (ishl 1 (irem l3 10))) → ∀ M9 : Mem, M9 = wr M8 x 2 ((rd M8 x 2) + 1) → post M9)))))))
set_option maxRecDepth 100000 in
set_option maxHeartbeats 4000000 in
theorem S_X1_join {ω : WD} {x : Nat} {l1 : Int32} {l2 : Int32} {l3 : Int32} {M : Mem} {post : Mem → Prop} (hx : isK 1 x) (h : w_X1_join x l1 l2 l3 M post) : MtV ω yX1_join cX1_join 4 none 0 [.ref (adr ω x), .int l1, .int l2, .int l3] M post := by
  refine MtV.start rfl (by decide +kernel) (own := RX1) rfl (Nat.le_of_ble_eq_true rfl) (fun ρ C R => ?_)
  show G ω ρ M 0 [(0, .ref (adr ω x)), (1, .int l1), (2, .int l2), (3, .int l3)] []
  refine G_aload_n C dX1_join_0 0 rfl ?_
  refine gf_X1_25 C hx dX1_join_1 ?_
  refine G_iload_n C dX1_join_4 1 rfl ?_
  refine G_iload_n C dX1_join_5 2 rfl ?_
  obtain ⟨hi, h⟩ := h
  refine G_iast C (st_1_4 hx) hi dX1_join_6 (G_mname (fun M1 eM1 => ?_))
  replace h := h M1 eM1
  refine G_aload_n C dX1_join_7 0 rfl ?_
  refine gf_X1_25 C hx dX1_join_8 ?_
  refine G_iload_n C dX1_join_11 2 rfl ?_
  refine G_iload_n C dX1_join_12 1 rfl ?_
  obtain ⟨hi, h⟩ := h
  refine G_iast C (st_1_4 hx) hi dX1_join_13 (G_mname (fun M2 eM2 => ?_))
  replace h := h M2 eM2
  refine G_aload_n C dX1_join_14 0 rfl ?_
  refine gf_X1_28 C hx dX1_join_15 ?_
  refine G_iload_n C dX1_join_18 1 rfl ?_
  refine G_iconst (v := 1) C dX1_join_19 (by decide) ?_
  obtain ⟨hi, h⟩ := h
  refine G_iast C (st_1_5 hx) hi dX1_join_20 (G_mname (fun M3 eM3 => ?_))
  replace h := h M3 eM3
  refine G_aload_n C dX1_join_21 0 rfl ?_
  refine gf_X1_28 C hx dX1_join_22 ?_
  refine G_iload_n C dX1_join_25 2 rfl ?_
  refine G_iconst (v := 2) C dX1_join_26 (by decide) ?_
  obtain ⟨hi, h⟩ := h
  refine G_iast C (st_1_5 hx) hi dX1_join_27 (G_mname (fun M4 eM4 => ?_))
  replace h := h M4 eM4
  refine G_aload_n C dX1_join_28 0 rfl ?_
  refine gf_X1_31 C hx dX1_join_29 ?_
  refine G_iload_n C dX1_join_32 1 rfl ?_
  refine G_iload_n C dX1_join_33 3 rfl ?_
  obtain ⟨hi, h⟩ := h
  refine G_iast C (st_1_6 hx) hi dX1_join_34 (G_mname (fun M5 eM5 => ?_))
  replace h := h M5 eM5
  refine G_aload_n C dX1_join_35 0 rfl ?_
  refine gf_X1_31 C hx dX1_join_36 ?_
  refine G_iload_n C dX1_join_39 2 rfl ?_
  refine G_iload_n C dX1_join_40 3 rfl ?_
  obtain ⟨hi, h⟩ := h
  refine G_iast C (st_1_6 hx) hi dX1_join_41 (G_mname (fun M6 eM6 => ?_))
  replace h := h M6 eM6
  refine G_aload_n C dX1_join_42 0 rfl ?_
  refine gf_X1_36 C hx dX1_join_43 ?_
  refine G_iload_n C dX1_join_46 3 rfl ?_
  refine G_bipush (v := 10) C dX1_join_47 (by decide) ?_
  refine G_idiv C dX1_join_49 (by decide) ?_
  obtain ⟨hi, h⟩ := h
  refine G_aldGroup C (st_1_7 hx) hi dX1_join_50 (G_rname (fun g7 eg7 => ?_))
  replace h := h g7 eg7
  have hg7 := el_13 (st_1_7 hx) hi eg7
  refine G_dup C dX1_join_51 rfl ?_
  refine gf_X1_74 C hg7 dX1_join_52 ?_
  refine G_iconst (v := 1) C dX1_join_55 (by decide) ?_
  refine G_iload_n C dX1_join_56 3 rfl ?_
  refine G_bipush (v := 10) C dX1_join_57 (by decide) ?_
  refine G_irem C dX1_join_59 (by decide) ?_
  refine G_ishl C dX1_join_60 ?_
  refine G_ior C dX1_join_61 ?_
  refine pf_X1_74 C hg7 dX1_join_62 (fun M8 eM8 => ?_)
  replace h := h M8 eM8
  refine G_aload_n C dX1_join_65 0 rfl ?_
  refine G_dup C dX1_join_66 rfl ?_
  refine gf_X1_18 C hx dX1_join_67 ?_
  refine G_iconst (v := 1) C dX1_join_70 (by decide) ?_
  refine G_iadd C dX1_join_71 ?_
  refine pf_X1_18 C hx dX1_join_72 (fun M9 eM9 => ?_)
  replace h := h M9 eM9
  exact R 75 _ _ dX1_join_75 h
theorem dX1_ring_0 : decode cX1_ring 0 = .ok (.aload_n 0, 1) := by decide +kernel
theorem dX1_ring_1 : decode cX1_ring 1 = .ok (.getfield 18, 3) := by decide +kernel
theorem dX1_ring_4 : decode cX1_ring 4 = .ok (.aload_n 0, 1) := by decide +kernel
theorem dX1_ring_5 : decode cX1_ring 5 = .ok (.getfield 15, 3) := by decide +kernel
theorem dX1_ring_8 : decode cX1_ring 8 = .ok (.if_icmp .lt 5, 3) := by decide +kernel
theorem dX1_ring_11 : decode cX1_ring 11 = .ok (.iconst 1, 1) := by decide +kernel
theorem dX1_ring_12 : decode cX1_ring 12 = .ok (.ireturn, 1) := by decide +kernel
theorem dX1_ring_13 : decode cX1_ring 13 = .ok (.iload_n 2, 1) := by decide +kernel
theorem dX1_ring_14 : decode cX1_ring 14 = .ok (.bipush 10, 2) := by decide +kernel
theorem dX1_ring_16 : decode cX1_ring 16 = .ok (.idiv, 1) := by decide +kernel
theorem dX1_ring_17 : decode cX1_ring 17 = .ok (.istore_n 3, 1) := by decide +kernel
theorem dX1_ring_18 : decode cX1_ring 18 = .ok (.aload_n 0, 1) := by decide +kernel
theorem dX1_ring_19 : decode cX1_ring 19 = .ok (.getfield 36, 3) := by decide +kernel
theorem dX1_ring_22 : decode cX1_ring 22 = .ok (.iload_n 3, 1) := by decide +kernel
theorem dX1_ring_23 : decode cX1_ring 23 = .ok (.aaload, 1) := by decide +kernel
theorem dX1_ring_24 : decode cX1_ring 24 = .ok (.astore 4, 2) := by decide +kernel
theorem dX1_ring_26 : decode cX1_ring 26 = .ok (.aload 4, 2) := by decide +kernel
theorem dX1_ring_28 : decode cX1_ring 28 = .ok (.invokevirtual 52, 3) := by decide +kernel
theorem dX1_ring_31 : decode cX1_ring 31 = .ok (.istore 5, 2) := by decide +kernel
theorem dX1_ring_33 : decode cX1_ring 33 = .ok (.iload 5, 2) := by decide +kernel
theorem dX1_ring_35 : decode cX1_ring 35 = .ok (.bipush (-4), 2) := by decide +kernel
theorem dX1_ring_37 : decode cX1_ring 37 = .ok (.if_icmp .ne 5, 3) := by decide +kernel
theorem dX1_ring_40 : decode cX1_ring 40 = .ok (.iconst 2, 1) := by decide +kernel
theorem dX1_ring_41 : decode cX1_ring 41 = .ok (.ireturn, 1) := by decide +kernel
theorem dX1_ring_42 : decode cX1_ring 42 = .ok (.aload 4, 2) := by decide +kernel
theorem dX1_ring_44 : decode cX1_ring 44 = .ok (.iload 5, 2) := by decide +kernel
theorem dX1_ring_46 : decode cX1_ring 46 = .ok (.putfield 56, 3) := by decide +kernel
theorem dX1_ring_49 : decode cX1_ring 49 = .ok (.aload 4, 2) := by decide +kernel
theorem dX1_ring_51 : decode cX1_ring 51 = .ok (.getfield 59, 3) := by decide +kernel
theorem dX1_ring_54 : decode cX1_ring 54 = .ok (.iload 5, 2) := by decide +kernel
theorem dX1_ring_56 : decode cX1_ring 56 = .ok (.dup2, 1) := by decide +kernel
theorem dX1_ring_57 : decode cX1_ring 57 = .ok (.iaload, 1) := by decide +kernel
theorem dX1_ring_58 : decode cX1_ring 58 = .ok (.iconst 1, 1) := by decide +kernel
theorem dX1_ring_59 : decode cX1_ring 59 = .ok (.iadd, 1) := by decide +kernel
theorem dX1_ring_60 : decode cX1_ring 60 = .ok (.iastore, 1) := by decide +kernel
theorem dX1_ring_61 : decode cX1_ring 61 = .ok (.aload 4, 2) := by decide +kernel
theorem dX1_ring_63 : decode cX1_ring 63 = .ok (.iload 5, 2) := by decide +kernel
theorem dX1_ring_65 : decode cX1_ring 65 = .ok (.invokevirtual 62, 3) := by decide +kernel
theorem dX1_ring_68 : decode cX1_ring 68 = .ok (.ifCond .eq 5, 3) := by decide +kernel
theorem dX1_ring_71 : decode cX1_ring 71 = .ok (.iconst 3, 1) := by decide +kernel
theorem dX1_ring_72 : decode cX1_ring 72 = .ok (.ireturn, 1) := by decide +kernel
theorem dX1_ring_73 : decode cX1_ring 73 = .ok (.aload_n 0, 1) := by decide +kernel
theorem dX1_ring_74 : decode cX1_ring 74 = .ok (.iload_n 2, 1) := by decide +kernel
theorem dX1_ring_75 : decode cX1_ring 75 = .ok (.invokevirtual 66, 3) := by decide +kernel
theorem dX1_ring_78 : decode cX1_ring 78 = .ok (.istore 6, 2) := by decide +kernel
theorem dX1_ring_80 : decode cX1_ring 80 = .ok (.iload 6, 2) := by decide +kernel
theorem dX1_ring_82 : decode cX1_ring 82 = .ok (.bipush (-4), 2) := by decide +kernel
theorem dX1_ring_84 : decode cX1_ring 84 = .ok (.if_icmp .ne 5, 3) := by decide +kernel
theorem dX1_ring_87 : decode cX1_ring 87 = .ok (.iconst 4, 1) := by decide +kernel
theorem dX1_ring_88 : decode cX1_ring 88 = .ok (.ireturn, 1) := by decide +kernel
theorem dX1_ring_89 : decode cX1_ring 89 = .ok (.iload 6, 2) := by decide +kernel
theorem dX1_ring_91 : decode cX1_ring 91 = .ok (.iload_n 1, 1) := by decide +kernel
theorem dX1_ring_92 : decode cX1_ring 92 = .ok (.if_icmp .eq 13, 3) := by decide +kernel
theorem dX1_ring_95 : decode cX1_ring 95 = .ok (.aload_n 0, 1) := by decide +kernel
theorem dX1_ring_96 : decode cX1_ring 96 = .ok (.getfield 28, 3) := by decide +kernel
theorem dX1_ring_99 : decode cX1_ring 99 = .ok (.iload 6, 2) := by decide +kernel
theorem dX1_ring_101 : decode cX1_ring 101 = .ok (.iaload, 1) := by decide +kernel
theorem dX1_ring_102 : decode cX1_ring 102 = .ok (.ifCond .eq 5, 3) := by decide +kernel
theorem dX1_ring_105 : decode cX1_ring 105 = .ok (.iconst 5, 1) := by decide +kernel
theorem dX1_ring_106 : decode cX1_ring 106 = .ok (.ireturn, 1) := by decide +kernel
theorem dX1_ring_107 : decode cX1_ring 107 = .ok (.aload_n 0, 1) := by decide +kernel
theorem dX1_ring_108 : decode cX1_ring 108 = .ok (.iload_n 1, 1) := by decide +kernel
theorem dX1_ring_109 : decode cX1_ring 109 = .ok (.iload 6, 2) := by decide +kernel
theorem dX1_ring_111 : decode cX1_ring 111 = .ok (.bipush 10, 2) := by decide +kernel
theorem dX1_ring_113 : decode cX1_ring 113 = .ok (.iload_n 3, 1) := by decide +kernel
theorem dX1_ring_114 : decode cX1_ring 114 = .ok (.imul, 1) := by decide +kernel
theorem dX1_ring_115 : decode cX1_ring 115 = .ok (.iload 5, 2) := by decide +kernel
theorem dX1_ring_117 : decode cX1_ring 117 = .ok (.iadd, 1) := by decide +kernel
theorem dX1_ring_118 : decode cX1_ring 118 = .ok (.invokevirtual 70, 3) := by decide +kernel
theorem dX1_ring_121 : decode cX1_ring 121 = .ok (.iconst 0, 1) := by decide +kernel
theorem dX1_ring_122 : decode cX1_ring 122 = .ok (.ireturn, 1) := by decide +kernel
theorem lk_X1_52 : LkV RX1 52 RX2 yX2_pick cX2_pick 4 (some .int) 0 := LkV.of 706 625 626 63 627 (by decide +kernel) (by decide +kernel) (by decide +kernel) (by decide +kernel) (by decide +kernel) (by decide +kernel)
theorem pf_X1_56 {ω : WD} {ρ : FR} {M : Mem} {cc : ByteArray} {d n pc i : Nat} {lv : List (Nat × Value)} {rest : List Value} {v : Int32} (C : Cx ω ρ cc RX1 d n) (hk : isK 2 i) (hd : decode cc pc = .ok (.putfield 56, 3)) (k : ∀ M1, M1 = wr M i 4 v → G ω ρ M1 (pc + 3) lv rest) : G ω ρ M pc lv (.int v :: .ref (adr ω i) :: rest) := G_put (N := 6) (T := TX2) (C := RX2) (q := 4) (ty := .int) C hk (by decide) rfl in_X2 tyX2 tyX2_ok nmX2 (by decide) (tb_of 112 ⟨by decide +kernel, rfl⟩) rfl rfl (by decide +kernel) rfl rfl (fun _ _ => Nat.le_of_ble_eq_true rfl) (fun _ => rfl) hd (k _ rfl)
theorem gf_X1_59 {ω : WD} {ρ : FR} {M : Mem} {cc : ByteArray} {d n pc i : Nat} {lv : List (Nat × Value)} {rest : List Value} (C : Cx ω ρ cc RX1 d n) (hk : isK 2 i) (hd : decode cc pc = .ok (.getfield 59, 3)) (k : G ω ρ M (pc + 3) lv (.ref (adr ω (i + 1)) :: rest)) : G ω ρ M pc lv (.ref (adr ω i) :: rest) := G_get (N := 6) (T := TX2) (C := RX2) (q := 5) C hk (by decide) rfl in_X2 (by decide) (tb_of 115 ⟨by decide +kernel, rfl⟩) rfl rfl hd k
theorem lk_X1_62 : LkV RX1 62 RX2 yX2_isDead cX2_isDead 2 (some .boolean) 1 := LkV.of 707 682 683 63 684 (by decide +kernel) (by decide +kernel) (by decide +kernel) (by decide +kernel) (by decide +kernel) (by decide +kernel)
theorem lk_X1_66 : LkV RX1 66 RX1 yX1_owner cX1_owner 3 (some .int) 1 := LkV.of 708 538 539 62 540 (by decide +kernel) (by decide +kernel) (by decide +kernel) (by decide +kernel) (by decide +kernel) (by decide +kernel)
theorem lk_X1_70 : LkV RX1 70 RX1 yX1_join cX1_join 4 none 3 := LkV.of 709 710 711 62 712 (by decide +kernel) (by decide +kernel) (by decide +kernel) (by decide +kernel) (by decide +kernel) (by decide +kernel)
def w_X1_ring (x : Nat) (l1 : Int32) (l2 : Int32) (M : Mem) (post : Int32 → Mem → Prop) : Prop := (((rd M x 2) < (rd M x 1) → ∀ v1 : Int32, v1 = (l2 / 10) → vp_in v1 5 ∧ (∀ g2 : Nat, g2 = x + 5 + 1 + 2 * v1.toNatClampNeg → w_X2_pick g2 M (fun (r4 : Int32) (M3 : Mem) => ((¬ r4 = (-4) → ∀ M5 : Mem, M5 = wr M3 g2 4 r4 → vp_in r4 4 ∧ (vp_in r4 4 ∧ (∀ M6 : Mem, M6 = wr M5 (g2 + 1) r4.toNatClampNeg ((rd M5 (g2 + 1) r4.toNatClampNeg) + 1) → w_X2_isDead g2 r4 M6 (fun (r8 : Int32) (M7 : Mem) => ((r8 = 0 → w_X1_owner x l2 M7 (fun (r10 : Int32) (M9 : Mem) => ((¬ r10 = (-4) → ((r10 = l1 → post 5 M9) ∧ (¬ r10 = l1 → vp_in r10 6 ∧ ((((rd M9 (x + 3) r10.toNatClampNeg) = 0 → w_X1_join x l1 r10 ((10 * v1) + r4) M9 (fun (M11 : Mem) => post 0 M11)) ∧ (¬ (rd M9 (x + 3) r10.toNatClampNeg) = 0 → post 5 M9)))))) ∧ (r10 = (-4) → post 4 M9)))) ∧ (¬ r8 = 0 → post 3 M7)))))) ∧ (r4 = (-4) → post 2 M3))))) ∧ (¬ (rd M x 2) < (rd M x 1) → post 1 M))
set_option maxRecDepth 100000 in
set_option maxHeartbeats 4000000 in
theorem S_X1_ring {ω : WD} {x : Nat} {l1 : Int32} {l2 : Int32} {M : Mem} {post : Int32 → Mem → Prop} (hx : isK 1 x) (h : w_X1_ring x l1 l2 M post) : MtI ω yX1_ring cX1_ring 7 (some .int) 2 [.ref (adr ω x), .int l1, .int l2] M post := by
  refine MtI.start (ty := .int) rfl (by decide +kernel) (own := RX1) rfl (Nat.le_of_ble_eq_true rfl) (fun ρ C R => ?_)
  show G ω ρ M 0 [(0, .ref (adr ω x)), (1, .int l1), (2, .int l2)] []
  refine G_aload_n C dX1_ring_0 0 rfl ?_
  refine gf_X1_18 C hx dX1_ring_1 ?_
  refine G_aload_n C dX1_ring_4 0 rfl ?_
  refine gf_X1_15 C hx dX1_ring_5 ?_
  obtain ⟨h1, h2⟩ := h
  refine G_icmp_lt (tgt := 13) C dX1_ring_8 (by decide) (fun c => ?_) (fun c => ?_)
  · have h := h1 c
    clear h1 h2
    refine G_iload_n C dX1_ring_13 2 rfl ?_
    refine G_bipush (v := 10) C dX1_ring_14 (by decide) ?_
    refine G_idiv C dX1_ring_16 (by decide) ?_
    refine G_iname (fun v1 ev1 => ?_)
    replace h := h v1 ev1
    refine G_istore_n C dX1_ring_17 (by decide) (lv' := [(3, .int v1), (0, .ref (adr ω x)), (1, .int l1), (2, .int l2)]) rfl ?_
    refine G_aload_n C dX1_ring_18 1 rfl ?_
    refine gf_X1_36 C hx dX1_ring_19 ?_
    refine G_iload_n C dX1_ring_22 0 rfl ?_
    obtain ⟨hi, h⟩ := h
    refine G_aldGroup C (st_1_7 hx) hi dX1_ring_23 (G_rname (fun g2 eg2 => ?_))
    replace h := h g2 eg2
    have hg2 := el_13 (st_1_7 hx) hi eg2
    refine G_astore C dX1_ring_24 (by decide) (lv' := [(4, .ref (adr ω g2)), (3, .int v1), (0, .ref (adr ω x)), (1, .int l1), (2, .int l2)]) rfl ?_
    refine G_aload C dX1_ring_26 0 rfl ?_
    refine G_callI (As := []) (rest := []) C dX1_ring_28 lk_X1_52 (Nat.le_of_ble_eq_true rfl) (Nat.le_of_ble_eq_true rfl) hg2 (by decide) rfl (Nat.le_of_ble_eq_true rfl) rfl (S_X2_pick hg2 h) (fun r4 M3 h => ?_)
    refine G_istore C dX1_ring_31 (by decide) (lv' := [(5, .int r4), (4, .ref (adr ω g2)), (3, .int v1), (0, .ref (adr ω x)), (1, .int l1), (2, .int l2)]) rfl ?_
    refine G_iload C dX1_ring_33 0 rfl ?_
    refine G_bipush (v := (-4)) C dX1_ring_35 (by decide) ?_
    obtain ⟨h1, h2⟩ := h
    refine G_icmp_ne (tgt := 42) C dX1_ring_37 (by decide) (fun c => ?_) (fun c => ?_)
    · have h := h1 c
      clear h1 h2
      refine G_aload C dX1_ring_42 1 rfl ?_
      refine G_iload C dX1_ring_44 0 rfl ?_
      refine pf_X1_56 C hg2 dX1_ring_46 (fun M5 eM5 => ?_)
      replace h := h M5 eM5
      refine G_aload C dX1_ring_49 1 rfl ?_
      refine gf_X1_59 C hg2 dX1_ring_51 ?_
      refine G_iload C dX1_ring_54 0 rfl ?_
      refine G_dup2 C dX1_ring_56 rfl rfl ?_
      obtain ⟨hi, h⟩ := h
      refine G_iald C (st_2_5 hg2) hi dX1_ring_57 ?_
      refine G_iconst (v := 1) C dX1_ring_58 (by decide) ?_
      refine G_iadd C dX1_ring_59 ?_
      obtain ⟨hi, h⟩ := h
      refine G_iast C (st_2_5 hg2) hi dX1_ring_60 (G_mname (fun M6 eM6 => ?_))
      replace h := h M6 eM6
      refine G_aload C dX1_ring_61 1 rfl ?_
      refine G_iload C dX1_ring_63 0 rfl ?_
      refine G_callI (As := [.int r4]) (rest := []) C dX1_ring_65 lk_X1_62 (Nat.le_of_ble_eq_true rfl) (Nat.le_of_ble_eq_true rfl) hg2 (by decide) rfl (Nat.le_of_ble_eq_true rfl) rfl (S_X2_isDead hg2 h) (fun r8 M7 h => ?_)
      obtain ⟨h1, h2⟩ := h
      refine G_if_eq (tgt := 73) C dX1_ring_68 (by decide) (fun c => ?_) (fun c => ?_)
      · have h := h1 c
        clear h1 h2
        refine G_aload_n C dX1_ring_73 3 rfl ?_
        refine G_iload_n C dX1_ring_74 5 rfl ?_
        refine G_callI (As := [.int l2]) (rest := []) C dX1_ring_75 lk_X1_66 (Nat.le_of_ble_eq_true rfl) (Nat.le_of_ble_eq_true rfl) hx (by decide) rfl (Nat.le_of_ble_eq_true rfl) rfl (S_X1_owner hx h) (fun r10 M9 h => ?_)
        refine G_istore C dX1_ring_78 (by decide) (lv' := [(6, .int r10), (5, .int r4), (4, .ref (adr ω g2)), (3, .int v1), (0, .ref (adr ω x)), (1, .int l1), (2, .int l2)]) rfl ?_
        refine G_iload C dX1_ring_80 0 rfl ?_
        refine G_bipush (v := (-4)) C dX1_ring_82 (by decide) ?_
        obtain ⟨h1, h2⟩ := h
        refine G_icmp_ne (tgt := 89) C dX1_ring_84 (by decide) (fun c => ?_) (fun c => ?_)
        · have h := h1 c
          clear h1 h2
          refine G_iload C dX1_ring_89 0 rfl ?_
          refine G_iload_n C dX1_ring_91 5 rfl ?_
          obtain ⟨h1, h2⟩ := h
          refine G_icmp_eq (tgt := 105) C dX1_ring_92 (by decide) (fun c => ?_) (fun c => ?_)
          · have h := h1 c
            clear h1 h2
            refine G_iconst (v := 5) C dX1_ring_105 (by decide) ?_
            exact R 106 _ _ _ dX1_ring_106 rfl h
          · have h := h2 c
            clear h1 h2
            refine G_aload_n C dX1_ring_95 4 rfl ?_
            refine gf_X1_28 C hx dX1_ring_96 ?_
            refine G_iload C dX1_ring_99 0 rfl ?_
            obtain ⟨hi, h⟩ := h
            refine G_iald C (st_1_5 hx) hi dX1_ring_101 ?_
            obtain ⟨h1, h2⟩ := h
            refine G_if_eq (tgt := 107) C dX1_ring_102 (by decide) (fun c => ?_) (fun c => ?_)
            · have h := h1 c
              clear h1 h2
              refine G_aload_n C dX1_ring_107 4 rfl ?_
              refine G_iload_n C dX1_ring_108 5 rfl ?_
              refine G_iload C dX1_ring_109 0 rfl ?_
              refine G_bipush (v := 10) C dX1_ring_111 (by decide) ?_
              refine G_iload_n C dX1_ring_113 3 rfl ?_
              refine G_imul C dX1_ring_114 ?_
              refine G_iload C dX1_ring_115 1 rfl ?_
              refine G_iadd C dX1_ring_117 ?_
              refine G_callV (As := [.int l1, .int r10, .int ((10 * v1) + r4)]) (rest := []) C dX1_ring_118 lk_X1_70 (Nat.le_of_ble_eq_true rfl) (Nat.le_of_ble_eq_true rfl) hx (by decide) rfl (Nat.le_of_ble_eq_true rfl) rfl (S_X1_join hx h) (fun M11 h => ?_)
              refine G_iconst (v := 0) C dX1_ring_121 (by decide) ?_
              exact R 122 _ _ _ dX1_ring_122 rfl h
            · have h := h2 c
              clear h1 h2
              refine G_iconst (v := 5) C dX1_ring_105 (by decide) ?_
              exact R 106 _ _ _ dX1_ring_106 rfl h
        · have h := h2 c
          clear h1 h2
          refine G_iconst (v := 4) C dX1_ring_87 (by decide) ?_
          exact R 88 _ _ _ dX1_ring_88 rfl h
      · have h := h2 c
        clear h1 h2
        refine G_iconst (v := 3) C dX1_ring_71 (by decide) ?_
        exact R 72 _ _ _ dX1_ring_72 rfl h
    · have h := h2 c
      clear h1 h2
      refine G_iconst (v := 2) C dX1_ring_40 (by decide) ?_
      exact R 41 _ _ _ dX1_ring_41 rfl h
  · have h := h2 c
    clear h1 h2
    refine G_iconst (v := 1) C dX1_ring_11 (by decide) ?_
    exact R 12 _ _ _ dX1_ring_12 rfl h
theorem dX1_part_0 : decode cX1_part 0 = .ok (.aload_n 0, 1) := by decide +kernel
theorem dX1_part_1 : decode cX1_part 1 = .ok (.getfield 25, 3) := by decide +kernel
theorem dX1_part_4 : decode cX1_part 4 = .ok (.iload_n 1, 1) := by decide +kernel
theorem dX1_part_5 : decode cX1_part 5 = .ok (.iaload, 1) := by decide +kernel
theorem dX1_part_6 : decode cX1_part 6 = .ok (.istore_n 2, 1) := by decide +kernel
theorem dX1_part_7 : decode cX1_part 7 = .ok (.aload_n 0, 1) := by decide +kernel
theorem dX1_part_8 : decode cX1_part 8 = .ok (.getfield 31, 3) := by decide +kernel
theorem dX1_part_11 : decode cX1_part 11 = .ok (.iload_n 1, 1) := by decide +kernel
theorem dX1_part_12 : decode cX1_part 12 = .ok (.iaload, 1) := by decide +kernel
theorem dX1_part_13 : decode cX1_part 13 = .ok (.istore_n 3, 1) := by decide +kernel
theorem dX1_part_14 : decode cX1_part 14 = .ok (.aload_n 0, 1) := by decide +kernel
theorem dX1_part_15 : decode cX1_part 15 = .ok (.getfield 36, 3) := by decide +kernel
theorem dX1_part_18 : decode cX1_part 18 = .ok (.iload_n 3, 1) := by decide +kernel
theorem dX1_part_19 : decode cX1_part 19 = .ok (.bipush 10, 2) := by decide +kernel
theorem dX1_part_21 : decode cX1_part 21 = .ok (.idiv, 1) := by decide +kernel
theorem dX1_part_22 : decode cX1_part 22 = .ok (.aaload, 1) := by decide +kernel
theorem dX1_part_23 : decode cX1_part 23 = .ok (.dup, 1) := by decide +kernel
theorem dX1_part_24 : decode cX1_part 24 = .ok (.getfield 74, 3) := by decide +kernel
theorem dX1_part_27 : decode cX1_part 27 = .ok (.iconst 1, 1) := by decide +kernel
theorem dX1_part_28 : decode cX1_part 28 = .ok (.iload_n 3, 1) := by decide +kernel
theorem dX1_part_29 : decode cX1_part 29 = .ok (.bipush 10, 2) := by decide +kernel
theorem dX1_part_31 : decode cX1_part 31 = .ok (.irem, 1) := by decide +kernel
theorem dX1_part_32 : decode cX1_part 32 = .ok (.ishl, 1) := by decide +kernel
theorem dX1_part_33 : decode cX1_part 33 = .ok (.iconst (-1), 1) := by decide +kernel
theorem dX1_part_34 : decode cX1_part 34 = .ok (.ixor, 1) := by decide +kernel
theorem dX1_part_35 : decode cX1_part 35 = .ok (.iand, 1) := by decide +kernel
theorem dX1_part_36 : decode cX1_part 36 = .ok (.putfield 74, 3) := by decide +kernel
theorem dX1_part_39 : decode cX1_part 39 = .ok (.aload_n 0, 1) := by decide +kernel
theorem dX1_part_40 : decode cX1_part 40 = .ok (.iload_n 1, 1) := by decide +kernel
theorem dX1_part_41 : decode cX1_part 41 = .ok (.invokevirtual 48, 3) := by decide +kernel
theorem dX1_part_44 : decode cX1_part 44 = .ok (.aload_n 0, 1) := by decide +kernel
theorem dX1_part_45 : decode cX1_part 45 = .ok (.iload_n 2, 1) := by decide +kernel
theorem dX1_part_46 : decode cX1_part 46 = .ok (.invokevirtual 48, 3) := by decide +kernel
theorem dX1_part_49 : decode cX1_part 49 = .ok (.aload_n 0, 1) := by decide +kernel
theorem dX1_part_50 : decode cX1_part 50 = .ok (.dup, 1) := by decide +kernel
theorem dX1_part_51 : decode cX1_part 51 = .ok (.getfield 18, 3) := by decide +kernel
theorem dX1_part_54 : decode cX1_part 54 = .ok (.iconst 1, 1) := by decide +kernel
theorem dX1_part_55 : decode cX1_part 55 = .ok (.isub, 1) := by decide +kernel
theorem dX1_part_56 : decode cX1_part 56 = .ok (.putfield 18, 3) := by decide +kernel
theorem dX1_part_59 : decode cX1_part 59 = .ok (.iload_n 2, 1) := by decide +kernel
theorem dX1_part_60 : decode cX1_part 60 = .ok (.ireturn, 1) := by decide +kernel
def w_X1_part (x : Nat) (l1 : Int32) (M : Mem) (post : Int32 → Mem → Prop) : Prop := vp_in l1 6 ∧ (∀ v1 : Int32, v1 = (rd M (x + 2) l1.toNatClampNeg) → vp_in l1 6 ∧ (∀ v2 : Int32, v2 = (rd M (x + 4) l1.toNatClampNeg) → vp_in (v2 / 10) 5 ∧ (∀ g3 : Nat, g3 = x + 5 + 1 + 2 * (v2 / 10).toNatClampNeg → ∀ M4 : Mem, M4 = wr M g3 3 ((rd M g3 3) &&& ((ishl 1 (irem v2 10)) ^^^ (-1))) → w_X1_release x l1 M4 (fun (M5 : Mem) => w_X1_release x v1 M5 (fun (M6 : Mem) => ∀ M7 : Mem, M7 = wr M6 x 2 ((rd M6 x 2) - 1) → post v1 M7)))))
set_option maxRecDepth 100000 in
set_option maxHeartbeats 4000000 in
theorem S_X1_part {ω : WD} {x : Nat} {l1 : Int32} {M : Mem} {post : Int32 → Mem → Prop} (hx : isK 1 x) (h : w_X1_part x l1 M post) : MtI ω yX1_part cX1_part 4 (some .int) 1 [.ref (adr ω x), .int l1] M post := by
  refine MtI.start (ty := .int) rfl (by decide +kernel) (own := RX1) rfl (Nat.le_of_ble_eq_true rfl) (fun ρ C R => ?_)
  show G ω ρ M 0 [(0, .ref (adr ω x)), (1, .int l1)] []
  refine G_aload_n C dX1_part_0 0 rfl ?_
  refine gf_X1_25 C hx dX1_part_1 ?_
  refine G_iload_n C dX1_part_4 1 rfl ?_
  obtain ⟨hi, h⟩ := h
  refine G_iald C (st_1_4 hx) hi dX1_part_5 ?_
  refine G_iname (fun v1 ev1 => ?_)
  replace h := h v1 ev1
  refine G_istore_n C dX1_part_6 (by decide) (lv' := [(2, .int v1), (0, .ref (adr ω x)), (1, .int l1)]) rfl ?_
  refine G_aload_n C dX1_part_7 1 rfl ?_
  refine gf_X1_31 C hx dX1_part_8 ?_
  refine G_iload_n C dX1_part_11 2 rfl ?_
  obtain ⟨hi, h⟩ := h
  refine G_iald C (st_1_6 hx) hi dX1_part_12 ?_
  refine G_iname (fun v2 ev2 => ?_)
  replace h := h v2 ev2
  refine G_istore_n C dX1_part_13 (by decide) (lv' := [(3, .int v2), (2, .int v1), (0, .ref (adr ω x)), (1, .int l1)]) rfl ?_
  refine G_aload_n C dX1_part_14 2 rfl ?_
  refine gf_X1_36 C hx dX1_part_15 ?_
  refine G_iload_n C dX1_part_18 0 rfl ?_
  refine G_bipush (v := 10) C dX1_part_19 (by decide) ?_
  refine G_idiv C dX1_part_21 (by decide) ?_
  obtain ⟨hi, h⟩ := h
  refine G_aldGroup C (st_1_7 hx) hi dX1_part_22 (G_rname (fun g3 eg3 => ?_))
  replace h := h g3 eg3
  have hg3 := el_13 (st_1_7 hx) hi eg3
  refine G_dup C dX1_part_23 rfl ?_
  refine gf_X1_74 C hg3 dX1_part_24 ?_
  refine G_iconst (v := 1) C dX1_part_27 (by decide) ?_
  refine G_iload_n C dX1_part_28 0 rfl ?_
  refine G_bipush (v := 10) C dX1_part_29 (by decide) ?_
  refine G_irem C dX1_part_31 (by decide) ?_
  refine G_ishl C dX1_part_32 ?_
  refine G_iconst (v := (-1)) C dX1_part_33 (by decide) ?_
  refine G_ixor C dX1_part_34 ?_
  refine G_iand C dX1_part_35 ?_
  refine pf_X1_74 C hg3 dX1_part_36 (fun M4 eM4 => ?_)
  replace h := h M4 eM4
  refine G_aload_n C dX1_part_39 2 rfl ?_
  refine G_iload_n C dX1_part_40 3 rfl ?_
  refine G_callV (As := [.int l1]) (rest := []) C dX1_part_41 lk_X1_48 (Nat.le_of_ble_eq_true rfl) (Nat.le_of_ble_eq_true rfl) hx (by decide) rfl (Nat.le_of_ble_eq_true rfl) rfl (S_X1_release hx h) (fun M5 h => ?_)
  refine G_aload_n C dX1_part_44 2 rfl ?_
  refine G_iload_n C dX1_part_45 1 rfl ?_
  refine G_callV (As := [.int v1]) (rest := []) C dX1_part_46 lk_X1_48 (Nat.le_of_ble_eq_true rfl) (Nat.le_of_ble_eq_true rfl) hx (by decide) rfl (Nat.le_of_ble_eq_true rfl) rfl (S_X1_release hx h) (fun M6 h => ?_)
  refine G_aload_n C dX1_part_49 2 rfl ?_
  refine G_dup C dX1_part_50 rfl ?_
  refine gf_X1_18 C hx dX1_part_51 ?_
  refine G_iconst (v := 1) C dX1_part_54 (by decide) ?_
  refine G_isub C dX1_part_55 ?_
  refine pf_X1_18 C hx dX1_part_56 (fun M7 eM7 => ?_)
  replace h := h M7 eM7
  refine G_iload_n C dX1_part_59 1 rfl ?_
  exact R 60 _ _ _ dX1_part_60 rfl h
theorem dX1_inCalls_0 : decode cX1_inCalls 0 = .ok (.iconst 0, 1) := by decide +kernel
theorem dX1_inCalls_1 : decode cX1_inCalls 1 = .ok (.istore_n 1, 1) := by decide +kernel
theorem dX1_inCalls_2 : decode cX1_inCalls 2 = .ok (.iconst 0, 1) := by decide +kernel
theorem dX1_inCalls_3 : decode cX1_inCalls 3 = .ok (.istore_n 2, 1) := by decide +kernel
theorem dX1_inCalls_4 : decode cX1_inCalls 4 = .ok (.iload_n 2, 1) := by decide +kernel
theorem dX1_inCalls_5 : decode cX1_inCalls 5 = .ok (.aload_n 0, 1) := by decide +kernel
theorem dX1_inCalls_6 : decode cX1_inCalls 6 = .ok (.getfield 9, 3) := by decide +kernel
theorem dX1_inCalls_9 : decode cX1_inCalls 9 = .ok (.if_icmp .ge 24, 3) := by decide +kernel
theorem dX1_inCalls_12 : decode cX1_inCalls 12 = .ok (.aload_n 0, 1) := by decide +kernel
theorem dX1_inCalls_13 : decode cX1_inCalls 13 = .ok (.getfield 28, 3) := by decide +kernel
theorem dX1_inCalls_16 : decode cX1_inCalls 16 = .ok (.iload_n 2, 1) := by decide +kernel
theorem dX1_inCalls_17 : decode cX1_inCalls 17 = .ok (.iaload, 1) := by decide +kernel
theorem dX1_inCalls_18 : decode cX1_inCalls 18 = .ok (.ifCond .eq 9, 3) := by decide +kernel
theorem dX1_inCalls_21 : decode cX1_inCalls 21 = .ok (.iload_n 1, 1) := by decide +kernel
theorem dX1_inCalls_22 : decode cX1_inCalls 22 = .ok (.iconst 1, 1) := by decide +kernel
theorem dX1_inCalls_23 : decode cX1_inCalls 23 = .ok (.iload_n 2, 1) := by decide +kernel
theorem dX1_inCalls_24 : decode cX1_inCalls 24 = .ok (.ishl, 1) := by decide +kernel
theorem dX1_inCalls_25 : decode cX1_inCalls 25 = .ok (.ior, 1) := by decide +kernel
theorem dX1_inCalls_26 : decode cX1_inCalls 26 = .ok (.istore_n 1, 1) := by decide +kernel
theorem dX1_inCalls_27 : decode cX1_inCalls 27 = .ok (.iinc 2 1, 3) := by decide +kernel
theorem dX1_inCalls_30 : decode cX1_inCalls 30 = .ok (.goto (-26), 3) := by decide +kernel
theorem dX1_inCalls_33 : decode cX1_inCalls 33 = .ok (.iload_n 1, 1) := by decide +kernel
theorem dX1_inCalls_34 : decode cX1_inCalls 34 = .ok (.ireturn, 1) := by decide +kernel
def w_X1_inCalls_J27 (x : Nat) (post : Int32 → Mem → Prop) (K4 : Int32 → Int32 → Mem → Prop) (l1 : Int32) (l2 : Int32) (M : Mem) : Prop := ∀ v1 : Int32, v1 = (l2 + 1) → K4 l1 v1 M
set_option maxRecDepth 100000 in
set_option maxHeartbeats 4000000 in
theorem s_X1_inCalls_J27 {ω : WD} {ρ : FR} {post : Int32 → Mem → Prop} (C : Cx ω ρ cX1_inCalls RX1 0 3) (R : RtI ω ρ cX1_inCalls .int post) {x : Nat} (hx : isK 1 x) {K4 : Int32 → Int32 → Mem → Prop} {l1 : Int32} {l2 : Int32} (k4 : ∀ (u1 : Int32) (u2 : Int32) (M : Mem), K4 u1 u2 M → G ω ρ M 4 [(0, .ref (adr ω x)), (1, .int u1), (2, .int u2)] []) {M : Mem} (h : w_X1_inCalls_J27 x post K4 l1 l2 M) : G ω ρ M 27 [(0, .ref (adr ω x)), (1, .int l1), (2, .int l2)] [] := by
  obtain ⟨v1, ev1⟩ : ∃ y : Int32, y = (l2 + 1) := ⟨_, rfl⟩
  replace h := h v1 ev1
  refine G_iinc C dX1_inCalls_27 2 rfl (v := v1) (by rw [ev1]; rfl) (by decide) (lv' := [(2, .int v1), (0, .ref (adr ω x)), (1, .int l1)]) rfl ?_
  refine G_goto (tgt := 4) C dX1_inCalls_30 (by decide) ?_
  refine G_sub [1, 2, 0] (lv' := [(0, .ref (adr ω x)), (1, .int l1), (2, .int v1)]) rfl ?_
  exact k4 _ _ _ h
def w_X1_inCalls_L4 (x : Nat) (post : Int32 → Mem → Prop) : Nat → Int32 → Int32 → Mem → Prop
  | 0, _, _, _ => False
  | f + 1, l1, l2, M => (((rd M x 0) ≤ l2 → post l1 M) ∧ (¬ (rd M x 0) ≤ l2 → vp_in l2 6 ∧ ((((rd M (x + 3) l2.toNatClampNeg) = 0 → w_X1_inCalls_J27 x post (w_X1_inCalls_L4 x post f) l1 l2 M) ∧ (¬ (rd M (x + 3) l2.toNatClampNeg) = 0 → ∀ v2 : Int32, v2 = (l1 ||| (ishl 1 l2)) → w_X1_inCalls_J27 x post (w_X1_inCalls_L4 x post f) v2 l2 M)))))
set_option maxRecDepth 100000 in
set_option maxHeartbeats 4000000 in
theorem s_X1_inCalls_L4 {ω : WD} {ρ : FR} {post : Int32 → Mem → Prop} (C : Cx ω ρ cX1_inCalls RX1 0 3) (R : RtI ω ρ cX1_inCalls .int post) {x : Nat} (hx : isK 1 x) : ∀ (f : Nat) (l1 : Int32) (l2 : Int32) (M : Mem), w_X1_inCalls_L4 x post f l1 l2 M → G ω ρ M 4 [(0, .ref (adr ω x)), (1, .int l1), (2, .int l2)] [] := by
  intro f
  induction f with
  | zero => intro l1 l2 M h; exact False.elim h
  | succ f k4 =>
    intro l1 l2 M h
    refine G_iload_n C dX1_inCalls_4 2 rfl ?_
    refine G_aload_n C dX1_inCalls_5 0 rfl ?_
    refine gf_X1_9 C hx dX1_inCalls_6 ?_
    obtain ⟨h1, h2⟩ := h
    refine G_icmp_ge (tgt := 33) C dX1_inCalls_9 (by decide) (fun c => ?_) (fun c => ?_)
    · have h := h1 c
      clear h1 h2
      refine G_iload_n C dX1_inCalls_33 1 rfl ?_
      exact R 34 _ _ _ dX1_inCalls_34 rfl h
    · have h := h2 c
      clear h1 h2
      refine G_aload_n C dX1_inCalls_12 0 rfl ?_
      refine gf_X1_28 C hx dX1_inCalls_13 ?_
      refine G_iload_n C dX1_inCalls_16 2 rfl ?_
      obtain ⟨hi, h⟩ := h
      refine G_iald C (st_1_5 hx) hi dX1_inCalls_17 ?_
      obtain ⟨h1, h2⟩ := h
      refine G_if_eq (tgt := 27) C dX1_inCalls_18 (by decide) (fun c => ?_) (fun c => ?_)
      · have h := h1 c
        clear h1 h2
        exact s_X1_inCalls_J27 C R hx k4 h
      · have h := h2 c
        clear h1 h2
        refine G_iload_n C dX1_inCalls_21 1 rfl ?_
        refine G_iconst (v := 1) C dX1_inCalls_22 (by decide) ?_
        refine G_iload_n C dX1_inCalls_23 2 rfl ?_
        refine G_ishl C dX1_inCalls_24 ?_
        refine G_ior C dX1_inCalls_25 ?_
        refine G_iname (fun v2 ev2 => ?_)
        replace h := h v2 ev2
        refine G_istore_n C dX1_inCalls_26 (by decide) (lv' := [(1, .int v2), (0, .ref (adr ω x)), (2, .int l2)]) rfl ?_
        refine G_sub [1, 0, 2] (lv' := [(0, .ref (adr ω x)), (1, .int v2), (2, .int l2)]) rfl ?_
        exact s_X1_inCalls_J27 C R hx k4 h
def w_X1_inCalls (x : Nat) (M : Mem) (post : Int32 → Mem → Prop) : Prop := ∃ g4 : Nat, w_X1_inCalls_L4 x post g4 0 0 M
set_option maxRecDepth 100000 in
set_option maxHeartbeats 4000000 in
theorem S_X1_inCalls {ω : WD} {x : Nat} {M : Mem} {post : Int32 → Mem → Prop} (hx : isK 1 x) (h : w_X1_inCalls x M post) : MtI ω yX1_inCalls cX1_inCalls 3 (some .int) 0 [.ref (adr ω x)] M post := by
  refine MtI.start (ty := .int) rfl (by decide +kernel) (own := RX1) rfl (Nat.le_of_ble_eq_true rfl) (fun ρ C R => ?_)
  show G ω ρ M 0 [(0, .ref (adr ω x))] []
  refine G_iconst (v := 0) C dX1_inCalls_0 (by decide) ?_
  refine G_istore_n C dX1_inCalls_1 (by decide) (lv' := [(1, .int 0), (0, .ref (adr ω x))]) rfl ?_
  refine G_iconst (v := 0) C dX1_inCalls_2 (by decide) ?_
  refine G_istore_n C dX1_inCalls_3 (by decide) (lv' := [(2, .int 0), (1, .int 0), (0, .ref (adr ω x))]) rfl ?_
  refine G_sub [2, 1, 0] (lv' := [(0, .ref (adr ω x)), (1, .int 0), (2, .int 0)]) rfl ?_
  obtain ⟨f, h⟩ := h
  exact s_X1_inCalls_L4 C R hx f _ _ _ h
theorem dX1_allUses_0 : decode cX1_allUses 0 = .ok (.iconst 0, 1) := by decide +kernel
theorem dX1_allUses_1 : decode cX1_allUses 1 = .ok (.istore_n 1, 1) := by decide +kernel
theorem dX1_allUses_2 : decode cX1_allUses 2 = .ok (.iconst 0, 1) := by decide +kernel
theorem dX1_allUses_3 : decode cX1_allUses 3 = .ok (.istore_n 2, 1) := by decide +kernel
theorem dX1_allUses_4 : decode cX1_allUses 4 = .ok (.iload_n 2, 1) := by decide +kernel
theorem dX1_allUses_5 : decode cX1_allUses 5 = .ok (.iconst 5, 1) := by decide +kernel
theorem dX1_allUses_6 : decode cX1_allUses 6 = .ok (.if_icmp .ge 44, 3) := by decide +kernel
theorem dX1_allUses_9 : decode cX1_allUses 9 = .ok (.iconst 0, 1) := by decide +kernel
theorem dX1_allUses_10 : decode cX1_allUses 10 = .ok (.istore_n 3, 1) := by decide +kernel
theorem dX1_allUses_11 : decode cX1_allUses 11 = .ok (.iload_n 3, 1) := by decide +kernel
theorem dX1_allUses_12 : decode cX1_allUses 12 = .ok (.aload_n 0, 1) := by decide +kernel
theorem dX1_allUses_13 : decode cX1_allUses 13 = .ok (.getfield 36, 3) := by decide +kernel
theorem dX1_allUses_16 : decode cX1_allUses 16 = .ok (.iload_n 2, 1) := by decide +kernel
theorem dX1_allUses_17 : decode cX1_allUses 17 = .ok (.aaload, 1) := by decide +kernel
theorem dX1_allUses_18 : decode cX1_allUses 18 = .ok (.getfield 77, 3) := by decide +kernel
theorem dX1_allUses_21 : decode cX1_allUses 21 = .ok (.if_icmp .ge 23, 3) := by decide +kernel
theorem dX1_allUses_24 : decode cX1_allUses 24 = .ok (.iload_n 1, 1) := by decide +kernel
theorem dX1_allUses_25 : decode cX1_allUses 25 = .ok (.aload_n 0, 1) := by decide +kernel
theorem dX1_allUses_26 : decode cX1_allUses 26 = .ok (.getfield 36, 3) := by decide +kernel
theorem dX1_allUses_29 : decode cX1_allUses 29 = .ok (.iload_n 2, 1) := by decide +kernel
theorem dX1_allUses_30 : decode cX1_allUses 30 = .ok (.aaload, 1) := by decide +kernel
theorem dX1_allUses_31 : decode cX1_allUses 31 = .ok (.getfield 59, 3) := by decide +kernel
theorem dX1_allUses_34 : decode cX1_allUses 34 = .ok (.iload_n 3, 1) := by decide +kernel
theorem dX1_allUses_35 : decode cX1_allUses 35 = .ok (.iaload, 1) := by decide +kernel
theorem dX1_allUses_36 : decode cX1_allUses 36 = .ok (.iadd, 1) := by decide +kernel
theorem dX1_allUses_37 : decode cX1_allUses 37 = .ok (.istore_n 1, 1) := by decide +kernel
theorem dX1_allUses_38 : decode cX1_allUses 38 = .ok (.iinc 3 1, 3) := by decide +kernel
theorem dX1_allUses_41 : decode cX1_allUses 41 = .ok (.goto (-30), 3) := by decide +kernel
theorem dX1_allUses_44 : decode cX1_allUses 44 = .ok (.iinc 2 1, 3) := by decide +kernel
theorem dX1_allUses_47 : decode cX1_allUses 47 = .ok (.goto (-43), 3) := by decide +kernel
theorem dX1_allUses_50 : decode cX1_allUses 50 = .ok (.iload_n 1, 1) := by decide +kernel
theorem dX1_allUses_51 : decode cX1_allUses 51 = .ok (.ireturn, 1) := by decide +kernel
theorem gf_X1_77 {ω : WD} {ρ : FR} {M : Mem} {cc : ByteArray} {d n pc i : Nat} {lv : List (Nat × Value)} {rest : List Value} (C : Cx ω ρ cc RX1 d n) (hk : isK 2 i) (hd : decode cc pc = .ok (.getfield 77, 3)) (k : G ω ρ M (pc + 3) lv (.int (rd M i 1) :: rest)) : G ω ρ M pc lv (.ref (adr ω i) :: rest) := G_get (N := 6) (T := TX2) (C := RX2) (q := 1) C hk (by decide) rfl in_X2 (by decide) (tb_of 104 ⟨by decide +kernel, rfl⟩) rfl rfl hd k
def w_X1_allUses_L11 (x : Nat) (post : Int32 → Mem → Prop) (K4 : Int32 → Int32 → Mem → Prop) (l2 : Int32) : Nat → Int32 → Int32 → Mem → Prop
  | 0, _, _, _ => False
  | f + 1, l1, l3, M => vp_in l2 5 ∧ (∀ g1 : Nat, g1 = x + 5 + 1 + 2 * l2.toNatClampNeg → (((rd M g1 1) ≤ l3 → ∀ v2 : Int32, v2 = (l2 + 1) → K4 l1 v2 M) ∧ (¬ (rd M g1 1) ≤ l3 → vp_in l2 5 ∧ (∀ g3 : Nat, g3 = x + 5 + 1 + 2 * l2.toNatClampNeg → vp_in l3 4 ∧ (∀ v4 : Int32, v4 = (l1 + (rd M (g3 + 1) l3.toNatClampNeg)) → ∀ v5 : Int32, v5 = (l3 + 1) → (w_X1_allUses_L11 x post K4 l2 f) v4 v5 M)))))
set_option maxRecDepth 100000 in
set_option maxHeartbeats 4000000 in
theorem s_X1_allUses_L11 {ω : WD} {ρ : FR} {post : Int32 → Mem → Prop} (C : Cx ω ρ cX1_allUses RX1 0 4) (R : RtI ω ρ cX1_allUses .int post) {x : Nat} (hx : isK 1 x) {K4 : Int32 → Int32 → Mem → Prop} {l2 : Int32} (k4 : ∀ (u1 : Int32) (u2 : Int32) (M : Mem), K4 u1 u2 M → G ω ρ M 4 [(0, .ref (adr ω x)), (1, .int u1), (2, .int u2)] []) : ∀ (f : Nat) (l1 : Int32) (l3 : Int32) (M : Mem), w_X1_allUses_L11 x post K4 l2 f l1 l3 M → G ω ρ M 11 [(0, .ref (adr ω x)), (1, .int l1), (2, .int l2), (3, .int l3)] [] := by
  intro f
  induction f with
  | zero => intro l1 l3 M h; exact False.elim h
  | succ f k11 =>
    intro l1 l3 M h
    refine G_iload_n C dX1_allUses_11 3 rfl ?_
    refine G_aload_n C dX1_allUses_12 0 rfl ?_
    refine gf_X1_36 C hx dX1_allUses_13 ?_
    refine G_iload_n C dX1_allUses_16 2 rfl ?_
    obtain ⟨hi, h⟩ := h
    refine G_aldGroup C (st_1_7 hx) hi dX1_allUses_17 (G_rname (fun g1 eg1 => ?_))
    replace h := h g1 eg1
    have hg1 := el_13 (st_1_7 hx) hi eg1
    refine gf_X1_77 C hg1 dX1_allUses_18 ?_
    obtain ⟨h1, h2⟩ := h
    refine G_icmp_ge (tgt := 44) C dX1_allUses_21 (by decide) (fun c => ?_) (fun c => ?_)
    · have h := h1 c
      clear h1 h2
      obtain ⟨v2, ev2⟩ : ∃ y : Int32, y = (l2 + 1) := ⟨_, rfl⟩
      replace h := h v2 ev2
      refine G_iinc C dX1_allUses_44 2 rfl (v := v2) (by rw [ev2]; rfl) (by decide) (lv' := [(2, .int v2), (0, .ref (adr ω x)), (1, .int l1), (3, .int l3)]) rfl ?_
      refine G_goto (tgt := 4) C dX1_allUses_47 (by decide) ?_
      refine G_sub [1, 2, 0] (lv' := [(0, .ref (adr ω x)), (1, .int l1), (2, .int v2)]) rfl ?_
      exact k4 _ _ _ h
    · have h := h2 c
      clear h1 h2
      refine G_iload_n C dX1_allUses_24 1 rfl ?_
      refine G_aload_n C dX1_allUses_25 0 rfl ?_
      refine gf_X1_36 C hx dX1_allUses_26 ?_
      refine G_iload_n C dX1_allUses_29 2 rfl ?_
      obtain ⟨hi, h⟩ := h
      refine G_aldGroup C (st_1_7 hx) hi dX1_allUses_30 (G_rname (fun g3 eg3 => ?_))
      replace h := h g3 eg3
      have hg3 := el_13 (st_1_7 hx) hi eg3
      refine gf_X1_59 C hg3 dX1_allUses_31 ?_
      refine G_iload_n C dX1_allUses_34 3 rfl ?_
      obtain ⟨hi, h⟩ := h
      refine G_iald C (st_2_5 hg3) hi dX1_allUses_35 ?_
      refine G_iadd C dX1_allUses_36 ?_
      refine G_iname (fun v4 ev4 => ?_)
      replace h := h v4 ev4
      refine G_istore_n C dX1_allUses_37 (by decide) (lv' := [(1, .int v4), (0, .ref (adr ω x)), (2, .int l2), (3, .int l3)]) rfl ?_
      obtain ⟨v5, ev5⟩ : ∃ y : Int32, y = (l3 + 1) := ⟨_, rfl⟩
      replace h := h v5 ev5
      refine G_iinc C dX1_allUses_38 3 rfl (v := v5) (by rw [ev5]; rfl) (by decide) (lv' := [(3, .int v5), (1, .int v4), (0, .ref (adr ω x)), (2, .int l2)]) rfl ?_
      refine G_goto (tgt := 11) C dX1_allUses_41 (by decide) ?_
      refine G_sub [2, 1, 3, 0] (lv' := [(0, .ref (adr ω x)), (1, .int v4), (2, .int l2), (3, .int v5)]) rfl ?_
      exact k11 _ _ _ h
def w_X1_allUses_L4 (x : Nat) (post : Int32 → Mem → Prop) : Nat → Int32 → Int32 → Mem → Prop
  | 0, _, _, _ => False
  | f + 1, l1, l2, M => ((5 ≤ l2 → post l1 M) ∧ (¬ 5 ≤ l2 → ∃ g11 : Nat, w_X1_allUses_L11 x post (w_X1_allUses_L4 x post f) l2 g11 l1 0 M))
set_option maxRecDepth 100000 in
set_option maxHeartbeats 4000000 in
theorem s_X1_allUses_L4 {ω : WD} {ρ : FR} {post : Int32 → Mem → Prop} (C : Cx ω ρ cX1_allUses RX1 0 4) (R : RtI ω ρ cX1_allUses .int post) {x : Nat} (hx : isK 1 x) : ∀ (f : Nat) (l1 : Int32) (l2 : Int32) (M : Mem), w_X1_allUses_L4 x post f l1 l2 M → G ω ρ M 4 [(0, .ref (adr ω x)), (1, .int l1), (2, .int l2)] [] := by
  intro f
  induction f with
  | zero => intro l1 l2 M h; exact False.elim h
  | succ f k4 =>
    intro l1 l2 M h
    refine G_iload_n C dX1_allUses_4 2 rfl ?_
    refine G_iconst (v := 5) C dX1_allUses_5 (by decide) ?_
    obtain ⟨h1, h2⟩ := h
    refine G_icmp_ge (tgt := 50) C dX1_allUses_6 (by decide) (fun c => ?_) (fun c => ?_)
    · have h := h1 c
      clear h1 h2
      refine G_iload_n C dX1_allUses_50 1 rfl ?_
      exact R 51 _ _ _ dX1_allUses_51 rfl h
    · have h := h2 c
      clear h1 h2
      refine G_iconst (v := 0) C dX1_allUses_9 (by decide) ?_
      refine G_istore_n C dX1_allUses_10 (by decide) (lv' := [(3, .int 0), (0, .ref (adr ω x)), (1, .int l1), (2, .int l2)]) rfl ?_
      refine G_sub [1, 2, 3, 0] (lv' := [(0, .ref (adr ω x)), (1, .int l1), (2, .int l2), (3, .int 0)]) rfl ?_
      obtain ⟨f, h⟩ := h
      exact s_X1_allUses_L11 C R hx k4 f _ _ _ h
def w_X1_allUses (x : Nat) (M : Mem) (post : Int32 → Mem → Prop) : Prop := ∃ g4 : Nat, w_X1_allUses_L4 x post g4 0 0 M
set_option maxRecDepth 100000 in
set_option maxHeartbeats 4000000 in
theorem S_X1_allUses {ω : WD} {x : Nat} {M : Mem} {post : Int32 → Mem → Prop} (hx : isK 1 x) (h : w_X1_allUses x M post) : MtI ω yX1_allUses cX1_allUses 4 (some .int) 0 [.ref (adr ω x)] M post := by
  refine MtI.start (ty := .int) rfl (by decide +kernel) (own := RX1) rfl (Nat.le_of_ble_eq_true rfl) (fun ρ C R => ?_)
  show G ω ρ M 0 [(0, .ref (adr ω x))] []
  refine G_iconst (v := 0) C dX1_allUses_0 (by decide) ?_
  refine G_istore_n C dX1_allUses_1 (by decide) (lv' := [(1, .int 0), (0, .ref (adr ω x))]) rfl ?_
  refine G_iconst (v := 0) C dX1_allUses_2 (by decide) ?_
  refine G_istore_n C dX1_allUses_3 (by decide) (lv' := [(2, .int 0), (1, .int 0), (0, .ref (adr ω x))]) rfl ?_
  refine G_sub [2, 1, 0] (lv' := [(0, .ref (adr ω x)), (1, .int 0), (2, .int 0)]) rfl ?_
  obtain ⟨f, h⟩ := h
  exact s_X1_allUses_L4 C R hx f _ _ _ h
theorem dX1_allWays_0 : decode cX1_allWays 0 = .ok (.iconst 0, 1) := by decide +kernel
theorem dX1_allWays_1 : decode cX1_allWays 1 = .ok (.istore_n 1, 1) := by decide +kernel
theorem dX1_allWays_2 : decode cX1_allWays 2 = .ok (.iconst 0, 1) := by decide +kernel
theorem dX1_allWays_3 : decode cX1_allWays 3 = .ok (.istore_n 2, 1) := by decide +kernel
theorem dX1_allWays_4 : decode cX1_allWays 4 = .ok (.iload_n 2, 1) := by decide +kernel
theorem dX1_allWays_5 : decode cX1_allWays 5 = .ok (.iconst 5, 1) := by decide +kernel
theorem dX1_allWays_6 : decode cX1_allWays 6 = .ok (.if_icmp .ge 21, 3) := by decide +kernel
theorem dX1_allWays_9 : decode cX1_allWays 9 = .ok (.iload_n 1, 1) := by decide +kernel
theorem dX1_allWays_10 : decode cX1_allWays 10 = .ok (.aload_n 0, 1) := by decide +kernel
theorem dX1_allWays_11 : decode cX1_allWays 11 = .ok (.getfield 36, 3) := by decide +kernel
theorem dX1_allWays_14 : decode cX1_allWays 14 = .ok (.iload_n 2, 1) := by decide +kernel
theorem dX1_allWays_15 : decode cX1_allWays 15 = .ok (.aaload, 1) := by decide +kernel
theorem dX1_allWays_16 : decode cX1_allWays 16 = .ok (.getfield 77, 3) := by decide +kernel
theorem dX1_allWays_19 : decode cX1_allWays 19 = .ok (.iadd, 1) := by decide +kernel
theorem dX1_allWays_20 : decode cX1_allWays 20 = .ok (.istore_n 1, 1) := by decide +kernel
theorem dX1_allWays_21 : decode cX1_allWays 21 = .ok (.iinc 2 1, 3) := by decide +kernel
theorem dX1_allWays_24 : decode cX1_allWays 24 = .ok (.goto (-20), 3) := by decide +kernel
theorem dX1_allWays_27 : decode cX1_allWays 27 = .ok (.iload_n 1, 1) := by decide +kernel
theorem dX1_allWays_28 : decode cX1_allWays 28 = .ok (.ireturn, 1) := by decide +kernel
def w_X1_allWays_L4 (x : Nat) (post : Int32 → Mem → Prop) : Nat → Int32 → Int32 → Mem → Prop
  | 0, _, _, _ => False
  | f + 1, l1, l2, M => ((5 ≤ l2 → post l1 M) ∧ (¬ 5 ≤ l2 → vp_in l2 5 ∧ (∀ g1 : Nat, g1 = x + 5 + 1 + 2 * l2.toNatClampNeg → ∀ v2 : Int32, v2 = (l1 + (rd M g1 1)) → ∀ v3 : Int32, v3 = (l2 + 1) → (w_X1_allWays_L4 x post f) v2 v3 M)))
set_option maxRecDepth 100000 in
set_option maxHeartbeats 4000000 in
theorem s_X1_allWays_L4 {ω : WD} {ρ : FR} {post : Int32 → Mem → Prop} (C : Cx ω ρ cX1_allWays RX1 0 3) (R : RtI ω ρ cX1_allWays .int post) {x : Nat} (hx : isK 1 x) : ∀ (f : Nat) (l1 : Int32) (l2 : Int32) (M : Mem), w_X1_allWays_L4 x post f l1 l2 M → G ω ρ M 4 [(0, .ref (adr ω x)), (1, .int l1), (2, .int l2)] [] := by
  intro f
  induction f with
  | zero => intro l1 l2 M h; exact False.elim h
  | succ f k4 =>
    intro l1 l2 M h
    refine G_iload_n C dX1_allWays_4 2 rfl ?_
    refine G_iconst (v := 5) C dX1_allWays_5 (by decide) ?_
    obtain ⟨h1, h2⟩ := h
    refine G_icmp_ge (tgt := 27) C dX1_allWays_6 (by decide) (fun c => ?_) (fun c => ?_)
    · have h := h1 c
      clear h1 h2
      refine G_iload_n C dX1_allWays_27 1 rfl ?_
      exact R 28 _ _ _ dX1_allWays_28 rfl h
    · have h := h2 c
      clear h1 h2
      refine G_iload_n C dX1_allWays_9 1 rfl ?_
      refine G_aload_n C dX1_allWays_10 0 rfl ?_
      refine gf_X1_36 C hx dX1_allWays_11 ?_
      refine G_iload_n C dX1_allWays_14 2 rfl ?_
      obtain ⟨hi, h⟩ := h
      refine G_aldGroup C (st_1_7 hx) hi dX1_allWays_15 (G_rname (fun g1 eg1 => ?_))
      replace h := h g1 eg1
      have hg1 := el_13 (st_1_7 hx) hi eg1
      refine gf_X1_77 C hg1 dX1_allWays_16 ?_
      refine G_iadd C dX1_allWays_19 ?_
      refine G_iname (fun v2 ev2 => ?_)
      replace h := h v2 ev2
      refine G_istore_n C dX1_allWays_20 (by decide) (lv' := [(1, .int v2), (0, .ref (adr ω x)), (2, .int l2)]) rfl ?_
      obtain ⟨v3, ev3⟩ : ∃ y : Int32, y = (l2 + 1) := ⟨_, rfl⟩
      replace h := h v3 ev3
      refine G_iinc C dX1_allWays_21 2 rfl (v := v3) (by rw [ev3]; rfl) (by decide) (lv' := [(2, .int v3), (1, .int v2), (0, .ref (adr ω x))]) rfl ?_
      refine G_goto (tgt := 4) C dX1_allWays_24 (by decide) ?_
      refine G_sub [2, 1, 0] (lv' := [(0, .ref (adr ω x)), (1, .int v2), (2, .int v3)]) rfl ?_
      exact k4 _ _ _ h
def w_X1_allWays (x : Nat) (M : Mem) (post : Int32 → Mem → Prop) : Prop := ∃ g4 : Nat, w_X1_allWays_L4 x post g4 0 0 M
set_option maxRecDepth 100000 in
set_option maxHeartbeats 4000000 in
theorem S_X1_allWays {ω : WD} {x : Nat} {M : Mem} {post : Int32 → Mem → Prop} (hx : isK 1 x) (h : w_X1_allWays x M post) : MtI ω yX1_allWays cX1_allWays 3 (some .int) 0 [.ref (adr ω x)] M post := by
  refine MtI.start (ty := .int) rfl (by decide +kernel) (own := RX1) rfl (Nat.le_of_ble_eq_true rfl) (fun ρ C R => ?_)
  show G ω ρ M 0 [(0, .ref (adr ω x))] []
  refine G_iconst (v := 0) C dX1_allWays_0 (by decide) ?_
  refine G_istore_n C dX1_allWays_1 (by decide) (lv' := [(1, .int 0), (0, .ref (adr ω x))]) rfl ?_
  refine G_iconst (v := 0) C dX1_allWays_2 (by decide) ?_
  refine G_istore_n C dX1_allWays_3 (by decide) (lv' := [(2, .int 0), (1, .int 0), (0, .ref (adr ω x))]) rfl ?_
  refine G_sub [2, 1, 0] (lv' := [(0, .ref (adr ω x)), (1, .int 0), (2, .int 0)]) rfl ?_
  obtain ⟨f, h⟩ := h
  exact s_X1_allWays_L4 C R hx f _ _ _ h
theorem dX1_allDead_0 : decode cX1_allDead 0 = .ok (.iconst 0, 1) := by decide +kernel
theorem dX1_allDead_1 : decode cX1_allDead 1 = .ok (.istore_n 1, 1) := by decide +kernel
theorem dX1_allDead_2 : decode cX1_allDead 2 = .ok (.iconst 0, 1) := by decide +kernel
theorem dX1_allDead_3 : decode cX1_allDead 3 = .ok (.istore_n 2, 1) := by decide +kernel
theorem dX1_allDead_4 : decode cX1_allDead 4 = .ok (.iload_n 2, 1) := by decide +kernel
theorem dX1_allDead_5 : decode cX1_allDead 5 = .ok (.iconst 5, 1) := by decide +kernel
theorem dX1_allDead_6 : decode cX1_allDead 6 = .ok (.if_icmp .ge 24, 3) := by decide +kernel
theorem dX1_allDead_9 : decode cX1_allDead 9 = .ok (.iload_n 1, 1) := by decide +kernel
theorem dX1_allDead_10 : decode cX1_allDead 10 = .ok (.aload_n 0, 1) := by decide +kernel
theorem dX1_allDead_11 : decode cX1_allDead 11 = .ok (.getfield 36, 3) := by decide +kernel
theorem dX1_allDead_14 : decode cX1_allDead 14 = .ok (.iload_n 2, 1) := by decide +kernel
theorem dX1_allDead_15 : decode cX1_allDead 15 = .ok (.aaload, 1) := by decide +kernel
theorem dX1_allDead_16 : decode cX1_allDead 16 = .ok (.getfield 80, 3) := by decide +kernel
theorem dX1_allDead_19 : decode cX1_allDead 19 = .ok (.invokestatic 83, 3) := by decide +kernel
theorem dX1_allDead_22 : decode cX1_allDead 22 = .ok (.iadd, 1) := by decide +kernel
theorem dX1_allDead_23 : decode cX1_allDead 23 = .ok (.istore_n 1, 1) := by decide +kernel
theorem dX1_allDead_24 : decode cX1_allDead 24 = .ok (.iinc 2 1, 3) := by decide +kernel
theorem dX1_allDead_27 : decode cX1_allDead 27 = .ok (.goto (-23), 3) := by decide +kernel
theorem dX1_allDead_30 : decode cX1_allDead 30 = .ok (.iload_n 1, 1) := by decide +kernel
theorem dX1_allDead_31 : decode cX1_allDead 31 = .ok (.ireturn, 1) := by decide +kernel
theorem gf_X1_80 {ω : WD} {ρ : FR} {M : Mem} {cc : ByteArray} {d n pc i : Nat} {lv : List (Nat × Value)} {rest : List Value} (C : Cx ω ρ cc RX1 d n) (hk : isK 2 i) (hd : decode cc pc = .ok (.getfield 80, 3)) (k : G ω ρ M (pc + 3) lv (.int (rd M i 2) :: rest)) : G ω ρ M pc lv (.ref (adr ω i) :: rest) := G_get (N := 6) (T := TX2) (C := RX2) (q := 2) C hk (by decide) rfl in_X2 (by decide) (tb_of 107 ⟨by decide +kernel, rfl⟩) rfl rfl hd k
theorem lk_X1_83 : LkS RX1 83 yJ6_bitCount_0f7a4 cJ6_bitCount_0f7a4 1 (some .int) 1 := LkS.of 960 826 77 827 (by decide +kernel) (by decide +kernel) (by decide +kernel) (by decide +kernel) (by decide +kernel)
def w_X1_allDead_L4 (x : Nat) (post : Int32 → Mem → Prop) : Nat → Int32 → Int32 → Mem → Prop
  | 0, _, _, _ => False
  | f + 1, l1, l2, M => ((5 ≤ l2 → post l1 M) ∧ (¬ 5 ≤ l2 → vp_in l2 5 ∧ (∀ g1 : Nat, g1 = x + 5 + 1 + 2 * l2.toNatClampNeg → w_J6_bitCount_0f7a4 (rd M g1 2) M (fun (r3 : Int32) (M2 : Mem) => ∀ v4 : Int32, v4 = (l1 + r3) → ∀ v5 : Int32, v5 = (l2 + 1) → (w_X1_allDead_L4 x post f) v4 v5 M2))))
set_option maxRecDepth 100000 in
set_option maxHeartbeats 4000000 in
theorem s_X1_allDead_L4 {ω : WD} {ρ : FR} {post : Int32 → Mem → Prop} (C : Cx ω ρ cX1_allDead RX1 1 3) (R : RtI ω ρ cX1_allDead .int post) {x : Nat} (hx : isK 1 x) : ∀ (f : Nat) (l1 : Int32) (l2 : Int32) (M : Mem), w_X1_allDead_L4 x post f l1 l2 M → G ω ρ M 4 [(0, .ref (adr ω x)), (1, .int l1), (2, .int l2)] [] := by
  intro f
  induction f with
  | zero => intro l1 l2 M h; exact False.elim h
  | succ f k4 =>
    intro l1 l2 M h
    refine G_iload_n C dX1_allDead_4 2 rfl ?_
    refine G_iconst (v := 5) C dX1_allDead_5 (by decide) ?_
    obtain ⟨h1, h2⟩ := h
    refine G_icmp_ge (tgt := 30) C dX1_allDead_6 (by decide) (fun c => ?_) (fun c => ?_)
    · have h := h1 c
      clear h1 h2
      refine G_iload_n C dX1_allDead_30 1 rfl ?_
      exact R 31 _ _ _ dX1_allDead_31 rfl h
    · have h := h2 c
      clear h1 h2
      refine G_iload_n C dX1_allDead_9 1 rfl ?_
      refine G_aload_n C dX1_allDead_10 0 rfl ?_
      refine gf_X1_36 C hx dX1_allDead_11 ?_
      refine G_iload_n C dX1_allDead_14 2 rfl ?_
      obtain ⟨hi, h⟩ := h
      refine G_aldGroup C (st_1_7 hx) hi dX1_allDead_15 (G_rname (fun g1 eg1 => ?_))
      replace h := h g1 eg1
      have hg1 := el_13 (st_1_7 hx) hi eg1
      refine gf_X1_80 C hg1 dX1_allDead_16 ?_
      refine G_scallI (As := [.int (rd M g1 2)]) (rest := [.int l1]) C dX1_allDead_19 lk_X1_83 (Nat.le_of_ble_eq_true rfl) (Nat.le_of_ble_eq_true rfl) (Nat.le_of_ble_eq_true rfl) rfl (S_J6_bitCount_0f7a4 h) (fun r3 M2 h => ?_)
      refine G_iadd C dX1_allDead_22 ?_
      refine G_iname (fun v4 ev4 => ?_)
      replace h := h v4 ev4
      refine G_istore_n C dX1_allDead_23 (by decide) (lv' := [(1, .int v4), (0, .ref (adr ω x)), (2, .int l2)]) rfl ?_
      obtain ⟨v5, ev5⟩ : ∃ y : Int32, y = (l2 + 1) := ⟨_, rfl⟩
      replace h := h v5 ev5
      refine G_iinc C dX1_allDead_24 2 rfl (v := v5) (by rw [ev5]; rfl) (by decide) (lv' := [(2, .int v5), (1, .int v4), (0, .ref (adr ω x))]) rfl ?_
      refine G_goto (tgt := 4) C dX1_allDead_27 (by decide) ?_
      refine G_sub [2, 1, 0] (lv' := [(0, .ref (adr ω x)), (1, .int v4), (2, .int v5)]) rfl ?_
      exact k4 _ _ _ h
def w_X1_allDead (x : Nat) (M : Mem) (post : Int32 → Mem → Prop) : Prop := ∃ g4 : Nat, w_X1_allDead_L4 x post g4 0 0 M
set_option maxRecDepth 100000 in
set_option maxHeartbeats 4000000 in
theorem S_X1_allDead {ω : WD} {x : Nat} {M : Mem} {post : Int32 → Mem → Prop} (hx : isK 1 x) (h : w_X1_allDead x M post) : MtI ω yX1_allDead cX1_allDead 3 (some .int) 1 [.ref (adr ω x)] M post := by
  refine MtI.start (ty := .int) rfl (by decide +kernel) (own := RX1) rfl (Nat.le_of_ble_eq_true rfl) (fun ρ C R => ?_)
  show G ω ρ M 0 [(0, .ref (adr ω x))] []
  refine G_iconst (v := 0) C dX1_allDead_0 (by decide) ?_
  refine G_istore_n C dX1_allDead_1 (by decide) (lv' := [(1, .int 0), (0, .ref (adr ω x))]) rfl ?_
  refine G_iconst (v := 0) C dX1_allDead_2 (by decide) ?_
  refine G_istore_n C dX1_allDead_3 (by decide) (lv' := [(2, .int 0), (1, .int 0), (0, .ref (adr ω x))]) rfl ?_
  refine G_sub [2, 1, 0] (lv' := [(0, .ref (adr ω x)), (1, .int 0), (2, .int 0)]) rfl ?_
  obtain ⟨f, h⟩ := h
  exact s_X1_allDead_L4 C R hx f _ _ _ h
end
section
theorem dX0_begin_0 : decode cX0_begin 0 = .ok (.aload_n 0, 1) := by decide +kernel
theorem dX0_begin_1 : decode cX0_begin 1 = .ok (.bipush (-4), 2) := by decide +kernel
theorem dX0_begin_3 : decode cX0_begin 3 = .ok (.putfield 9, 3) := by decide +kernel
theorem dX0_begin_6 : decode cX0_begin 6 = .ok (.aload_n 0, 1) := by decide +kernel
theorem dX0_begin_7 : decode cX0_begin 7 = .ok (.iload_n 1, 1) := by decide +kernel
theorem dX0_begin_8 : decode cX0_begin 8 = .ok (.putfield 15, 3) := by decide +kernel
theorem dX0_begin_11 : decode cX0_begin 11 = .ok (.return_, 1) := by decide +kernel
theorem pf_X0_9 {ω : WD} {ρ : FR} {M : Mem} {cc : ByteArray} {d n pc : Nat} {lv : List (Nat × Value)} {rest : List Value} {v : Int32} (C : Cx ω ρ cc RX0 d n) (hd : decode cc pc = .ok (.putfield 9, 3)) (k : ∀ M1, M1 = wr M 40 0 v → G ω ρ M1 (pc + 3) lv rest) : G ω ρ M pc lv (.int v :: .ref (adr ω 40) :: rest) := G_put (N := 2) (T := TX0) (C := RX0) (q := 0) (ty := .int) C (q40 : isK 0 40) (by decide) rfl in_X0 tyX0 tyX0_ok nmX0 (by decide) (tb_of 246 ⟨by decide +kernel, rfl⟩) rfl rfl (by decide +kernel) rfl rfl (fun _ _ => Nat.le_of_ble_eq_true rfl) (fun _ => rfl) hd (k _ rfl)
theorem pf_X0_15 {ω : WD} {ρ : FR} {M : Mem} {cc : ByteArray} {d n pc : Nat} {lv : List (Nat × Value)} {rest : List Value} {v : Int32} (C : Cx ω ρ cc RX0 d n) (hd : decode cc pc = .ok (.putfield 15, 3)) (k : ∀ M1, M1 = wr M 40 1 v → G ω ρ M1 (pc + 3) lv rest) : G ω ρ M pc lv (.int v :: .ref (adr ω 40) :: rest) := G_put (N := 2) (T := TX0) (C := RX0) (q := 1) (ty := .int) C (q40 : isK 0 40) (by decide) rfl in_X0 tyX0 tyX0_ok nmX0 (by decide) (tb_of 247 ⟨by decide +kernel, rfl⟩) rfl rfl (by decide +kernel) rfl rfl (fun _ _ => Nat.le_of_ble_eq_true rfl) (fun _ => rfl) hd (k _ rfl)
def w_X0_begin (l1 : Int32) (M : Mem) (post : Mem → Prop) : Prop := ∀ M1 : Mem, M1 = wr M 40 0 (-4) → ∀ M2 : Mem, M2 = wr M1 40 1 l1 → post M2
set_option maxRecDepth 100000 in
set_option maxHeartbeats 4000000 in
theorem S_X0_begin {ω : WD} {l1 : Int32} {M : Mem} {post : Mem → Prop} (h : w_X0_begin l1 M post) : MtV ω yX0_begin cX0_begin 2 none 0 [.ref (adr ω 40), .int l1] M post := by
  refine MtV.start rfl (by decide +kernel) (own := RX0) rfl (Nat.le_of_ble_eq_true rfl) (fun ρ C R => ?_)
  show G ω ρ M 0 [(0, .ref (adr ω 40)), (1, .int l1)] []
  refine G_aload_n C dX0_begin_0 0 rfl ?_
  refine G_bipush (v := (-4)) C dX0_begin_1 (by decide) ?_
  refine pf_X0_9 C dX0_begin_3 (fun M1 eM1 => ?_)
  replace h := h M1 eM1
  refine G_aload_n C dX0_begin_6 0 rfl ?_
  refine G_iload_n C dX0_begin_7 1 rfl ?_
  refine pf_X0_15 C dX0_begin_8 (fun M2 eM2 => ?_)
  replace h := h M2 eM2
  exact R 11 _ _ dX0_begin_11 h
theorem dX0_offer_0 : decode cX0_offer 0 = .ok (.iload_n 2, 1) := by decide +kernel
theorem dX0_offer_1 : decode cX0_offer 1 = .ok (.aload_n 0, 1) := by decide +kernel
theorem dX0_offer_2 : decode cX0_offer 2 = .ok (.getfield 15, 3) := by decide +kernel
theorem dX0_offer_5 : decode cX0_offer 5 = .ok (.if_icmp .ge 13, 3) := by decide +kernel
theorem dX0_offer_8 : decode cX0_offer 8 = .ok (.aload_n 0, 1) := by decide +kernel
theorem dX0_offer_9 : decode cX0_offer 9 = .ok (.iload_n 1, 1) := by decide +kernel
theorem dX0_offer_10 : decode cX0_offer 10 = .ok (.putfield 9, 3) := by decide +kernel
theorem dX0_offer_13 : decode cX0_offer 13 = .ok (.aload_n 0, 1) := by decide +kernel
theorem dX0_offer_14 : decode cX0_offer 14 = .ok (.iload_n 2, 1) := by decide +kernel
theorem dX0_offer_15 : decode cX0_offer 15 = .ok (.putfield 15, 3) := by decide +kernel
theorem dX0_offer_18 : decode cX0_offer 18 = .ok (.return_, 1) := by decide +kernel
theorem gf_X0_15 {ω : WD} {ρ : FR} {M : Mem} {cc : ByteArray} {d n pc : Nat} {lv : List (Nat × Value)} {rest : List Value} (C : Cx ω ρ cc RX0 d n) (hd : decode cc pc = .ok (.getfield 15, 3)) (k : G ω ρ M (pc + 3) lv (.int (rd M 40 1) :: rest)) : G ω ρ M pc lv (.ref (adr ω 40) :: rest) := G_get (N := 2) (T := TX0) (C := RX0) (q := 1) C (q40 : isK 0 40) (by decide) rfl in_X0 (by decide) (tb_of 247 ⟨by decide +kernel, rfl⟩) rfl rfl hd k
def w_X0_offer (l1 : Int32) (l2 : Int32) (M : Mem) (post : Mem → Prop) : Prop := (((rd M 40 1) ≤ l2 → post M) ∧ (¬ (rd M 40 1) ≤ l2 → ∀ M1 : Mem, M1 = wr M 40 0 l1 → ∀ M2 : Mem, M2 = wr M1 40 1 l2 → post M2))
set_option maxRecDepth 100000 in
set_option maxHeartbeats 4000000 in
theorem S_X0_offer {ω : WD} {l1 : Int32} {l2 : Int32} {M : Mem} {post : Mem → Prop} (h : w_X0_offer l1 l2 M post) : MtV ω yX0_offer cX0_offer 3 none 0 [.ref (adr ω 40), .int l1, .int l2] M post := by
  refine MtV.start rfl (by decide +kernel) (own := RX0) rfl (Nat.le_of_ble_eq_true rfl) (fun ρ C R => ?_)
  show G ω ρ M 0 [(0, .ref (adr ω 40)), (1, .int l1), (2, .int l2)] []
  refine G_iload_n C dX0_offer_0 2 rfl ?_
  refine G_aload_n C dX0_offer_1 0 rfl ?_
  refine gf_X0_15 C dX0_offer_2 ?_
  obtain ⟨h1, h2⟩ := h
  refine G_icmp_ge (tgt := 18) C dX0_offer_5 (by decide) (fun c => ?_) (fun c => ?_)
  · have h := h1 c
    clear h1 h2
    exact R 18 _ _ dX0_offer_18 h
  · have h := h2 c
    clear h1 h2
    refine G_aload_n C dX0_offer_8 0 rfl ?_
    refine G_iload_n C dX0_offer_9 1 rfl ?_
    refine pf_X0_9 C dX0_offer_10 (fun M1 eM1 => ?_)
    replace h := h M1 eM1
    refine G_aload_n C dX0_offer_13 0 rfl ?_
    refine G_iload_n C dX0_offer_14 2 rfl ?_
    refine pf_X0_15 C dX0_offer_15 (fun M2 eM2 => ?_)
    replace h := h M2 eM2
    exact R 18 _ _ dX0_offer_18 h
theorem dX0_told_0 : decode cX0_told 0 = .ok (.aload_n 0, 1) := by decide +kernel
theorem dX0_told_1 : decode cX0_told 1 = .ok (.getfield 9, 3) := by decide +kernel
theorem dX0_told_4 : decode cX0_told 4 = .ok (.bipush (-4), 2) := by decide +kernel
theorem dX0_told_6 : decode cX0_told 6 = .ok (.if_icmp .ne 6, 3) := by decide +kernel
theorem dX0_told_9 : decode cX0_told 9 = .ok (.bipush (-4), 2) := by decide +kernel
theorem dX0_told_11 : decode cX0_told 11 = .ok (.ireturn, 1) := by decide +kernel
theorem dX0_told_12 : decode cX0_told 12 = .ok (.iload_n 1, 1) := by decide +kernel
theorem dX0_told_13 : decode cX0_told 13 = .ok (.ifCond .ne 10, 3) := by decide +kernel
theorem dX0_told_16 : decode cX0_told 16 = .ok (.aload_n 0, 1) := by decide +kernel
theorem dX0_told_17 : decode cX0_told 17 = .ok (.getfield 9, 3) := by decide +kernel
theorem dX0_told_20 : decode cX0_told 20 = .ok (.goto 7, 3) := by decide +kernel
theorem dX0_told_23 : decode cX0_told 23 = .ok (.aload_n 0, 1) := by decide +kernel
theorem dX0_told_24 : decode cX0_told 24 = .ok (.getfield 15, 3) := by decide +kernel
theorem dX0_told_27 : decode cX0_told 27 = .ok (.ireturn, 1) := by decide +kernel
theorem gf_X0_9 {ω : WD} {ρ : FR} {M : Mem} {cc : ByteArray} {d n pc : Nat} {lv : List (Nat × Value)} {rest : List Value} (C : Cx ω ρ cc RX0 d n) (hd : decode cc pc = .ok (.getfield 9, 3)) (k : G ω ρ M (pc + 3) lv (.int (rd M 40 0) :: rest)) : G ω ρ M pc lv (.ref (adr ω 40) :: rest) := G_get (N := 2) (T := TX0) (C := RX0) (q := 0) C (q40 : isK 0 40) (by decide) rfl in_X0 (by decide) (tb_of 246 ⟨by decide +kernel, rfl⟩) rfl rfl hd k
def w_X0_told (l1 : Int32) (M : Mem) (post : Int32 → Mem → Prop) : Prop := ((¬ (rd M 40 0) = (-4) → ((¬ l1 = 0 → post (rd M 40 1) M) ∧ (l1 = 0 → post (rd M 40 0) M))) ∧ ((rd M 40 0) = (-4) → post (-4) M))
set_option maxRecDepth 100000 in
set_option maxHeartbeats 4000000 in
theorem S_X0_told {ω : WD} {l1 : Int32} {M : Mem} {post : Int32 → Mem → Prop} (h : w_X0_told l1 M post) : MtI ω yX0_told cX0_told 2 (some .int) 0 [.ref (adr ω 40), .int l1] M post := by
  refine MtI.start (ty := .int) rfl (by decide +kernel) (own := RX0) rfl (Nat.le_of_ble_eq_true rfl) (fun ρ C R => ?_)
  show G ω ρ M 0 [(0, .ref (adr ω 40)), (1, .int l1)] []
  refine G_aload_n C dX0_told_0 0 rfl ?_
  refine gf_X0_9 C dX0_told_1 ?_
  refine G_bipush (v := (-4)) C dX0_told_4 (by decide) ?_
  obtain ⟨h1, h2⟩ := h
  refine G_icmp_ne (tgt := 12) C dX0_told_6 (by decide) (fun c => ?_) (fun c => ?_)
  · have h := h1 c
    clear h1 h2
    refine G_iload_n C dX0_told_12 1 rfl ?_
    obtain ⟨h1, h2⟩ := h
    refine G_if_ne (tgt := 23) C dX0_told_13 (by decide) (fun c => ?_) (fun c => ?_)
    · have h := h1 c
      clear h1 h2
      refine G_aload_n C dX0_told_23 0 rfl ?_
      refine gf_X0_15 C dX0_told_24 ?_
      exact R 27 _ _ _ dX0_told_27 rfl h
    · have h := h2 c
      clear h1 h2
      refine G_aload_n C dX0_told_16 0 rfl ?_
      refine gf_X0_9 C dX0_told_17 ?_
      refine G_goto (tgt := 27) C dX0_told_20 (by decide) ?_
      exact R 27 _ _ _ dX0_told_27 rfl h
  · have h := h2 c
    clear h1 h2
    refine G_bipush (v := (-4)) C dX0_told_9 (by decide) ?_
    exact R 11 _ _ _ dX0_told_11 rfl h
theorem dX5_clear_0 : decode cX5_clear 0 = .ok (.aload_n 0, 1) := by decide +kernel
theorem dX5_clear_1 : decode cX5_clear 1 = .ok (.iconst 0, 1) := by decide +kernel
theorem dX5_clear_2 : decode cX5_clear 2 = .ok (.putfield 9, 3) := by decide +kernel
theorem dX5_clear_5 : decode cX5_clear 5 = .ok (.aload_n 0, 1) := by decide +kernel
theorem dX5_clear_6 : decode cX5_clear 6 = .ok (.iconst 0, 1) := by decide +kernel
theorem dX5_clear_7 : decode cX5_clear 7 = .ok (.putfield 15, 3) := by decide +kernel
theorem dX5_clear_10 : decode cX5_clear 10 = .ok (.return_, 1) := by decide +kernel
theorem pf_X5_9 {ω : WD} {ρ : FR} {M : Mem} {cc : ByteArray} {d n pc i : Nat} {lv : List (Nat × Value)} {rest : List Value} {v : Int32} (C : Cx ω ρ cc RX5 d n) (hk : isK 5 i) (hd : decode cc pc = .ok (.putfield 9, 3)) (k : ∀ M1, M1 = wr M i 0 v → G ω ρ M1 (pc + 3) lv rest) : G ω ρ M pc lv (.int v :: .ref (adr ω i) :: rest) := G_put (N := 6) (T := TX5) (C := RX5) (q := 0) (ty := .int) C hk (by decide) rfl in_X5 tyX5 tyX5_ok nmX5 (by decide) (tb_of 174 ⟨by decide +kernel, rfl⟩) rfl rfl (by decide +kernel) rfl rfl (fun _ _ => Nat.le_of_ble_eq_true rfl) (fun _ => rfl) hd (k _ rfl)
theorem pf_X5_15 {ω : WD} {ρ : FR} {M : Mem} {cc : ByteArray} {d n pc i : Nat} {lv : List (Nat × Value)} {rest : List Value} {v : Int32} (C : Cx ω ρ cc RX5 d n) (hk : isK 5 i) (hd : decode cc pc = .ok (.putfield 15, 3)) (k : ∀ M1, M1 = wr M i 1 v → G ω ρ M1 (pc + 3) lv rest) : G ω ρ M pc lv (.int v :: .ref (adr ω i) :: rest) := G_put (N := 6) (T := TX5) (C := RX5) (q := 1) (ty := .int) C hk (by decide) rfl in_X5 tyX5 tyX5_ok nmX5 (by decide) (tb_of 178 ⟨by decide +kernel, rfl⟩) rfl rfl (by decide +kernel) rfl rfl (fun _ _ => Nat.le_of_ble_eq_true rfl) (fun _ => rfl) hd (k _ rfl)
def w_X5_clear (x : Nat) (M : Mem) (post : Mem → Prop) : Prop := ∀ M1 : Mem, M1 = wr M x 0 0 → ∀ M2 : Mem, M2 = wr M1 x 1 0 → post M2
set_option maxRecDepth 100000 in
set_option maxHeartbeats 4000000 in
theorem S_X5_clear {ω : WD} {x : Nat} {M : Mem} {post : Mem → Prop} (hx : isK 5 x) (h : w_X5_clear x M post) : MtV ω yX5_clear cX5_clear 1 none 0 [.ref (adr ω x)] M post := by
  refine MtV.start rfl (by decide +kernel) (own := RX5) rfl (Nat.le_of_ble_eq_true rfl) (fun ρ C R => ?_)
  show G ω ρ M 0 [(0, .ref (adr ω x))] []
  refine G_aload_n C dX5_clear_0 0 rfl ?_
  refine G_iconst (v := 0) C dX5_clear_1 (by decide) ?_
  refine pf_X5_9 C hx dX5_clear_2 (fun M1 eM1 => ?_)
  replace h := h M1 eM1
  refine G_aload_n C dX5_clear_5 0 rfl ?_
  refine G_iconst (v := 0) C dX5_clear_6 (by decide) ?_
  refine pf_X5_15 C hx dX5_clear_7 (fun M2 eM2 => ?_)
  replace h := h M2 eM2
  exact R 10 _ _ dX5_clear_10 h
theorem dX5_copyFrom_0 : decode cX5_copyFrom 0 = .ok (.aload_n 0, 1) := by decide +kernel
theorem dX5_copyFrom_1 : decode cX5_copyFrom 1 = .ok (.aload_n 1, 1) := by decide +kernel
theorem dX5_copyFrom_2 : decode cX5_copyFrom 2 = .ok (.getfield 9, 3) := by decide +kernel
theorem dX5_copyFrom_5 : decode cX5_copyFrom 5 = .ok (.putfield 9, 3) := by decide +kernel
theorem dX5_copyFrom_8 : decode cX5_copyFrom 8 = .ok (.aload_n 0, 1) := by decide +kernel
theorem dX5_copyFrom_9 : decode cX5_copyFrom 9 = .ok (.aload_n 1, 1) := by decide +kernel
theorem dX5_copyFrom_10 : decode cX5_copyFrom 10 = .ok (.getfield 15, 3) := by decide +kernel
theorem dX5_copyFrom_13 : decode cX5_copyFrom 13 = .ok (.putfield 15, 3) := by decide +kernel
theorem dX5_copyFrom_16 : decode cX5_copyFrom 16 = .ok (.iconst 0, 1) := by decide +kernel
theorem dX5_copyFrom_17 : decode cX5_copyFrom 17 = .ok (.istore_n 2, 1) := by decide +kernel
theorem dX5_copyFrom_18 : decode cX5_copyFrom 18 = .ok (.iload_n 2, 1) := by decide +kernel
theorem dX5_copyFrom_19 : decode cX5_copyFrom 19 = .ok (.aload_n 0, 1) := by decide +kernel
theorem dX5_copyFrom_20 : decode cX5_copyFrom 20 = .ok (.getfield 9, 3) := by decide +kernel
theorem dX5_copyFrom_23 : decode cX5_copyFrom 23 = .ok (.if_icmp .ge 33, 3) := by decide +kernel
theorem dX5_copyFrom_26 : decode cX5_copyFrom 26 = .ok (.aload_n 0, 1) := by decide +kernel
theorem dX5_copyFrom_27 : decode cX5_copyFrom 27 = .ok (.getfield 18, 3) := by decide +kernel
theorem dX5_copyFrom_30 : decode cX5_copyFrom 30 = .ok (.iload_n 2, 1) := by decide +kernel
theorem dX5_copyFrom_31 : decode cX5_copyFrom 31 = .ok (.aload_n 1, 1) := by decide +kernel
theorem dX5_copyFrom_32 : decode cX5_copyFrom 32 = .ok (.getfield 18, 3) := by decide +kernel
theorem dX5_copyFrom_35 : decode cX5_copyFrom 35 = .ok (.iload_n 2, 1) := by decide +kernel
theorem dX5_copyFrom_36 : decode cX5_copyFrom 36 = .ok (.iaload, 1) := by decide +kernel
theorem dX5_copyFrom_37 : decode cX5_copyFrom 37 = .ok (.iastore, 1) := by decide +kernel
theorem dX5_copyFrom_38 : decode cX5_copyFrom 38 = .ok (.aload_n 0, 1) := by decide +kernel
theorem dX5_copyFrom_39 : decode cX5_copyFrom 39 = .ok (.getfield 22, 3) := by decide +kernel
theorem dX5_copyFrom_42 : decode cX5_copyFrom 42 = .ok (.iload_n 2, 1) := by decide +kernel
theorem dX5_copyFrom_43 : decode cX5_copyFrom 43 = .ok (.aload_n 1, 1) := by decide +kernel
theorem dX5_copyFrom_44 : decode cX5_copyFrom 44 = .ok (.getfield 22, 3) := by decide +kernel
theorem dX5_copyFrom_47 : decode cX5_copyFrom 47 = .ok (.iload_n 2, 1) := by decide +kernel
theorem dX5_copyFrom_48 : decode cX5_copyFrom 48 = .ok (.iaload, 1) := by decide +kernel
theorem dX5_copyFrom_49 : decode cX5_copyFrom 49 = .ok (.iastore, 1) := by decide +kernel
theorem dX5_copyFrom_50 : decode cX5_copyFrom 50 = .ok (.iinc 2 1, 3) := by decide +kernel
theorem dX5_copyFrom_53 : decode cX5_copyFrom 53 = .ok (.goto (-35), 3) := by decide +kernel
theorem dX5_copyFrom_56 : decode cX5_copyFrom 56 = .ok (.iconst 0, 1) := by decide +kernel
theorem dX5_copyFrom_57 : decode cX5_copyFrom 57 = .ok (.istore_n 2, 1) := by decide +kernel
theorem dX5_copyFrom_58 : decode cX5_copyFrom 58 = .ok (.iload_n 2, 1) := by decide +kernel
theorem dX5_copyFrom_59 : decode cX5_copyFrom 59 = .ok (.aload_n 0, 1) := by decide +kernel
theorem dX5_copyFrom_60 : decode cX5_copyFrom 60 = .ok (.getfield 15, 3) := by decide +kernel
theorem dX5_copyFrom_63 : decode cX5_copyFrom 63 = .ok (.if_icmp .ge 33, 3) := by decide +kernel
theorem dX5_copyFrom_66 : decode cX5_copyFrom 66 = .ok (.aload_n 0, 1) := by decide +kernel
theorem dX5_copyFrom_67 : decode cX5_copyFrom 67 = .ok (.getfield 25, 3) := by decide +kernel
theorem dX5_copyFrom_70 : decode cX5_copyFrom 70 = .ok (.iload_n 2, 1) := by decide +kernel
theorem dX5_copyFrom_71 : decode cX5_copyFrom 71 = .ok (.aload_n 1, 1) := by decide +kernel
theorem dX5_copyFrom_72 : decode cX5_copyFrom 72 = .ok (.getfield 25, 3) := by decide +kernel
theorem dX5_copyFrom_75 : decode cX5_copyFrom 75 = .ok (.iload_n 2, 1) := by decide +kernel
theorem dX5_copyFrom_76 : decode cX5_copyFrom 76 = .ok (.iaload, 1) := by decide +kernel
theorem dX5_copyFrom_77 : decode cX5_copyFrom 77 = .ok (.iastore, 1) := by decide +kernel
theorem dX5_copyFrom_78 : decode cX5_copyFrom 78 = .ok (.aload_n 0, 1) := by decide +kernel
theorem dX5_copyFrom_79 : decode cX5_copyFrom 79 = .ok (.getfield 28, 3) := by decide +kernel
theorem dX5_copyFrom_82 : decode cX5_copyFrom 82 = .ok (.iload_n 2, 1) := by decide +kernel
theorem dX5_copyFrom_83 : decode cX5_copyFrom 83 = .ok (.aload_n 1, 1) := by decide +kernel
theorem dX5_copyFrom_84 : decode cX5_copyFrom 84 = .ok (.getfield 28, 3) := by decide +kernel
theorem dX5_copyFrom_87 : decode cX5_copyFrom 87 = .ok (.iload_n 2, 1) := by decide +kernel
theorem dX5_copyFrom_88 : decode cX5_copyFrom 88 = .ok (.iaload, 1) := by decide +kernel
theorem dX5_copyFrom_89 : decode cX5_copyFrom 89 = .ok (.iastore, 1) := by decide +kernel
theorem dX5_copyFrom_90 : decode cX5_copyFrom 90 = .ok (.iinc 2 1, 3) := by decide +kernel
theorem dX5_copyFrom_93 : decode cX5_copyFrom 93 = .ok (.goto (-35), 3) := by decide +kernel
theorem dX5_copyFrom_96 : decode cX5_copyFrom 96 = .ok (.return_, 1) := by decide +kernel
theorem gf_X5_15 {ω : WD} {ρ : FR} {M : Mem} {cc : ByteArray} {d n pc i : Nat} {lv : List (Nat × Value)} {rest : List Value} (C : Cx ω ρ cc RX5 d n) (hk : isK 5 i) (hd : decode cc pc = .ok (.getfield 15, 3)) (k : G ω ρ M (pc + 3) lv (.int (rd M i 1) :: rest)) : G ω ρ M pc lv (.ref (adr ω i) :: rest) := G_get (N := 6) (T := TX5) (C := RX5) (q := 1) C hk (by decide) rfl in_X5 (by decide) (tb_of 178 ⟨by decide +kernel, rfl⟩) rfl rfl hd k
theorem gf_X5_25 {ω : WD} {ρ : FR} {M : Mem} {cc : ByteArray} {d n pc i : Nat} {lv : List (Nat × Value)} {rest : List Value} (C : Cx ω ρ cc RX5 d n) (hk : isK 5 i) (hd : decode cc pc = .ok (.getfield 25, 3)) (k : G ω ρ M (pc + 3) lv (.ref (adr ω (i + 3)) :: rest)) : G ω ρ M pc lv (.ref (adr ω i) :: rest) := G_get (N := 6) (T := TX5) (C := RX5) (q := 4) C hk (by decide) rfl in_X5 (by decide) (tb_of 188 ⟨by decide +kernel, rfl⟩) rfl rfl hd k
theorem gf_X5_28 {ω : WD} {ρ : FR} {M : Mem} {cc : ByteArray} {d n pc i : Nat} {lv : List (Nat × Value)} {rest : List Value} (C : Cx ω ρ cc RX5 d n) (hk : isK 5 i) (hd : decode cc pc = .ok (.getfield 28, 3)) (k : G ω ρ M (pc + 3) lv (.ref (adr ω (i + 4)) :: rest)) : G ω ρ M pc lv (.ref (adr ω i) :: rest) := G_get (N := 6) (T := TX5) (C := RX5) (q := 5) C hk (by decide) rfl in_X5 (by decide) (tb_of 191 ⟨by decide +kernel, rfl⟩) rfl rfl hd k
theorem gf_X5_9 {ω : WD} {ρ : FR} {M : Mem} {cc : ByteArray} {d n pc i : Nat} {lv : List (Nat × Value)} {rest : List Value} (C : Cx ω ρ cc RX5 d n) (hk : isK 5 i) (hd : decode cc pc = .ok (.getfield 9, 3)) (k : G ω ρ M (pc + 3) lv (.int (rd M i 0) :: rest)) : G ω ρ M pc lv (.ref (adr ω i) :: rest) := G_get (N := 6) (T := TX5) (C := RX5) (q := 0) C hk (by decide) rfl in_X5 (by decide) (tb_of 174 ⟨by decide +kernel, rfl⟩) rfl rfl hd k
theorem gf_X5_18 {ω : WD} {ρ : FR} {M : Mem} {cc : ByteArray} {d n pc i : Nat} {lv : List (Nat × Value)} {rest : List Value} (C : Cx ω ρ cc RX5 d n) (hk : isK 5 i) (hd : decode cc pc = .ok (.getfield 18, 3)) (k : G ω ρ M (pc + 3) lv (.ref (adr ω (i + 1)) :: rest)) : G ω ρ M pc lv (.ref (adr ω i) :: rest) := G_get (N := 6) (T := TX5) (C := RX5) (q := 2) C hk (by decide) rfl in_X5 (by decide) (tb_of 181 ⟨by decide +kernel, rfl⟩) rfl rfl hd k
theorem gf_X5_22 {ω : WD} {ρ : FR} {M : Mem} {cc : ByteArray} {d n pc i : Nat} {lv : List (Nat × Value)} {rest : List Value} (C : Cx ω ρ cc RX5 d n) (hk : isK 5 i) (hd : decode cc pc = .ok (.getfield 22, 3)) (k : G ω ρ M (pc + 3) lv (.ref (adr ω (i + 2)) :: rest)) : G ω ρ M pc lv (.ref (adr ω i) :: rest) := G_get (N := 6) (T := TX5) (C := RX5) (q := 3) C hk (by decide) rfl in_X5 (by decide) (tb_of 185 ⟨by decide +kernel, rfl⟩) rfl rfl hd k
def w_X5_copyFrom_L58 (x : Nat) (y : Nat) (post : Mem → Prop) : Nat → Int32 → Mem → Prop
  | 0, _, _ => False
  | f + 1, l2, M => (((rd M x 1) ≤ l2 → post M) ∧ (¬ (rd M x 1) ≤ l2 → vp_in l2 6 ∧ (vp_in l2 6 ∧ (∀ M1 : Mem, M1 = wr M (x + 3) l2.toNatClampNeg (rd M (y + 3) l2.toNatClampNeg) → vp_in l2 6 ∧ (vp_in l2 6 ∧ (∀ M2 : Mem, M2 = wr M1 (x + 4) l2.toNatClampNeg (rd M1 (y + 4) l2.toNatClampNeg) → ∀ v3 : Int32, v3 = (l2 + 1) → (w_X5_copyFrom_L58 x y post f) v3 M2))))))
set_option maxRecDepth 100000 in
set_option maxHeartbeats 4000000 in
theorem s_X5_copyFrom_L58 {ω : WD} {ρ : FR} {post : Mem → Prop} (C : Cx ω ρ cX5_copyFrom RX5 0 3) (R : RtV ω ρ cX5_copyFrom post) {x : Nat} {y : Nat} (hx : isK 5 x) (hy : isK 5 y) : ∀ (f : Nat) (l2 : Int32) (M : Mem), w_X5_copyFrom_L58 x y post f l2 M → G ω ρ M 58 [(0, .ref (adr ω x)), (1, .ref (adr ω y)), (2, .int l2)] [] := by
  intro f
  induction f with
  | zero => intro l2 M h; exact False.elim h
  | succ f k58 =>
    intro l2 M h
    refine G_iload_n C dX5_copyFrom_58 2 rfl ?_
    refine G_aload_n C dX5_copyFrom_59 0 rfl ?_
    refine gf_X5_15 C hx dX5_copyFrom_60 ?_
    obtain ⟨h1, h2⟩ := h
    refine G_icmp_ge (tgt := 96) C dX5_copyFrom_63 (by decide) (fun c => ?_) (fun c => ?_)
    · have h := h1 c
      clear h1 h2
      exact R 96 _ _ dX5_copyFrom_96 h
    · have h := h2 c
      clear h1 h2
      refine G_aload_n C dX5_copyFrom_66 0 rfl ?_
      refine gf_X5_25 C hx dX5_copyFrom_67 ?_
      refine G_iload_n C dX5_copyFrom_70 2 rfl ?_
      refine G_aload_n C dX5_copyFrom_71 1 rfl ?_
      refine gf_X5_25 C hy dX5_copyFrom_72 ?_
      refine G_iload_n C dX5_copyFrom_75 2 rfl ?_
      obtain ⟨hi, h⟩ := h
      refine G_iald C (st_5_4 hy) hi dX5_copyFrom_76 ?_
      obtain ⟨hi, h⟩ := h
      refine G_iast C (st_5_4 hx) hi dX5_copyFrom_77 (G_mname (fun M1 eM1 => ?_))
      replace h := h M1 eM1
      refine G_aload_n C dX5_copyFrom_78 0 rfl ?_
      refine gf_X5_28 C hx dX5_copyFrom_79 ?_
      refine G_iload_n C dX5_copyFrom_82 2 rfl ?_
      refine G_aload_n C dX5_copyFrom_83 1 rfl ?_
      refine gf_X5_28 C hy dX5_copyFrom_84 ?_
      refine G_iload_n C dX5_copyFrom_87 2 rfl ?_
      obtain ⟨hi, h⟩ := h
      refine G_iald C (st_5_5 hy) hi dX5_copyFrom_88 ?_
      obtain ⟨hi, h⟩ := h
      refine G_iast C (st_5_5 hx) hi dX5_copyFrom_89 (G_mname (fun M2 eM2 => ?_))
      replace h := h M2 eM2
      obtain ⟨v3, ev3⟩ : ∃ y : Int32, y = (l2 + 1) := ⟨_, rfl⟩
      replace h := h v3 ev3
      refine G_iinc C dX5_copyFrom_90 2 rfl (v := v3) (by rw [ev3]; rfl) (by decide) (lv' := [(2, .int v3), (0, .ref (adr ω x)), (1, .ref (adr ω y))]) rfl ?_
      refine G_goto (tgt := 58) C dX5_copyFrom_93 (by decide) ?_
      refine G_sub [1, 2, 0] (lv' := [(0, .ref (adr ω x)), (1, .ref (adr ω y)), (2, .int v3)]) rfl ?_
      exact k58 _ _ h
def w_X5_copyFrom_L18 (x : Nat) (y : Nat) (post : Mem → Prop) : Nat → Int32 → Mem → Prop
  | 0, _, _ => False
  | f + 1, l2, M => (((rd M x 0) ≤ l2 → ∃ g58 : Nat, w_X5_copyFrom_L58 x y post g58 0 M) ∧ (¬ (rd M x 0) ≤ l2 → vp_in l2 8 ∧ (vp_in l2 8 ∧ (∀ M4 : Mem, M4 = wr M (x + 1) l2.toNatClampNeg (rd M (y + 1) l2.toNatClampNeg) → vp_in l2 8 ∧ (vp_in l2 8 ∧ (∀ M5 : Mem, M5 = wr M4 (x + 2) l2.toNatClampNeg (rd M4 (y + 2) l2.toNatClampNeg) → ∀ v6 : Int32, v6 = (l2 + 1) → (w_X5_copyFrom_L18 x y post f) v6 M5))))))
set_option maxRecDepth 100000 in
set_option maxHeartbeats 4000000 in
theorem s_X5_copyFrom_L18 {ω : WD} {ρ : FR} {post : Mem → Prop} (C : Cx ω ρ cX5_copyFrom RX5 0 3) (R : RtV ω ρ cX5_copyFrom post) {x : Nat} {y : Nat} (hx : isK 5 x) (hy : isK 5 y) : ∀ (f : Nat) (l2 : Int32) (M : Mem), w_X5_copyFrom_L18 x y post f l2 M → G ω ρ M 18 [(0, .ref (adr ω x)), (1, .ref (adr ω y)), (2, .int l2)] [] := by
  intro f
  induction f with
  | zero => intro l2 M h; exact False.elim h
  | succ f k18 =>
    intro l2 M h
    refine G_iload_n C dX5_copyFrom_18 2 rfl ?_
    refine G_aload_n C dX5_copyFrom_19 0 rfl ?_
    refine gf_X5_9 C hx dX5_copyFrom_20 ?_
    obtain ⟨h1, h2⟩ := h
    refine G_icmp_ge (tgt := 56) C dX5_copyFrom_23 (by decide) (fun c => ?_) (fun c => ?_)
    · have h := h1 c
      clear h1 h2
      refine G_iconst (v := 0) C dX5_copyFrom_56 (by decide) ?_
      refine G_istore_n C dX5_copyFrom_57 (by decide) (lv' := [(2, .int 0), (0, .ref (adr ω x)), (1, .ref (adr ω y))]) rfl ?_
      refine G_sub [1, 2, 0] (lv' := [(0, .ref (adr ω x)), (1, .ref (adr ω y)), (2, .int 0)]) rfl ?_
      obtain ⟨f, h⟩ := h
      exact s_X5_copyFrom_L58 C R hx hy f _ _ h
    · have h := h2 c
      clear h1 h2
      refine G_aload_n C dX5_copyFrom_26 0 rfl ?_
      refine gf_X5_18 C hx dX5_copyFrom_27 ?_
      refine G_iload_n C dX5_copyFrom_30 2 rfl ?_
      refine G_aload_n C dX5_copyFrom_31 1 rfl ?_
      refine gf_X5_18 C hy dX5_copyFrom_32 ?_
      refine G_iload_n C dX5_copyFrom_35 2 rfl ?_
      obtain ⟨hi, h⟩ := h
      refine G_iald C (st_5_2 hy) hi dX5_copyFrom_36 ?_
      obtain ⟨hi, h⟩ := h
      refine G_iast C (st_5_2 hx) hi dX5_copyFrom_37 (G_mname (fun M4 eM4 => ?_))
      replace h := h M4 eM4
      refine G_aload_n C dX5_copyFrom_38 0 rfl ?_
      refine gf_X5_22 C hx dX5_copyFrom_39 ?_
      refine G_iload_n C dX5_copyFrom_42 2 rfl ?_
      refine G_aload_n C dX5_copyFrom_43 1 rfl ?_
      refine gf_X5_22 C hy dX5_copyFrom_44 ?_
      refine G_iload_n C dX5_copyFrom_47 2 rfl ?_
      obtain ⟨hi, h⟩ := h
      refine G_iald C (st_5_3 hy) hi dX5_copyFrom_48 ?_
      obtain ⟨hi, h⟩ := h
      refine G_iast C (st_5_3 hx) hi dX5_copyFrom_49 (G_mname (fun M5 eM5 => ?_))
      replace h := h M5 eM5
      obtain ⟨v6, ev6⟩ : ∃ y : Int32, y = (l2 + 1) := ⟨_, rfl⟩
      replace h := h v6 ev6
      refine G_iinc C dX5_copyFrom_50 2 rfl (v := v6) (by rw [ev6]; rfl) (by decide) (lv' := [(2, .int v6), (0, .ref (adr ω x)), (1, .ref (adr ω y))]) rfl ?_
      refine G_goto (tgt := 18) C dX5_copyFrom_53 (by decide) ?_
      refine G_sub [1, 2, 0] (lv' := [(0, .ref (adr ω x)), (1, .ref (adr ω y)), (2, .int v6)]) rfl ?_
      exact k18 _ _ h
def w_X5_copyFrom (x : Nat) (y : Nat) (M : Mem) (post : Mem → Prop) : Prop := ∀ M7 : Mem, M7 = wr M x 0 (rd M y 0) → ∀ M8 : Mem, M8 = wr M7 x 1 (rd M7 y 1) → ∃ g18 : Nat, w_X5_copyFrom_L18 x y post g18 0 M8
set_option maxRecDepth 100000 in
set_option maxHeartbeats 4000000 in
theorem S_X5_copyFrom {ω : WD} {x : Nat} {y : Nat} {M : Mem} {post : Mem → Prop} (hx : isK 5 x) (hy : isK 5 y) (h : w_X5_copyFrom x y M post) : MtV ω yX5_copyFrom cX5_copyFrom 3 none 0 [.ref (adr ω x), .ref (adr ω y)] M post := by
  refine MtV.start rfl (by decide +kernel) (own := RX5) rfl (Nat.le_of_ble_eq_true rfl) (fun ρ C R => ?_)
  show G ω ρ M 0 [(0, .ref (adr ω x)), (1, .ref (adr ω y))] []
  refine G_aload_n C dX5_copyFrom_0 0 rfl ?_
  refine G_aload_n C dX5_copyFrom_1 1 rfl ?_
  refine gf_X5_9 C hy dX5_copyFrom_2 ?_
  refine pf_X5_9 C hx dX5_copyFrom_5 (fun M7 eM7 => ?_)
  replace h := h M7 eM7
  refine G_aload_n C dX5_copyFrom_8 0 rfl ?_
  refine G_aload_n C dX5_copyFrom_9 1 rfl ?_
  refine gf_X5_15 C hy dX5_copyFrom_10 ?_
  refine pf_X5_15 C hx dX5_copyFrom_13 (fun M8 eM8 => ?_)
  replace h := h M8 eM8
  refine G_iconst (v := 0) C dX5_copyFrom_16 (by decide) ?_
  refine G_istore_n C dX5_copyFrom_17 (by decide) (lv' := [(2, .int 0), (0, .ref (adr ω x)), (1, .ref (adr ω y))]) rfl ?_
  refine G_sub [1, 2, 0] (lv' := [(0, .ref (adr ω x)), (1, .ref (adr ω y)), (2, .int 0)]) rfl ?_
  obtain ⟨f, h⟩ := h
  exact s_X5_copyFrom_L18 C R hx hy f _ _ h
theorem dX5_addAct_0 : decode cX5_addAct 0 = .ok (.aload_n 0, 1) := by decide +kernel
theorem dX5_addAct_1 : decode cX5_addAct 1 = .ok (.getfield 18, 3) := by decide +kernel
theorem dX5_addAct_4 : decode cX5_addAct 4 = .ok (.aload_n 0, 1) := by decide +kernel
theorem dX5_addAct_5 : decode cX5_addAct 5 = .ok (.getfield 9, 3) := by decide +kernel
theorem dX5_addAct_8 : decode cX5_addAct 8 = .ok (.iload_n 1, 1) := by decide +kernel
theorem dX5_addAct_9 : decode cX5_addAct 9 = .ok (.iastore, 1) := by decide +kernel
theorem dX5_addAct_10 : decode cX5_addAct 10 = .ok (.aload_n 0, 1) := by decide +kernel
theorem dX5_addAct_11 : decode cX5_addAct 11 = .ok (.getfield 22, 3) := by decide +kernel
theorem dX5_addAct_14 : decode cX5_addAct 14 = .ok (.aload_n 0, 1) := by decide +kernel
theorem dX5_addAct_15 : decode cX5_addAct 15 = .ok (.getfield 9, 3) := by decide +kernel
theorem dX5_addAct_18 : decode cX5_addAct 18 = .ok (.iload_n 2, 1) := by decide +kernel
theorem dX5_addAct_19 : decode cX5_addAct 19 = .ok (.iastore, 1) := by decide +kernel
theorem dX5_addAct_20 : decode cX5_addAct 20 = .ok (.aload_n 0, 1) := by decide +kernel
theorem dX5_addAct_21 : decode cX5_addAct 21 = .ok (.dup, 1) := by decide +kernel
theorem dX5_addAct_22 : decode cX5_addAct 22 = .ok (.getfield 9, 3) := by decide +kernel
theorem dX5_addAct_25 : decode cX5_addAct 25 = .ok (.iconst 1, 1) := by decide +kernel
theorem dX5_addAct_26 : decode cX5_addAct 26 = .ok (.iadd, 1) := by decide +kernel
theorem dX5_addAct_27 : decode cX5_addAct 27 = .ok (.putfield 9, 3) := by decide +kernel
theorem dX5_addAct_30 : decode cX5_addAct 30 = .ok (.return_, 1) := by decide +kernel
def w_X5_addAct (x : Nat) (l1 : Int32) (l2 : Int32) (M : Mem) (post : Mem → Prop) : Prop := vp_in (rd M x 0) 8 ∧ (∀ M1 : Mem, M1 = wr M (x + 1) (rd M x 0).toNatClampNeg l1 → vp_in (rd M1 x 0) 8 ∧ (∀ M2 : Mem, M2 = wr M1 (x + 2) (rd M1 x 0).toNatClampNeg l2 → ∀ M3 : Mem, M3 = wr M2 x 0 ((rd M2 x 0) + 1) → post M3))
set_option maxRecDepth 100000 in
set_option maxHeartbeats 4000000 in
theorem S_X5_addAct {ω : WD} {x : Nat} {l1 : Int32} {l2 : Int32} {M : Mem} {post : Mem → Prop} (hx : isK 5 x) (h : w_X5_addAct x l1 l2 M post) : MtV ω yX5_addAct cX5_addAct 3 none 0 [.ref (adr ω x), .int l1, .int l2] M post := by
  refine MtV.start rfl (by decide +kernel) (own := RX5) rfl (Nat.le_of_ble_eq_true rfl) (fun ρ C R => ?_)
  show G ω ρ M 0 [(0, .ref (adr ω x)), (1, .int l1), (2, .int l2)] []
  refine G_aload_n C dX5_addAct_0 0 rfl ?_
  refine gf_X5_18 C hx dX5_addAct_1 ?_
  refine G_aload_n C dX5_addAct_4 0 rfl ?_
  refine gf_X5_9 C hx dX5_addAct_5 ?_
  refine G_iload_n C dX5_addAct_8 1 rfl ?_
  obtain ⟨hi, h⟩ := h
  refine G_iast C (st_5_2 hx) hi dX5_addAct_9 (G_mname (fun M1 eM1 => ?_))
  replace h := h M1 eM1
  refine G_aload_n C dX5_addAct_10 0 rfl ?_
  refine gf_X5_22 C hx dX5_addAct_11 ?_
  refine G_aload_n C dX5_addAct_14 0 rfl ?_
  refine gf_X5_9 C hx dX5_addAct_15 ?_
  refine G_iload_n C dX5_addAct_18 2 rfl ?_
  obtain ⟨hi, h⟩ := h
  refine G_iast C (st_5_3 hx) hi dX5_addAct_19 (G_mname (fun M2 eM2 => ?_))
  replace h := h M2 eM2
  refine G_aload_n C dX5_addAct_20 0 rfl ?_
  refine G_dup C dX5_addAct_21 rfl ?_
  refine gf_X5_9 C hx dX5_addAct_22 ?_
  refine G_iconst (v := 1) C dX5_addAct_25 (by decide) ?_
  refine G_iadd C dX5_addAct_26 ?_
  refine pf_X5_9 C hx dX5_addAct_27 (fun M3 eM3 => ?_)
  replace h := h M3 eM3
  exact R 30 _ _ dX5_addAct_30 h
theorem dX5_dials_0 : decode cX5_dials 0 = .ok (.iconst 0, 1) := by decide +kernel
theorem dX5_dials_1 : decode cX5_dials 1 = .ok (.istore_n 1, 1) := by decide +kernel
theorem dX5_dials_2 : decode cX5_dials 2 = .ok (.iconst 0, 1) := by decide +kernel
theorem dX5_dials_3 : decode cX5_dials 3 = .ok (.istore_n 2, 1) := by decide +kernel
theorem dX5_dials_4 : decode cX5_dials 4 = .ok (.iload_n 2, 1) := by decide +kernel
theorem dX5_dials_5 : decode cX5_dials 5 = .ok (.aload_n 0, 1) := by decide +kernel
theorem dX5_dials_6 : decode cX5_dials 6 = .ok (.getfield 9, 3) := by decide +kernel
theorem dX5_dials_9 : decode cX5_dials 9 = .ok (.if_icmp .ge 26, 3) := by decide +kernel
theorem dX5_dials_12 : decode cX5_dials 12 = .ok (.aload_n 0, 1) := by decide +kernel
theorem dX5_dials_13 : decode cX5_dials 13 = .ok (.getfield 22, 3) := by decide +kernel
theorem dX5_dials_16 : decode cX5_dials 16 = .ok (.iload_n 2, 1) := by decide +kernel
theorem dX5_dials_17 : decode cX5_dials 17 = .ok (.iaload, 1) := by decide +kernel
theorem dX5_dials_18 : decode cX5_dials 18 = .ok (.bipush 99, 2) := by decide +kernel
theorem dX5_dials_20 : decode cX5_dials 20 = .ok (.if_icmp .eq 9, 3) := by decide +kernel
theorem dX5_dials_23 : decode cX5_dials 23 = .ok (.iload_n 1, 1) := by decide +kernel
theorem dX5_dials_24 : decode cX5_dials 24 = .ok (.iconst 1, 1) := by decide +kernel
theorem dX5_dials_25 : decode cX5_dials 25 = .ok (.iload_n 2, 1) := by decide +kernel
theorem dX5_dials_26 : decode cX5_dials 26 = .ok (.ishl, 1) := by decide +kernel
theorem dX5_dials_27 : decode cX5_dials 27 = .ok (.ior, 1) := by decide +kernel
theorem dX5_dials_28 : decode cX5_dials 28 = .ok (.istore_n 1, 1) := by decide +kernel
theorem dX5_dials_29 : decode cX5_dials 29 = .ok (.iinc 2 1, 3) := by decide +kernel
theorem dX5_dials_32 : decode cX5_dials 32 = .ok (.goto (-28), 3) := by decide +kernel
theorem dX5_dials_35 : decode cX5_dials 35 = .ok (.iload_n 1, 1) := by decide +kernel
theorem dX5_dials_36 : decode cX5_dials 36 = .ok (.ireturn, 1) := by decide +kernel
def w_X5_dials_J29 (x : Nat) (post : Int32 → Mem → Prop) (K4 : Int32 → Int32 → Mem → Prop) (l1 : Int32) (l2 : Int32) (M : Mem) : Prop := ∀ v1 : Int32, v1 = (l2 + 1) → K4 l1 v1 M
set_option maxRecDepth 100000 in
set_option maxHeartbeats 4000000 in
theorem s_X5_dials_J29 {ω : WD} {ρ : FR} {post : Int32 → Mem → Prop} (C : Cx ω ρ cX5_dials RX5 0 3) (R : RtI ω ρ cX5_dials .int post) {x : Nat} (hx : isK 5 x) {K4 : Int32 → Int32 → Mem → Prop} {l1 : Int32} {l2 : Int32} (k4 : ∀ (u1 : Int32) (u2 : Int32) (M : Mem), K4 u1 u2 M → G ω ρ M 4 [(0, .ref (adr ω x)), (1, .int u1), (2, .int u2)] []) {M : Mem} (h : w_X5_dials_J29 x post K4 l1 l2 M) : G ω ρ M 29 [(0, .ref (adr ω x)), (1, .int l1), (2, .int l2)] [] := by
  obtain ⟨v1, ev1⟩ : ∃ y : Int32, y = (l2 + 1) := ⟨_, rfl⟩
  replace h := h v1 ev1
  refine G_iinc C dX5_dials_29 2 rfl (v := v1) (by rw [ev1]; rfl) (by decide) (lv' := [(2, .int v1), (0, .ref (adr ω x)), (1, .int l1)]) rfl ?_
  refine G_goto (tgt := 4) C dX5_dials_32 (by decide) ?_
  refine G_sub [1, 2, 0] (lv' := [(0, .ref (adr ω x)), (1, .int l1), (2, .int v1)]) rfl ?_
  exact k4 _ _ _ h
def w_X5_dials_L4 (x : Nat) (post : Int32 → Mem → Prop) : Nat → Int32 → Int32 → Mem → Prop
  | 0, _, _, _ => False
  | f + 1, l1, l2, M => (((rd M x 0) ≤ l2 → post l1 M) ∧ (¬ (rd M x 0) ≤ l2 → vp_in l2 8 ∧ ((((rd M (x + 2) l2.toNatClampNeg) = 99 → w_X5_dials_J29 x post (w_X5_dials_L4 x post f) l1 l2 M) ∧ (¬ (rd M (x + 2) l2.toNatClampNeg) = 99 → ∀ v2 : Int32, v2 = (l1 ||| (ishl 1 l2)) → w_X5_dials_J29 x post (w_X5_dials_L4 x post f) v2 l2 M)))))
set_option maxRecDepth 100000 in
set_option maxHeartbeats 4000000 in
theorem s_X5_dials_L4 {ω : WD} {ρ : FR} {post : Int32 → Mem → Prop} (C : Cx ω ρ cX5_dials RX5 0 3) (R : RtI ω ρ cX5_dials .int post) {x : Nat} (hx : isK 5 x) : ∀ (f : Nat) (l1 : Int32) (l2 : Int32) (M : Mem), w_X5_dials_L4 x post f l1 l2 M → G ω ρ M 4 [(0, .ref (adr ω x)), (1, .int l1), (2, .int l2)] [] := by
  intro f
  induction f with
  | zero => intro l1 l2 M h; exact False.elim h
  | succ f k4 =>
    intro l1 l2 M h
    refine G_iload_n C dX5_dials_4 2 rfl ?_
    refine G_aload_n C dX5_dials_5 0 rfl ?_
    refine gf_X5_9 C hx dX5_dials_6 ?_
    obtain ⟨h1, h2⟩ := h
    refine G_icmp_ge (tgt := 35) C dX5_dials_9 (by decide) (fun c => ?_) (fun c => ?_)
    · have h := h1 c
      clear h1 h2
      refine G_iload_n C dX5_dials_35 1 rfl ?_
      exact R 36 _ _ _ dX5_dials_36 rfl h
    · have h := h2 c
      clear h1 h2
      refine G_aload_n C dX5_dials_12 0 rfl ?_
      refine gf_X5_22 C hx dX5_dials_13 ?_
      refine G_iload_n C dX5_dials_16 2 rfl ?_
      obtain ⟨hi, h⟩ := h
      refine G_iald C (st_5_3 hx) hi dX5_dials_17 ?_
      refine G_bipush (v := 99) C dX5_dials_18 (by decide) ?_
      obtain ⟨h1, h2⟩ := h
      refine G_icmp_eq (tgt := 29) C dX5_dials_20 (by decide) (fun c => ?_) (fun c => ?_)
      · have h := h1 c
        clear h1 h2
        exact s_X5_dials_J29 C R hx k4 h
      · have h := h2 c
        clear h1 h2
        refine G_iload_n C dX5_dials_23 1 rfl ?_
        refine G_iconst (v := 1) C dX5_dials_24 (by decide) ?_
        refine G_iload_n C dX5_dials_25 2 rfl ?_
        refine G_ishl C dX5_dials_26 ?_
        refine G_ior C dX5_dials_27 ?_
        refine G_iname (fun v2 ev2 => ?_)
        replace h := h v2 ev2
        refine G_istore_n C dX5_dials_28 (by decide) (lv' := [(1, .int v2), (0, .ref (adr ω x)), (2, .int l2)]) rfl ?_
        refine G_sub [1, 0, 2] (lv' := [(0, .ref (adr ω x)), (1, .int v2), (2, .int l2)]) rfl ?_
        exact s_X5_dials_J29 C R hx k4 h
def w_X5_dials (x : Nat) (M : Mem) (post : Int32 → Mem → Prop) : Prop := ∃ g4 : Nat, w_X5_dials_L4 x post g4 0 0 M
set_option maxRecDepth 100000 in
set_option maxHeartbeats 4000000 in
theorem S_X5_dials {ω : WD} {x : Nat} {M : Mem} {post : Int32 → Mem → Prop} (hx : isK 5 x) (h : w_X5_dials x M post) : MtI ω yX5_dials cX5_dials 3 (some .int) 0 [.ref (adr ω x)] M post := by
  refine MtI.start (ty := .int) rfl (by decide +kernel) (own := RX5) rfl (Nat.le_of_ble_eq_true rfl) (fun ρ C R => ?_)
  show G ω ρ M 0 [(0, .ref (adr ω x))] []
  refine G_iconst (v := 0) C dX5_dials_0 (by decide) ?_
  refine G_istore_n C dX5_dials_1 (by decide) (lv' := [(1, .int 0), (0, .ref (adr ω x))]) rfl ?_
  refine G_iconst (v := 0) C dX5_dials_2 (by decide) ?_
  refine G_istore_n C dX5_dials_3 (by decide) (lv' := [(2, .int 0), (1, .int 0), (0, .ref (adr ω x))]) rfl ?_
  refine G_sub [2, 1, 0] (lv' := [(0, .ref (adr ω x)), (1, .int 0), (2, .int 0)]) rfl ?_
  obtain ⟨f, h⟩ := h
  exact s_X5_dials_L4 C R hx f _ _ _ h
theorem dX6_renew_0 : decode cX6_renew 0 = .ok (.aload_n 0, 1) := by decide +kernel
theorem dX6_renew_1 : decode cX6_renew 1 = .ok (.iload_n 1, 1) := by decide +kernel
theorem dX6_renew_2 : decode cX6_renew 2 = .ok (.putfield 9, 3) := by decide +kernel
theorem dX6_renew_5 : decode cX6_renew 5 = .ok (.aload_n 0, 1) := by decide +kernel
theorem dX6_renew_6 : decode cX6_renew 6 = .ok (.iload_n 2, 1) := by decide +kernel
theorem dX6_renew_7 : decode cX6_renew 7 = .ok (.putfield 15, 3) := by decide +kernel
theorem dX6_renew_10 : decode cX6_renew 10 = .ok (.iconst 0, 1) := by decide +kernel
theorem dX6_renew_11 : decode cX6_renew 11 = .ok (.istore_n 3, 1) := by decide +kernel
theorem dX6_renew_12 : decode cX6_renew 12 = .ok (.iload_n 3, 1) := by decide +kernel
theorem dX6_renew_13 : decode cX6_renew 13 = .ok (.iload_n 2, 1) := by decide +kernel
theorem dX6_renew_14 : decode cX6_renew 14 = .ok (.if_icmp .ge 16, 3) := by decide +kernel
theorem dX6_renew_17 : decode cX6_renew 17 = .ok (.aload_n 0, 1) := by decide +kernel
theorem dX6_renew_18 : decode cX6_renew 18 = .ok (.getfield 18, 3) := by decide +kernel
theorem dX6_renew_21 : decode cX6_renew 21 = .ok (.iload_n 3, 1) := by decide +kernel
theorem dX6_renew_22 : decode cX6_renew 22 = .ok (.iconst 0, 1) := by decide +kernel
theorem dX6_renew_23 : decode cX6_renew 23 = .ok (.iastore, 1) := by decide +kernel
theorem dX6_renew_24 : decode cX6_renew 24 = .ok (.iinc 3 1, 3) := by decide +kernel
theorem dX6_renew_27 : decode cX6_renew 27 = .ok (.goto (-15), 3) := by decide +kernel
theorem dX6_renew_30 : decode cX6_renew 30 = .ok (.return_, 1) := by decide +kernel
theorem gf_X6_18 {ω : WD} {ρ : FR} {M : Mem} {cc : ByteArray} {d n pc i : Nat} {lv : List (Nat × Value)} {rest : List Value} (C : Cx ω ρ cc RX6 d n) (hk : isK 6 i) (hd : decode cc pc = .ok (.getfield 18, 3)) (k : G ω ρ M (pc + 3) lv (.ref (adr ω (i + 1)) :: rest)) : G ω ρ M pc lv (.ref (adr ω i) :: rest) := G_get (N := 3) (T := TX6) (C := RX6) (q := 2) C hk (by decide) rfl in_X6 (by decide) (tb_of 362 ⟨by decide +kernel, rfl⟩) rfl rfl hd k
theorem pf_X6_9 {ω : WD} {ρ : FR} {M : Mem} {cc : ByteArray} {d n pc i : Nat} {lv : List (Nat × Value)} {rest : List Value} {v : Int32} (C : Cx ω ρ cc RX6 d n) (hk : isK 6 i) (hd : decode cc pc = .ok (.putfield 9, 3)) (k : ∀ M1, M1 = wr M i 0 v → G ω ρ M1 (pc + 3) lv rest) : G ω ρ M pc lv (.int v :: .ref (adr ω i) :: rest) := G_put (N := 3) (T := TX6) (C := RX6) (q := 0) (ty := .int) C hk (by decide) rfl in_X6 tyX6 tyX6_ok nmX6 (by decide) (tb_of 359 ⟨by decide +kernel, rfl⟩) rfl rfl (by decide +kernel) rfl rfl (fun _ _ => Nat.le_of_ble_eq_true rfl) (fun _ => rfl) hd (k _ rfl)
theorem pf_X6_15 {ω : WD} {ρ : FR} {M : Mem} {cc : ByteArray} {d n pc i : Nat} {lv : List (Nat × Value)} {rest : List Value} {v : Int32} (C : Cx ω ρ cc RX6 d n) (hk : isK 6 i) (hd : decode cc pc = .ok (.putfield 15, 3)) (k : ∀ M1, M1 = wr M i 1 v → G ω ρ M1 (pc + 3) lv rest) : G ω ρ M pc lv (.int v :: .ref (adr ω i) :: rest) := G_put (N := 3) (T := TX6) (C := RX6) (q := 1) (ty := .int) C hk (by decide) rfl in_X6 tyX6 tyX6_ok nmX6 (by decide) (tb_of 360 ⟨by decide +kernel, rfl⟩) rfl rfl (by decide +kernel) rfl rfl (fun _ _ => Nat.le_of_ble_eq_true rfl) (fun _ => rfl) hd (k _ rfl)
def w_X6_renew_L12 (x : Nat) (post : Mem → Prop) (l2 : Int32) : Nat → Int32 → Mem → Prop
  | 0, _, _ => False
  | f + 1, l3, M => ((l2 ≤ l3 → post M) ∧ (¬ l2 ≤ l3 → vp_in l3 40 ∧ (∀ M1 : Mem, M1 = wr M (x + 1) l3.toNatClampNeg 0 → ∀ v2 : Int32, v2 = (l3 + 1) → (w_X6_renew_L12 x post l2 f) v2 M1)))
set_option maxRecDepth 100000 in
set_option maxHeartbeats 4000000 in
theorem s_X6_renew_L12 {ω : WD} {ρ : FR} {post : Mem → Prop} (C : Cx ω ρ cX6_renew RX6 0 4) (R : RtV ω ρ cX6_renew post) {x : Nat} (hx : isK 6 x) {l2 : Int32} : ∀ (f : Nat) (l3 : Int32) (M : Mem), w_X6_renew_L12 x post l2 f l3 M → G ω ρ M 12 [(0, .ref (adr ω x)), (2, .int l2), (3, .int l3)] [] := by
  intro f
  induction f with
  | zero => intro l3 M h; exact False.elim h
  | succ f k12 =>
    intro l3 M h
    refine G_iload_n C dX6_renew_12 2 rfl ?_
    refine G_iload_n C dX6_renew_13 1 rfl ?_
    obtain ⟨h1, h2⟩ := h
    refine G_icmp_ge (tgt := 30) C dX6_renew_14 (by decide) (fun c => ?_) (fun c => ?_)
    · have h := h1 c
      clear h1 h2
      exact R 30 _ _ dX6_renew_30 h
    · have h := h2 c
      clear h1 h2
      refine G_aload_n C dX6_renew_17 0 rfl ?_
      refine gf_X6_18 C hx dX6_renew_18 ?_
      refine G_iload_n C dX6_renew_21 2 rfl ?_
      refine G_iconst (v := 0) C dX6_renew_22 (by decide) ?_
      obtain ⟨hi, h⟩ := h
      refine G_iast C (st_6_2 hx) hi dX6_renew_23 (G_mname (fun M1 eM1 => ?_))
      replace h := h M1 eM1
      obtain ⟨v2, ev2⟩ : ∃ y : Int32, y = (l3 + 1) := ⟨_, rfl⟩
      replace h := h v2 ev2
      refine G_iinc C dX6_renew_24 2 rfl (v := v2) (by rw [ev2]; rfl) (by decide) (lv' := [(3, .int v2), (0, .ref (adr ω x)), (2, .int l2)]) rfl ?_
      refine G_goto (tgt := 12) C dX6_renew_27 (by decide) ?_
      refine G_sub [1, 2, 0] (lv' := [(0, .ref (adr ω x)), (2, .int l2), (3, .int v2)]) rfl ?_
      exact k12 _ _ h
def w_X6_renew (x : Nat) (l1 : Int32) (l2 : Int32) (M : Mem) (post : Mem → Prop) : Prop := ∀ M3 : Mem, M3 = wr M x 0 l1 → ∀ M4 : Mem, M4 = wr M3 x 1 l2 → ∃ g12 : Nat, w_X6_renew_L12 x post l2 g12 0 M4
set_option maxRecDepth 100000 in
set_option maxHeartbeats 4000000 in
theorem S_X6_renew {ω : WD} {x : Nat} {l1 : Int32} {l2 : Int32} {M : Mem} {post : Mem → Prop} (hx : isK 6 x) (h : w_X6_renew x l1 l2 M post) : MtV ω yX6_renew cX6_renew 4 none 0 [.ref (adr ω x), .int l1, .int l2] M post := by
  refine MtV.start rfl (by decide +kernel) (own := RX6) rfl (Nat.le_of_ble_eq_true rfl) (fun ρ C R => ?_)
  show G ω ρ M 0 [(0, .ref (adr ω x)), (1, .int l1), (2, .int l2)] []
  refine G_aload_n C dX6_renew_0 0 rfl ?_
  refine G_iload_n C dX6_renew_1 1 rfl ?_
  refine pf_X6_9 C hx dX6_renew_2 (fun M3 eM3 => ?_)
  replace h := h M3 eM3
  refine G_aload_n C dX6_renew_5 0 rfl ?_
  refine G_iload_n C dX6_renew_6 2 rfl ?_
  refine pf_X6_15 C hx dX6_renew_7 (fun M4 eM4 => ?_)
  replace h := h M4 eM4
  refine G_iconst (v := 0) C dX6_renew_10 (by decide) ?_
  refine G_istore_n C dX6_renew_11 (by decide) (lv' := [(3, .int 0), (0, .ref (adr ω x)), (1, .int l1), (2, .int l2)]) rfl ?_
  refine G_sub [1, 3, 0] (lv' := [(0, .ref (adr ω x)), (2, .int l2), (3, .int 0)]) rfl ?_
  obtain ⟨f, h⟩ := h
  exact s_X6_renew_L12 C R hx f _ _ h
theorem dX6_has_0 : decode cX6_has 0 = .ok (.lload_n 1, 1) := by decide +kernel
theorem dX6_has_1 : decode cX6_has 1 = .ok (.lconst 0, 1) := by decide +kernel
theorem dX6_has_2 : decode cX6_has 2 = .ok (.lcmp, 1) := by decide +kernel
theorem dX6_has_3 : decode cX6_has 3 = .ok (.ifCond .lt 17, 3) := by decide +kernel
theorem dX6_has_6 : decode cX6_has 6 = .ok (.lload_n 1, 1) := by decide +kernel
theorem dX6_has_7 : decode cX6_has 7 = .ok (.aload_n 0, 1) := by decide +kernel
theorem dX6_has_8 : decode cX6_has 8 = .ok (.getfield 15, 3) := by decide +kernel
theorem dX6_has_11 : decode cX6_has 11 = .ok (.i2l, 1) := by decide +kernel
theorem dX6_has_12 : decode cX6_has 12 = .ok (.lcmp, 1) := by decide +kernel
theorem dX6_has_13 : decode cX6_has 13 = .ok (.ifCond .ge 7, 3) := by decide +kernel
theorem dX6_has_16 : decode cX6_has 16 = .ok (.iconst 1, 1) := by decide +kernel
theorem dX6_has_17 : decode cX6_has 17 = .ok (.goto 4, 3) := by decide +kernel
theorem dX6_has_20 : decode cX6_has 20 = .ok (.iconst 0, 1) := by decide +kernel
theorem dX6_has_21 : decode cX6_has 21 = .ok (.ireturn, 1) := by decide +kernel
theorem gf_X6_15 {ω : WD} {ρ : FR} {M : Mem} {cc : ByteArray} {d n pc i : Nat} {lv : List (Nat × Value)} {rest : List Value} (C : Cx ω ρ cc RX6 d n) (hk : isK 6 i) (hd : decode cc pc = .ok (.getfield 15, 3)) (k : G ω ρ M (pc + 3) lv (.int (rd M i 1) :: rest)) : G ω ρ M pc lv (.ref (adr ω i) :: rest) := G_get (N := 3) (T := TX6) (C := RX6) (q := 1) C hk (by decide) rfl in_X6 (by decide) (tb_of 360 ⟨by decide +kernel, rfl⟩) rfl rfl hd k
def w_X6_has (x : Nat) (l1 : Int64) (M : Mem) (post : Int32 → Mem → Prop) : Prop := (((lg_cmp l1 0) < 0 → post 0 M) ∧ (¬ (lg_cmp l1 0) < 0 → ((0 ≤ (lg_cmp l1 (((rd M x 1)).toInt64)) → post 0 M) ∧ (¬ 0 ≤ (lg_cmp l1 (((rd M x 1)).toInt64)) → post 1 M))))
set_option maxRecDepth 100000 in
set_option maxHeartbeats 4000000 in
theorem S_X6_has {ω : WD} {x : Nat} {l1 : Int64} {M : Mem} {post : Int32 → Mem → Prop} (hx : isK 6 x) (h : w_X6_has x l1 M post) : MtI ω yX6_has cX6_has 3 (some .boolean) 0 [.ref (adr ω x), .long l1] M post := by
  refine MtI.start (ty := .boolean) rfl (by decide +kernel) (own := RX6) rfl (Nat.le_of_ble_eq_true rfl) (fun ρ C R => ?_)
  show G ω ρ M 0 [(0, .ref (adr ω x)), (1, .long l1)] []
  refine G_lload_n C dX6_has_0 1 rfl ?_
  refine G_lconst (v := 0) C dX6_has_1 (by decide) ?_
  refine G_lcmp C dX6_has_2 ?_
  obtain ⟨h1, h2⟩ := h
  refine G_if_lt (tgt := 20) C dX6_has_3 (by decide) (fun c => ?_) (fun c => ?_)
  · have h := h1 c
    clear h1 h2
    refine G_iconst (v := 0) C dX6_has_20 (by decide) ?_
    exact R 21 _ _ _ dX6_has_21 rfl h
  · have h := h2 c
    clear h1 h2
    refine G_lload_n C dX6_has_6 1 rfl ?_
    refine G_aload_n C dX6_has_7 0 rfl ?_
    refine gf_X6_15 C hx dX6_has_8 ?_
    refine G_i2l C dX6_has_11 ?_
    refine G_lcmp C dX6_has_12 ?_
    obtain ⟨h1, h2⟩ := h
    refine G_if_ge (tgt := 20) C dX6_has_13 (by decide) (fun c => ?_) (fun c => ?_)
    · have h := h1 c
      clear h1 h2
      refine G_iconst (v := 0) C dX6_has_20 (by decide) ?_
      exact R 21 _ _ _ dX6_has_21 rfl h
    · have h := h2 c
      clear h1 h2
      refine G_iconst (v := 1) C dX6_has_16 (by decide) ?_
      refine G_goto (tgt := 21) C dX6_has_17 (by decide) ?_
      exact R 21 _ _ _ dX6_has_21 rfl h
theorem dX6_faultAs_0 : decode cX6_faultAs 0 = .ok (.aload_n 0, 1) := by decide +kernel
theorem dX6_faultAs_1 : decode cX6_faultAs 1 = .ok (.getfield 15, 3) := by decide +kernel
theorem dX6_faultAs_4 : decode cX6_faultAs 4 = .ok (.bipush (-4), 2) := by decide +kernel
theorem dX6_faultAs_6 : decode cX6_faultAs 6 = .ok (.if_icmp .ne 5, 3) := by decide +kernel
theorem dX6_faultAs_9 : decode cX6_faultAs 9 = .ok (.iconst 1, 1) := by decide +kernel
theorem dX6_faultAs_10 : decode cX6_faultAs 10 = .ok (.ireturn, 1) := by decide +kernel
theorem dX6_faultAs_11 : decode cX6_faultAs 11 = .ok (.aload_n 0, 1) := by decide +kernel
theorem dX6_faultAs_12 : decode cX6_faultAs 12 = .ok (.getfield 9, 3) := by decide +kernel
theorem dX6_faultAs_15 : decode cX6_faultAs 15 = .ok (.iload_n 1, 1) := by decide +kernel
theorem dX6_faultAs_16 : decode cX6_faultAs 16 = .ok (.if_icmp .ne 7, 3) := by decide +kernel
theorem dX6_faultAs_19 : decode cX6_faultAs 19 = .ok (.iconst 0, 1) := by decide +kernel
theorem dX6_faultAs_20 : decode cX6_faultAs 20 = .ok (.goto 4, 3) := by decide +kernel
theorem dX6_faultAs_23 : decode cX6_faultAs 23 = .ok (.iconst 3, 1) := by decide +kernel
theorem dX6_faultAs_24 : decode cX6_faultAs 24 = .ok (.ireturn, 1) := by decide +kernel
theorem gf_X6_9 {ω : WD} {ρ : FR} {M : Mem} {cc : ByteArray} {d n pc i : Nat} {lv : List (Nat × Value)} {rest : List Value} (C : Cx ω ρ cc RX6 d n) (hk : isK 6 i) (hd : decode cc pc = .ok (.getfield 9, 3)) (k : G ω ρ M (pc + 3) lv (.int (rd M i 0) :: rest)) : G ω ρ M pc lv (.ref (adr ω i) :: rest) := G_get (N := 3) (T := TX6) (C := RX6) (q := 0) C hk (by decide) rfl in_X6 (by decide) (tb_of 359 ⟨by decide +kernel, rfl⟩) rfl rfl hd k
def w_X6_faultAs (x : Nat) (l1 : Int32) (M : Mem) (post : Int32 → Mem → Prop) : Prop := ((¬ (rd M x 1) = (-4) → ((¬ (rd M x 0) = l1 → post 3 M) ∧ ((rd M x 0) = l1 → post 0 M))) ∧ ((rd M x 1) = (-4) → post 1 M))
set_option maxRecDepth 100000 in
set_option maxHeartbeats 4000000 in
theorem S_X6_faultAs {ω : WD} {x : Nat} {l1 : Int32} {M : Mem} {post : Int32 → Mem → Prop} (hx : isK 6 x) (h : w_X6_faultAs x l1 M post) : MtI ω yX6_faultAs cX6_faultAs 2 (some .int) 0 [.ref (adr ω x), .int l1] M post := by
  refine MtI.start (ty := .int) rfl (by decide +kernel) (own := RX6) rfl (Nat.le_of_ble_eq_true rfl) (fun ρ C R => ?_)
  show G ω ρ M 0 [(0, .ref (adr ω x)), (1, .int l1)] []
  refine G_aload_n C dX6_faultAs_0 0 rfl ?_
  refine gf_X6_15 C hx dX6_faultAs_1 ?_
  refine G_bipush (v := (-4)) C dX6_faultAs_4 (by decide) ?_
  obtain ⟨h1, h2⟩ := h
  refine G_icmp_ne (tgt := 11) C dX6_faultAs_6 (by decide) (fun c => ?_) (fun c => ?_)
  · have h := h1 c
    clear h1 h2
    refine G_aload_n C dX6_faultAs_11 0 rfl ?_
    refine gf_X6_9 C hx dX6_faultAs_12 ?_
    refine G_iload_n C dX6_faultAs_15 1 rfl ?_
    obtain ⟨h1, h2⟩ := h
    refine G_icmp_ne (tgt := 23) C dX6_faultAs_16 (by decide) (fun c => ?_) (fun c => ?_)
    · have h := h1 c
      clear h1 h2
      refine G_iconst (v := 3) C dX6_faultAs_23 (by decide) ?_
      exact R 24 _ _ _ dX6_faultAs_24 rfl h
    · have h := h2 c
      clear h1 h2
      refine G_iconst (v := 0) C dX6_faultAs_19 (by decide) ?_
      refine G_goto (tgt := 24) C dX6_faultAs_20 (by decide) ?_
      exact R 24 _ _ _ dX6_faultAs_24 rfl h
  · have h := h2 c
    clear h1 h2
    refine G_iconst (v := 1) C dX6_faultAs_9 (by decide) ?_
    exact R 10 _ _ _ dX6_faultAs_10 rfl h
theorem dX6_narrowed_0 : decode cX6_narrowed 0 = .ok (.aload_n 0, 1) := by decide +kernel
theorem dX6_narrowed_1 : decode cX6_narrowed 1 = .ok (.getfield 9, 3) := by decide +kernel
theorem dX6_narrowed_4 : decode cX6_narrowed 4 = .ok (.ifCond .ne 6, 3) := by decide +kernel
theorem dX6_narrowed_7 : decode cX6_narrowed 7 = .ok (.iload_n 1, 1) := by decide +kernel
theorem dX6_narrowed_8 : decode cX6_narrowed 8 = .ok (.i2b, 1) := by decide +kernel
theorem dX6_narrowed_9 : decode cX6_narrowed 9 = .ok (.ireturn, 1) := by decide +kernel
theorem dX6_narrowed_10 : decode cX6_narrowed 10 = .ok (.aload_n 0, 1) := by decide +kernel
theorem dX6_narrowed_11 : decode cX6_narrowed 11 = .ok (.getfield 9, 3) := by decide +kernel
theorem dX6_narrowed_14 : decode cX6_narrowed 14 = .ok (.iconst 1, 1) := by decide +kernel
theorem dX6_narrowed_15 : decode cX6_narrowed 15 = .ok (.if_icmp .ne 8, 3) := by decide +kernel
theorem dX6_narrowed_18 : decode cX6_narrowed 18 = .ok (.iload_n 1, 1) := by decide +kernel
theorem dX6_narrowed_19 : decode cX6_narrowed 19 = .ok (.i2s, 1) := by decide +kernel
theorem dX6_narrowed_20 : decode cX6_narrowed 20 = .ok (.goto 4, 3) := by decide +kernel
theorem dX6_narrowed_23 : decode cX6_narrowed 23 = .ok (.iload_n 1, 1) := by decide +kernel
theorem dX6_narrowed_24 : decode cX6_narrowed 24 = .ok (.ireturn, 1) := by decide +kernel
def w_X6_narrowed (x : Nat) (l1 : Int32) (M : Mem) (post : Int32 → Mem → Prop) : Prop := ((¬ (rd M x 0) = 0 → ((¬ (rd M x 0) = 1 → post l1 M) ∧ ((rd M x 0) = 1 → post ((l1).toInt16.toInt32) M))) ∧ ((rd M x 0) = 0 → post ((l1).toInt8.toInt32) M))
set_option maxRecDepth 100000 in
set_option maxHeartbeats 4000000 in
theorem S_X6_narrowed {ω : WD} {x : Nat} {l1 : Int32} {M : Mem} {post : Int32 → Mem → Prop} (hx : isK 6 x) (h : w_X6_narrowed x l1 M post) : MtI ω yX6_narrowed cX6_narrowed 2 (some .int) 0 [.ref (adr ω x), .int l1] M post := by
  refine MtI.start (ty := .int) rfl (by decide +kernel) (own := RX6) rfl (Nat.le_of_ble_eq_true rfl) (fun ρ C R => ?_)
  show G ω ρ M 0 [(0, .ref (adr ω x)), (1, .int l1)] []
  refine G_aload_n C dX6_narrowed_0 0 rfl ?_
  refine gf_X6_9 C hx dX6_narrowed_1 ?_
  obtain ⟨h1, h2⟩ := h
  refine G_if_ne (tgt := 10) C dX6_narrowed_4 (by decide) (fun c => ?_) (fun c => ?_)
  · have h := h1 c
    clear h1 h2
    refine G_aload_n C dX6_narrowed_10 0 rfl ?_
    refine gf_X6_9 C hx dX6_narrowed_11 ?_
    refine G_iconst (v := 1) C dX6_narrowed_14 (by decide) ?_
    obtain ⟨h1, h2⟩ := h
    refine G_icmp_ne (tgt := 23) C dX6_narrowed_15 (by decide) (fun c => ?_) (fun c => ?_)
    · have h := h1 c
      clear h1 h2
      refine G_iload_n C dX6_narrowed_23 1 rfl ?_
      exact R 24 _ _ _ dX6_narrowed_24 rfl h
    · have h := h2 c
      clear h1 h2
      refine G_iload_n C dX6_narrowed_18 1 rfl ?_
      refine G_i2s C dX6_narrowed_19 ?_
      refine G_goto (tgt := 24) C dX6_narrowed_20 (by decide) ?_
      exact R 24 _ _ _ dX6_narrowed_24 rfl h
  · have h := h2 c
    clear h1 h2
    refine G_iload_n C dX6_narrowed_7 1 rfl ?_
    refine G_i2b C dX6_narrowed_8 ?_
    exact R 9 _ _ _ dX6_narrowed_9 rfl h
end
section
theorem dX7_rewind_0 : decode cX7_rewind 0 = .ok (.aload_n 0, 1) := by decide +kernel
theorem dX7_rewind_1 : decode cX7_rewind 1 = .ok (.iconst 0, 1) := by decide +kernel
theorem dX7_rewind_2 : decode cX7_rewind 2 = .ok (.putfield 19, 3) := by decide +kernel
theorem dX7_rewind_5 : decode cX7_rewind 5 = .ok (.aload_n 0, 1) := by decide +kernel
theorem dX7_rewind_6 : decode cX7_rewind 6 = .ok (.iconst 0, 1) := by decide +kernel
theorem dX7_rewind_7 : decode cX7_rewind 7 = .ok (.putfield 22, 3) := by decide +kernel
theorem dX7_rewind_10 : decode cX7_rewind 10 = .ok (.aload_n 0, 1) := by decide +kernel
theorem dX7_rewind_11 : decode cX7_rewind 11 = .ok (.iconst 0, 1) := by decide +kernel
theorem dX7_rewind_12 : decode cX7_rewind 12 = .ok (.putfield 25, 3) := by decide +kernel
theorem dX7_rewind_15 : decode cX7_rewind 15 = .ok (.return_, 1) := by decide +kernel
theorem pf_X7_19 {ω : WD} {ρ : FR} {M : Mem} {cc : ByteArray} {d n pc : Nat} {lv : List (Nat × Value)} {rest : List Value} {v : Int32} (C : Cx ω ρ cc RX7 d n) (hd : decode cc pc = .ok (.putfield 19, 3)) (k : ∀ M1, M1 = wr M 50 2 v → G ω ρ M1 (pc + 3) lv rest) : G ω ρ M pc lv (.int v :: .ref (adr ω 50) :: rest) := G_put (N := 6) (T := TX7) (C := RX7) (q := 2) (ty := .int) C (q50 : isK 7 50) (by decide) rfl in_X7 tyX7 tyX7_ok nmX7 (by decide) (tb_of 265 ⟨by decide +kernel, rfl⟩) rfl rfl (by decide +kernel) rfl rfl (fun _ _ => Nat.le_of_ble_eq_true rfl) (fun _ => rfl) hd (k _ rfl)
theorem pf_X7_22 {ω : WD} {ρ : FR} {M : Mem} {cc : ByteArray} {d n pc : Nat} {lv : List (Nat × Value)} {rest : List Value} {v : Int32} (C : Cx ω ρ cc RX7 d n) (hd : decode cc pc = .ok (.putfield 22, 3)) (k : ∀ M1, M1 = wr M 50 3 v → G ω ρ M1 (pc + 3) lv rest) : G ω ρ M pc lv (.int v :: .ref (adr ω 50) :: rest) := G_put (N := 6) (T := TX7) (C := RX7) (q := 3) (ty := .int) C (q50 : isK 7 50) (by decide) rfl in_X7 tyX7 tyX7_ok nmX7 (by decide) (tb_of 267 ⟨by decide +kernel, rfl⟩) rfl rfl (by decide +kernel) rfl rfl (fun _ _ => Nat.le_of_ble_eq_true rfl) (fun _ => rfl) hd (k _ rfl)
theorem pf_X7_25 {ω : WD} {ρ : FR} {M : Mem} {cc : ByteArray} {d n pc : Nat} {lv : List (Nat × Value)} {rest : List Value} {v : Int32} (C : Cx ω ρ cc RX7 d n) (hd : decode cc pc = .ok (.putfield 25, 3)) (k : ∀ M1, M1 = wr M 50 4 v → G ω ρ M1 (pc + 3) lv rest) : G ω ρ M pc lv (.int v :: .ref (adr ω 50) :: rest) := G_put (N := 6) (T := TX7) (C := RX7) (q := 4) (ty := .int) C (q50 : isK 7 50) (by decide) rfl in_X7 tyX7 tyX7_ok nmX7 (by decide) (tb_of 269 ⟨by decide +kernel, rfl⟩) rfl rfl (by decide +kernel) rfl rfl (fun _ _ => Nat.le_of_ble_eq_true rfl) (fun _ => rfl) hd (k _ rfl)
def w_X7_rewind (M : Mem) (post : Mem → Prop) : Prop := ∀ M1 : Mem, M1 = wr M 50 2 0 → ∀ M2 : Mem, M2 = wr M1 50 3 0 → ∀ M3 : Mem, M3 = wr M2 50 4 0 → post M3
set_option maxRecDepth 100000 in
set_option maxHeartbeats 4000000 in
theorem S_X7_rewind {ω : WD} {M : Mem} {post : Mem → Prop} (h : w_X7_rewind M post) : MtV ω yX7_rewind cX7_rewind 1 none 0 [.ref (adr ω 50)] M post := by
  refine MtV.start rfl (by decide +kernel) (own := RX7) rfl (Nat.le_of_ble_eq_true rfl) (fun ρ C R => ?_)
  show G ω ρ M 0 [(0, .ref (adr ω 50))] []
  refine G_aload_n C dX7_rewind_0 0 rfl ?_
  refine G_iconst (v := 0) C dX7_rewind_1 (by decide) ?_
  refine pf_X7_19 C dX7_rewind_2 (fun M1 eM1 => ?_)
  replace h := h M1 eM1
  refine G_aload_n C dX7_rewind_5 0 rfl ?_
  refine G_iconst (v := 0) C dX7_rewind_6 (by decide) ?_
  refine pf_X7_22 C dX7_rewind_7 (fun M2 eM2 => ?_)
  replace h := h M2 eM2
  refine G_aload_n C dX7_rewind_10 0 rfl ?_
  refine G_iconst (v := 0) C dX7_rewind_11 (by decide) ?_
  refine pf_X7_25 C dX7_rewind_12 (fun M3 eM3 => ?_)
  replace h := h M3 eM3
  exact R 15 _ _ dX7_rewind_15 h
theorem dX7_kindAt_0 : decode cX7_kindAt 0 = .ok (.iload_n 1, 1) := by decide +kernel
theorem dX7_kindAt_1 : decode cX7_kindAt 1 = .ok (.aload_n 0, 1) := by decide +kernel
theorem dX7_kindAt_2 : decode cX7_kindAt 2 = .ok (.getfield 15, 3) := by decide +kernel
theorem dX7_kindAt_5 : decode cX7_kindAt 5 = .ok (.if_icmp .lt 5, 3) := by decide +kernel
theorem dX7_kindAt_8 : decode cX7_kindAt 8 = .ok (.iconst 0, 1) := by decide +kernel
theorem dX7_kindAt_9 : decode cX7_kindAt 9 = .ok (.ireturn, 1) := by decide +kernel
theorem dX7_kindAt_10 : decode cX7_kindAt 10 = .ok (.aload_n 0, 1) := by decide +kernel
theorem dX7_kindAt_11 : decode cX7_kindAt 11 = .ok (.getfield 9, 3) := by decide +kernel
theorem dX7_kindAt_14 : decode cX7_kindAt 14 = .ok (.iload_n 1, 1) := by decide +kernel
theorem dX7_kindAt_15 : decode cX7_kindAt 15 = .ok (.iaload, 1) := by decide +kernel
theorem dX7_kindAt_16 : decode cX7_kindAt 16 = .ok (.istore_n 2, 1) := by decide +kernel
theorem dX7_kindAt_17 : decode cX7_kindAt 17 = .ok (.iload_n 2, 1) := by decide +kernel
theorem dX7_kindAt_18 : decode cX7_kindAt 18 = .ok (.bipush 97, 2) := by decide +kernel
theorem dX7_kindAt_20 : decode cX7_kindAt 20 = .ok (.if_icmp .lt 11, 3) := by decide +kernel
theorem dX7_kindAt_23 : decode cX7_kindAt 23 = .ok (.iload_n 2, 1) := by decide +kernel
theorem dX7_kindAt_24 : decode cX7_kindAt 24 = .ok (.bipush 122, 2) := by decide +kernel
theorem dX7_kindAt_26 : decode cX7_kindAt 26 = .ok (.if_icmp .gt 5, 3) := by decide +kernel
theorem dX7_kindAt_29 : decode cX7_kindAt 29 = .ok (.iconst 1, 1) := by decide +kernel
theorem dX7_kindAt_30 : decode cX7_kindAt 30 = .ok (.ireturn, 1) := by decide +kernel
theorem dX7_kindAt_31 : decode cX7_kindAt 31 = .ok (.iload_n 2, 1) := by decide +kernel
theorem dX7_kindAt_32 : decode cX7_kindAt 32 = .ok (.bipush 48, 2) := by decide +kernel
theorem dX7_kindAt_34 : decode cX7_kindAt 34 = .ok (.if_icmp .lt 11, 3) := by decide +kernel
theorem dX7_kindAt_37 : decode cX7_kindAt 37 = .ok (.iload_n 2, 1) := by decide +kernel
theorem dX7_kindAt_38 : decode cX7_kindAt 38 = .ok (.bipush 57, 2) := by decide +kernel
theorem dX7_kindAt_40 : decode cX7_kindAt 40 = .ok (.if_icmp .gt 5, 3) := by decide +kernel
theorem dX7_kindAt_43 : decode cX7_kindAt 43 = .ok (.iconst 2, 1) := by decide +kernel
theorem dX7_kindAt_44 : decode cX7_kindAt 44 = .ok (.ireturn, 1) := by decide +kernel
theorem dX7_kindAt_45 : decode cX7_kindAt 45 = .ok (.iload_n 2, 1) := by decide +kernel
theorem dX7_kindAt_46 : decode cX7_kindAt 46 = .ok (.bipush 59, 2) := by decide +kernel
theorem dX7_kindAt_48 : decode cX7_kindAt 48 = .ok (.if_icmp .ne 7, 3) := by decide +kernel
theorem dX7_kindAt_51 : decode cX7_kindAt 51 = .ok (.iconst 3, 1) := by decide +kernel
theorem dX7_kindAt_52 : decode cX7_kindAt 52 = .ok (.goto 4, 3) := by decide +kernel
theorem dX7_kindAt_55 : decode cX7_kindAt 55 = .ok (.iconst 4, 1) := by decide +kernel
theorem dX7_kindAt_56 : decode cX7_kindAt 56 = .ok (.ireturn, 1) := by decide +kernel
theorem gf_X7_15 {ω : WD} {ρ : FR} {M : Mem} {cc : ByteArray} {d n pc : Nat} {lv : List (Nat × Value)} {rest : List Value} (C : Cx ω ρ cc RX7 d n) (hd : decode cc pc = .ok (.getfield 15, 3)) (k : G ω ρ M (pc + 3) lv (.int (rd M 50 1) :: rest)) : G ω ρ M pc lv (.ref (adr ω 50) :: rest) := G_get (N := 6) (T := TX7) (C := RX7) (q := 1) C (q50 : isK 7 50) (by decide) rfl in_X7 (by decide) (tb_of 263 ⟨by decide +kernel, rfl⟩) rfl rfl hd k
theorem gf_X7_9 {ω : WD} {ρ : FR} {M : Mem} {cc : ByteArray} {d n pc : Nat} {lv : List (Nat × Value)} {rest : List Value} (C : Cx ω ρ cc RX7 d n) (hd : decode cc pc = .ok (.getfield 9, 3)) (k : G ω ρ M (pc + 3) lv (.ref (adr ω 51) :: rest)) : G ω ρ M pc lv (.ref (adr ω 50) :: rest) := G_get (N := 6) (T := TX7) (C := RX7) (q := 0) C (q50 : isK 7 50) (by decide) rfl in_X7 (by decide) (tb_of 261 ⟨by decide +kernel, rfl⟩) rfl rfl hd k
def w_X7_kindAt_J45 (post : Int32 → Mem → Prop) (l2 : Int32) (M : Mem) : Prop := ((¬ l2 = 59 → post 4 M) ∧ (l2 = 59 → post 3 M))
set_option maxRecDepth 100000 in
set_option maxHeartbeats 4000000 in
theorem s_X7_kindAt_J45 {ω : WD} {ρ : FR} {post : Int32 → Mem → Prop} (C : Cx ω ρ cX7_kindAt RX7 0 3) (R : RtI ω ρ cX7_kindAt .int post) {l2 : Int32} {M : Mem} (h : w_X7_kindAt_J45 post l2 M) : G ω ρ M 45 [(2, .int l2)] [] := by
  refine G_iload_n C dX7_kindAt_45 0 rfl ?_
  refine G_bipush (v := 59) C dX7_kindAt_46 (by decide) ?_
  obtain ⟨h1, h2⟩ := h
  refine G_icmp_ne (tgt := 55) C dX7_kindAt_48 (by decide) (fun c => ?_) (fun c => ?_)
  · have h := h1 c
    clear h1 h2
    refine G_iconst (v := 4) C dX7_kindAt_55 (by decide) ?_
    exact R 56 _ _ _ dX7_kindAt_56 rfl h
  · have h := h2 c
    clear h1 h2
    refine G_iconst (v := 3) C dX7_kindAt_51 (by decide) ?_
    refine G_goto (tgt := 56) C dX7_kindAt_52 (by decide) ?_
    exact R 56 _ _ _ dX7_kindAt_56 rfl h
def w_X7_kindAt_J31 (post : Int32 → Mem → Prop) (l2 : Int32) (M : Mem) : Prop := ((l2 < 48 → w_X7_kindAt_J45 post l2 M) ∧ (¬ l2 < 48 → ((57 < l2 → w_X7_kindAt_J45 post l2 M) ∧ (¬ 57 < l2 → post 2 M))))
set_option maxRecDepth 100000 in
set_option maxHeartbeats 4000000 in
theorem s_X7_kindAt_J31 {ω : WD} {ρ : FR} {post : Int32 → Mem → Prop} (C : Cx ω ρ cX7_kindAt RX7 0 3) (R : RtI ω ρ cX7_kindAt .int post) {l2 : Int32} {M : Mem} (h : w_X7_kindAt_J31 post l2 M) : G ω ρ M 31 [(2, .int l2)] [] := by
  refine G_iload_n C dX7_kindAt_31 0 rfl ?_
  refine G_bipush (v := 48) C dX7_kindAt_32 (by decide) ?_
  obtain ⟨h1, h2⟩ := h
  refine G_icmp_lt (tgt := 45) C dX7_kindAt_34 (by decide) (fun c => ?_) (fun c => ?_)
  · have h := h1 c
    clear h1 h2
    exact s_X7_kindAt_J45 C R  h
  · have h := h2 c
    clear h1 h2
    refine G_iload_n C dX7_kindAt_37 0 rfl ?_
    refine G_bipush (v := 57) C dX7_kindAt_38 (by decide) ?_
    obtain ⟨h1, h2⟩ := h
    refine G_icmp_gt (tgt := 45) C dX7_kindAt_40 (by decide) (fun c => ?_) (fun c => ?_)
    · have h := h1 c
      clear h1 h2
      exact s_X7_kindAt_J45 C R  h
    · have h := h2 c
      clear h1 h2
      refine G_iconst (v := 2) C dX7_kindAt_43 (by decide) ?_
      exact R 44 _ _ _ dX7_kindAt_44 rfl h
def w_X7_kindAt (l1 : Int32) (M : Mem) (post : Int32 → Mem → Prop) : Prop := ((l1 < (rd M 50 1) → vp_in l1 160 ∧ (∀ v1 : Int32, v1 = (rd M 51 l1.toNatClampNeg) → ((v1 < 97 → w_X7_kindAt_J31 post v1 M) ∧ (¬ v1 < 97 → ((122 < v1 → w_X7_kindAt_J31 post v1 M) ∧ (¬ 122 < v1 → post 1 M)))))) ∧ (¬ l1 < (rd M 50 1) → post 0 M))
set_option maxRecDepth 100000 in
set_option maxHeartbeats 4000000 in
theorem S_X7_kindAt {ω : WD} {l1 : Int32} {M : Mem} {post : Int32 → Mem → Prop} (h : w_X7_kindAt l1 M post) : MtI ω yX7_kindAt cX7_kindAt 3 (some .int) 0 [.ref (adr ω 50), .int l1] M post := by
  refine MtI.start (ty := .int) rfl (by decide +kernel) (own := RX7) rfl (Nat.le_of_ble_eq_true rfl) (fun ρ C R => ?_)
  show G ω ρ M 0 [(0, .ref (adr ω 50)), (1, .int l1)] []
  refine G_iload_n C dX7_kindAt_0 1 rfl ?_
  refine G_aload_n C dX7_kindAt_1 0 rfl ?_
  refine gf_X7_15 C dX7_kindAt_2 ?_
  obtain ⟨h1, h2⟩ := h
  refine G_icmp_lt (tgt := 10) C dX7_kindAt_5 (by decide) (fun c => ?_) (fun c => ?_)
  · have h := h1 c
    clear h1 h2
    refine G_aload_n C dX7_kindAt_10 0 rfl ?_
    refine gf_X7_9 C dX7_kindAt_11 ?_
    refine G_iload_n C dX7_kindAt_14 1 rfl ?_
    obtain ⟨hi, h⟩ := h
    refine G_iald C q51 hi dX7_kindAt_15 ?_
    refine G_iname (fun v1 ev1 => ?_)
    replace h := h v1 ev1
    refine G_istore_n C dX7_kindAt_16 (by decide) (lv' := [(2, .int v1), (0, .ref (adr ω 50)), (1, .int l1)]) rfl ?_
    refine G_iload_n C dX7_kindAt_17 0 rfl ?_
    refine G_bipush (v := 97) C dX7_kindAt_18 (by decide) ?_
    obtain ⟨h1, h2⟩ := h
    refine G_icmp_lt (tgt := 31) C dX7_kindAt_20 (by decide) (fun c => ?_) (fun c => ?_)
    · have h := h1 c
      clear h1 h2
      refine G_sub [0] (lv' := [(2, .int v1)]) rfl ?_
      exact s_X7_kindAt_J31 C R  h
    · have h := h2 c
      clear h1 h2
      refine G_iload_n C dX7_kindAt_23 0 rfl ?_
      refine G_bipush (v := 122) C dX7_kindAt_24 (by decide) ?_
      obtain ⟨h1, h2⟩ := h
      refine G_icmp_gt (tgt := 31) C dX7_kindAt_26 (by decide) (fun c => ?_) (fun c => ?_)
      · have h := h1 c
        clear h1 h2
        refine G_sub [0] (lv' := [(2, .int v1)]) rfl ?_
        exact s_X7_kindAt_J31 C R  h
      · have h := h2 c
        clear h1 h2
        refine G_iconst (v := 1) C dX7_kindAt_29 (by decide) ?_
        exact R 30 _ _ _ dX7_kindAt_30 rfl h
  · have h := h2 c
    clear h1 h2
    refine G_iconst (v := 0) C dX7_kindAt_8 (by decide) ?_
    exact R 9 _ _ _ dX7_kindAt_9 rfl h
theorem dX7_measure_0 : decode cX7_measure 0 = .ok (.aload_n 0, 1) := by decide +kernel
theorem dX7_measure_1 : decode cX7_measure 1 = .ok (.getfield 25, 3) := by decide +kernel
theorem dX7_measure_4 : decode cX7_measure 4 = .ok (.aload_n 0, 1) := by decide +kernel
theorem dX7_measure_5 : decode cX7_measure 5 = .ok (.getfield 22, 3) := by decide +kernel
theorem dX7_measure_8 : decode cX7_measure 8 = .ok (.isub, 1) := by decide +kernel
theorem dX7_measure_9 : decode cX7_measure 9 = .ok (.iconst 2, 1) := by decide +kernel
theorem dX7_measure_10 : decode cX7_measure 10 = .ok (.if_icmp .le 9, 3) := by decide +kernel
theorem dX7_measure_13 : decode cX7_measure 13 = .ok (.aload_n 0, 1) := by decide +kernel
theorem dX7_measure_14 : decode cX7_measure 14 = .ok (.iconst 4, 1) := by decide +kernel
theorem dX7_measure_15 : decode cX7_measure 15 = .ok (.putfield 19, 3) := by decide +kernel
theorem dX7_measure_18 : decode cX7_measure 18 = .ok (.return_, 1) := by decide +kernel
theorem dX7_measure_19 : decode cX7_measure 19 = .ok (.aload_n 0, 1) := by decide +kernel
theorem dX7_measure_20 : decode cX7_measure 20 = .ok (.iconst 0, 1) := by decide +kernel
theorem dX7_measure_21 : decode cX7_measure 21 = .ok (.putfield 28, 3) := by decide +kernel
theorem dX7_measure_24 : decode cX7_measure 24 = .ok (.aload_n 0, 1) := by decide +kernel
theorem dX7_measure_25 : decode cX7_measure 25 = .ok (.getfield 22, 3) := by decide +kernel
theorem dX7_measure_28 : decode cX7_measure 28 = .ok (.istore_n 1, 1) := by decide +kernel
theorem dX7_measure_29 : decode cX7_measure 29 = .ok (.iload_n 1, 1) := by decide +kernel
theorem dX7_measure_30 : decode cX7_measure 30 = .ok (.aload_n 0, 1) := by decide +kernel
theorem dX7_measure_31 : decode cX7_measure 31 = .ok (.getfield 25, 3) := by decide +kernel
theorem dX7_measure_34 : decode cX7_measure 34 = .ok (.if_icmp .ge 30, 3) := by decide +kernel
theorem dX7_measure_37 : decode cX7_measure 37 = .ok (.aload_n 0, 1) := by decide +kernel
theorem dX7_measure_38 : decode cX7_measure 38 = .ok (.bipush 10, 2) := by decide +kernel
theorem dX7_measure_40 : decode cX7_measure 40 = .ok (.aload_n 0, 1) := by decide +kernel
theorem dX7_measure_41 : decode cX7_measure 41 = .ok (.getfield 28, 3) := by decide +kernel
theorem dX7_measure_44 : decode cX7_measure 44 = .ok (.imul, 1) := by decide +kernel
theorem dX7_measure_45 : decode cX7_measure 45 = .ok (.aload_n 0, 1) := by decide +kernel
theorem dX7_measure_46 : decode cX7_measure 46 = .ok (.getfield 9, 3) := by decide +kernel
theorem dX7_measure_49 : decode cX7_measure 49 = .ok (.iload_n 1, 1) := by decide +kernel
theorem dX7_measure_50 : decode cX7_measure 50 = .ok (.iaload, 1) := by decide +kernel
theorem dX7_measure_51 : decode cX7_measure 51 = .ok (.iadd, 1) := by decide +kernel
theorem dX7_measure_52 : decode cX7_measure 52 = .ok (.bipush 48, 2) := by decide +kernel
theorem dX7_measure_54 : decode cX7_measure 54 = .ok (.isub, 1) := by decide +kernel
theorem dX7_measure_55 : decode cX7_measure 55 = .ok (.putfield 28, 3) := by decide +kernel
theorem dX7_measure_58 : decode cX7_measure 58 = .ok (.iinc 1 1, 3) := by decide +kernel
theorem dX7_measure_61 : decode cX7_measure 61 = .ok (.goto (-32), 3) := by decide +kernel
theorem dX7_measure_64 : decode cX7_measure 64 = .ok (.return_, 1) := by decide +kernel
theorem gf_X7_25 {ω : WD} {ρ : FR} {M : Mem} {cc : ByteArray} {d n pc : Nat} {lv : List (Nat × Value)} {rest : List Value} (C : Cx ω ρ cc RX7 d n) (hd : decode cc pc = .ok (.getfield 25, 3)) (k : G ω ρ M (pc + 3) lv (.int (rd M 50 4) :: rest)) : G ω ρ M pc lv (.ref (adr ω 50) :: rest) := G_get (N := 6) (T := TX7) (C := RX7) (q := 4) C (q50 : isK 7 50) (by decide) rfl in_X7 (by decide) (tb_of 269 ⟨by decide +kernel, rfl⟩) rfl rfl hd k
theorem gf_X7_28 {ω : WD} {ρ : FR} {M : Mem} {cc : ByteArray} {d n pc : Nat} {lv : List (Nat × Value)} {rest : List Value} (C : Cx ω ρ cc RX7 d n) (hd : decode cc pc = .ok (.getfield 28, 3)) (k : G ω ρ M (pc + 3) lv (.int (rd M 50 5) :: rest)) : G ω ρ M pc lv (.ref (adr ω 50) :: rest) := G_get (N := 6) (T := TX7) (C := RX7) (q := 5) C (q50 : isK 7 50) (by decide) rfl in_X7 (by decide) (tb_of 270 ⟨by decide +kernel, rfl⟩) rfl rfl hd k
theorem pf_X7_28 {ω : WD} {ρ : FR} {M : Mem} {cc : ByteArray} {d n pc : Nat} {lv : List (Nat × Value)} {rest : List Value} {v : Int32} (C : Cx ω ρ cc RX7 d n) (hd : decode cc pc = .ok (.putfield 28, 3)) (k : ∀ M1, M1 = wr M 50 5 v → G ω ρ M1 (pc + 3) lv rest) : G ω ρ M pc lv (.int v :: .ref (adr ω 50) :: rest) := G_put (N := 6) (T := TX7) (C := RX7) (q := 5) (ty := .int) C (q50 : isK 7 50) (by decide) rfl in_X7 tyX7 tyX7_ok nmX7 (by decide) (tb_of 270 ⟨by decide +kernel, rfl⟩) rfl rfl (by decide +kernel) rfl rfl (fun _ _ => Nat.le_of_ble_eq_true rfl) (fun _ => rfl) hd (k _ rfl)
theorem gf_X7_22 {ω : WD} {ρ : FR} {M : Mem} {cc : ByteArray} {d n pc : Nat} {lv : List (Nat × Value)} {rest : List Value} (C : Cx ω ρ cc RX7 d n) (hd : decode cc pc = .ok (.getfield 22, 3)) (k : G ω ρ M (pc + 3) lv (.int (rd M 50 3) :: rest)) : G ω ρ M pc lv (.ref (adr ω 50) :: rest) := G_get (N := 6) (T := TX7) (C := RX7) (q := 3) C (q50 : isK 7 50) (by decide) rfl in_X7 (by decide) (tb_of 267 ⟨by decide +kernel, rfl⟩) rfl rfl hd k
def w_X7_measure_L29 (post : Mem → Prop) : Nat → Int32 → Mem → Prop
  | 0, _, _ => False
  | f + 1, l1, M => (((rd M 50 4) ≤ l1 → post M) ∧ (¬ (rd M 50 4) ≤ l1 → vp_in l1 160 ∧ (∀ M1 : Mem, M1 = wr M 50 5 (((10 * (rd M 50 5)) + (rd M 51 l1.toNatClampNeg)) - 48) → ∀ v2 : Int32, v2 = (l1 + 1) → (w_X7_measure_L29 post f) v2 M1)))
set_option maxRecDepth 100000 in
set_option maxHeartbeats 4000000 in
theorem s_X7_measure_L29 {ω : WD} {ρ : FR} {post : Mem → Prop} (C : Cx ω ρ cX7_measure RX7 0 2) (R : RtV ω ρ cX7_measure post) : ∀ (f : Nat) (l1 : Int32) (M : Mem), w_X7_measure_L29 post f l1 M → G ω ρ M 29 [(0, .ref (adr ω 50)), (1, .int l1)] [] := by
  intro f
  induction f with
  | zero => intro l1 M h; exact False.elim h
  | succ f k29 =>
    intro l1 M h
    refine G_iload_n C dX7_measure_29 1 rfl ?_
    refine G_aload_n C dX7_measure_30 0 rfl ?_
    refine gf_X7_25 C dX7_measure_31 ?_
    obtain ⟨h1, h2⟩ := h
    refine G_icmp_ge (tgt := 64) C dX7_measure_34 (by decide) (fun c => ?_) (fun c => ?_)
    · have h := h1 c
      clear h1 h2
      exact R 64 _ _ dX7_measure_64 h
    · have h := h2 c
      clear h1 h2
      refine G_aload_n C dX7_measure_37 0 rfl ?_
      refine G_bipush (v := 10) C dX7_measure_38 (by decide) ?_
      refine G_aload_n C dX7_measure_40 0 rfl ?_
      refine gf_X7_28 C dX7_measure_41 ?_
      refine G_imul C dX7_measure_44 ?_
      refine G_aload_n C dX7_measure_45 0 rfl ?_
      refine gf_X7_9 C dX7_measure_46 ?_
      refine G_iload_n C dX7_measure_49 1 rfl ?_
      obtain ⟨hi, h⟩ := h
      refine G_iald C q51 hi dX7_measure_50 ?_
      refine G_iadd C dX7_measure_51 ?_
      refine G_bipush (v := 48) C dX7_measure_52 (by decide) ?_
      refine G_isub C dX7_measure_54 ?_
      refine pf_X7_28 C dX7_measure_55 (fun M1 eM1 => ?_)
      replace h := h M1 eM1
      obtain ⟨v2, ev2⟩ : ∃ y : Int32, y = (l1 + 1) := ⟨_, rfl⟩
      replace h := h v2 ev2
      refine G_iinc C dX7_measure_58 1 rfl (v := v2) (by rw [ev2]; rfl) (by decide) (lv' := [(1, .int v2), (0, .ref (adr ω 50))]) rfl ?_
      refine G_goto (tgt := 29) C dX7_measure_61 (by decide) ?_
      refine G_sub [1, 0] (lv' := [(0, .ref (adr ω 50)), (1, .int v2)]) rfl ?_
      exact k29 _ _ h
def w_X7_measure (M : Mem) (post : Mem → Prop) : Prop := ((((rd M 50 4) - (rd M 50 3)) ≤ 2 → ∀ M3 : Mem, M3 = wr M 50 5 0 → ∀ v4 : Int32, v4 = (rd M3 50 3) → ∃ g29 : Nat, w_X7_measure_L29 post g29 v4 M3) ∧ (¬ ((rd M 50 4) - (rd M 50 3)) ≤ 2 → ∀ M5 : Mem, M5 = wr M 50 2 4 → post M5))
set_option maxRecDepth 100000 in
set_option maxHeartbeats 4000000 in
theorem S_X7_measure {ω : WD} {M : Mem} {post : Mem → Prop} (h : w_X7_measure M post) : MtV ω yX7_measure cX7_measure 2 none 0 [.ref (adr ω 50)] M post := by
  refine MtV.start rfl (by decide +kernel) (own := RX7) rfl (Nat.le_of_ble_eq_true rfl) (fun ρ C R => ?_)
  show G ω ρ M 0 [(0, .ref (adr ω 50))] []
  refine G_aload_n C dX7_measure_0 0 rfl ?_
  refine gf_X7_25 C dX7_measure_1 ?_
  refine G_aload_n C dX7_measure_4 0 rfl ?_
  refine gf_X7_22 C dX7_measure_5 ?_
  refine G_isub C dX7_measure_8 ?_
  refine G_iconst (v := 2) C dX7_measure_9 (by decide) ?_
  obtain ⟨h1, h2⟩ := h
  refine G_icmp_le (tgt := 19) C dX7_measure_10 (by decide) (fun c => ?_) (fun c => ?_)
  · have h := h1 c
    clear h1 h2
    refine G_aload_n C dX7_measure_19 0 rfl ?_
    refine G_iconst (v := 0) C dX7_measure_20 (by decide) ?_
    refine pf_X7_28 C dX7_measure_21 (fun M3 eM3 => ?_)
    replace h := h M3 eM3
    refine G_aload_n C dX7_measure_24 0 rfl ?_
    refine gf_X7_22 C dX7_measure_25 ?_
    refine G_iname (fun v4 ev4 => ?_)
    replace h := h v4 ev4
    refine G_istore_n C dX7_measure_28 (by decide) (lv' := [(1, .int v4), (0, .ref (adr ω 50))]) rfl ?_
    refine G_sub [1, 0] (lv' := [(0, .ref (adr ω 50)), (1, .int v4)]) rfl ?_
    obtain ⟨f, h⟩ := h
    exact s_X7_measure_L29 C R  f _ _ h
  · have h := h2 c
    clear h1 h2
    refine G_aload_n C dX7_measure_13 0 rfl ?_
    refine G_iconst (v := 4) C dX7_measure_14 (by decide) ?_
    refine pf_X7_19 C dX7_measure_15 (fun M5 eM5 => ?_)
    replace h := h M5 eM5
    exact R 18 _ _ dX7_measure_18 h
theorem dX7_next_0 : decode cX7_next 0 = .ok (.aload_n 0, 1) := by decide +kernel
theorem dX7_next_1 : decode cX7_next 1 = .ok (.aload_n 0, 1) := by decide +kernel
theorem dX7_next_2 : decode cX7_next 2 = .ok (.getfield 25, 3) := by decide +kernel
theorem dX7_next_5 : decode cX7_next 5 = .ok (.putfield 22, 3) := by decide +kernel
theorem dX7_next_8 : decode cX7_next 8 = .ok (.aload_n 0, 1) := by decide +kernel
theorem dX7_next_9 : decode cX7_next 9 = .ok (.getfield 22, 3) := by decide +kernel
theorem dX7_next_12 : decode cX7_next 12 = .ok (.aload_n 0, 1) := by decide +kernel
theorem dX7_next_13 : decode cX7_next 13 = .ok (.getfield 15, 3) := by decide +kernel
theorem dX7_next_16 : decode cX7_next 16 = .ok (.if_icmp .ge 30, 3) := by decide +kernel
theorem dX7_next_19 : decode cX7_next 19 = .ok (.aload_n 0, 1) := by decide +kernel
theorem dX7_next_20 : decode cX7_next 20 = .ok (.getfield 9, 3) := by decide +kernel
theorem dX7_next_23 : decode cX7_next 23 = .ok (.aload_n 0, 1) := by decide +kernel
theorem dX7_next_24 : decode cX7_next 24 = .ok (.getfield 22, 3) := by decide +kernel
theorem dX7_next_27 : decode cX7_next 27 = .ok (.iaload, 1) := by decide +kernel
theorem dX7_next_28 : decode cX7_next 28 = .ok (.bipush 32, 2) := by decide +kernel
theorem dX7_next_30 : decode cX7_next 30 = .ok (.if_icmp .ne 16, 3) := by decide +kernel
theorem dX7_next_33 : decode cX7_next 33 = .ok (.aload_n 0, 1) := by decide +kernel
theorem dX7_next_34 : decode cX7_next 34 = .ok (.dup, 1) := by decide +kernel
theorem dX7_next_35 : decode cX7_next 35 = .ok (.getfield 22, 3) := by decide +kernel
theorem dX7_next_38 : decode cX7_next 38 = .ok (.iconst 1, 1) := by decide +kernel
theorem dX7_next_39 : decode cX7_next 39 = .ok (.iadd, 1) := by decide +kernel
theorem dX7_next_40 : decode cX7_next 40 = .ok (.putfield 22, 3) := by decide +kernel
theorem dX7_next_43 : decode cX7_next 43 = .ok (.goto (-35), 3) := by decide +kernel
theorem dX7_next_46 : decode cX7_next 46 = .ok (.aload_n 0, 1) := by decide +kernel
theorem dX7_next_47 : decode cX7_next 47 = .ok (.aload_n 0, 1) := by decide +kernel
theorem dX7_next_48 : decode cX7_next 48 = .ok (.aload_n 0, 1) := by decide +kernel
theorem dX7_next_49 : decode cX7_next 49 = .ok (.getfield 22, 3) := by decide +kernel
theorem dX7_next_52 : decode cX7_next 52 = .ok (.invokevirtual 31, 3) := by decide +kernel
theorem dX7_next_55 : decode cX7_next 55 = .ok (.putfield 19, 3) := by decide +kernel
theorem dX7_next_58 : decode cX7_next 58 = .ok (.aload_n 0, 1) := by decide +kernel
theorem dX7_next_59 : decode cX7_next 59 = .ok (.aload_n 0, 1) := by decide +kernel
theorem dX7_next_60 : decode cX7_next 60 = .ok (.getfield 19, 3) := by decide +kernel
theorem dX7_next_63 : decode cX7_next 63 = .ok (.ifCond .ne 10, 3) := by decide +kernel
theorem dX7_next_66 : decode cX7_next 66 = .ok (.aload_n 0, 1) := by decide +kernel
theorem dX7_next_67 : decode cX7_next 67 = .ok (.getfield 22, 3) := by decide +kernel
theorem dX7_next_70 : decode cX7_next 70 = .ok (.goto 9, 3) := by decide +kernel
theorem dX7_next_73 : decode cX7_next 73 = .ok (.aload_n 0, 1) := by decide +kernel
theorem dX7_next_74 : decode cX7_next 74 = .ok (.getfield 22, 3) := by decide +kernel
theorem dX7_next_77 : decode cX7_next 77 = .ok (.iconst 1, 1) := by decide +kernel
theorem dX7_next_78 : decode cX7_next 78 = .ok (.iadd, 1) := by decide +kernel
theorem dX7_next_79 : decode cX7_next 79 = .ok (.putfield 25, 3) := by decide +kernel
theorem dX7_next_82 : decode cX7_next 82 = .ok (.aload_n 0, 1) := by decide +kernel
theorem dX7_next_83 : decode cX7_next 83 = .ok (.getfield 19, 3) := by decide +kernel
theorem dX7_next_86 : decode cX7_next 86 = .ok (.iconst 1, 1) := by decide +kernel
theorem dX7_next_87 : decode cX7_next 87 = .ok (.if_icmp .eq 11, 3) := by decide +kernel
theorem dX7_next_90 : decode cX7_next 90 = .ok (.aload_n 0, 1) := by decide +kernel
theorem dX7_next_91 : decode cX7_next 91 = .ok (.getfield 19, 3) := by decide +kernel
theorem dX7_next_94 : decode cX7_next 94 = .ok (.iconst 2, 1) := by decide +kernel
theorem dX7_next_95 : decode cX7_next 95 = .ok (.if_icmp .ne 42, 3) := by decide +kernel
theorem dX7_next_98 : decode cX7_next 98 = .ok (.aload_n 0, 1) := by decide +kernel
theorem dX7_next_99 : decode cX7_next 99 = .ok (.getfield 25, 3) := by decide +kernel
theorem dX7_next_102 : decode cX7_next 102 = .ok (.aload_n 0, 1) := by decide +kernel
theorem dX7_next_103 : decode cX7_next 103 = .ok (.getfield 15, 3) := by decide +kernel
theorem dX7_next_106 : decode cX7_next 106 = .ok (.if_icmp .ge 31, 3) := by decide +kernel
theorem dX7_next_109 : decode cX7_next 109 = .ok (.aload_n 0, 1) := by decide +kernel
theorem dX7_next_110 : decode cX7_next 110 = .ok (.aload_n 0, 1) := by decide +kernel
theorem dX7_next_111 : decode cX7_next 111 = .ok (.getfield 25, 3) := by decide +kernel
theorem dX7_next_114 : decode cX7_next 114 = .ok (.invokevirtual 31, 3) := by decide +kernel
theorem dX7_next_117 : decode cX7_next 117 = .ok (.aload_n 0, 1) := by decide +kernel
theorem dX7_next_118 : decode cX7_next 118 = .ok (.getfield 19, 3) := by decide +kernel
theorem dX7_next_121 : decode cX7_next 121 = .ok (.if_icmp .ne 16, 3) := by decide +kernel
theorem dX7_next_124 : decode cX7_next 124 = .ok (.aload_n 0, 1) := by decide +kernel
theorem dX7_next_125 : decode cX7_next 125 = .ok (.dup, 1) := by decide +kernel
theorem dX7_next_126 : decode cX7_next 126 = .ok (.getfield 25, 3) := by decide +kernel
theorem dX7_next_129 : decode cX7_next 129 = .ok (.iconst 1, 1) := by decide +kernel
theorem dX7_next_130 : decode cX7_next 130 = .ok (.iadd, 1) := by decide +kernel
theorem dX7_next_131 : decode cX7_next 131 = .ok (.putfield 25, 3) := by decide +kernel
theorem dX7_next_134 : decode cX7_next 134 = .ok (.goto (-36), 3) := by decide +kernel
theorem dX7_next_137 : decode cX7_next 137 = .ok (.aload_n 0, 1) := by decide +kernel
theorem dX7_next_138 : decode cX7_next 138 = .ok (.getfield 19, 3) := by decide +kernel
theorem dX7_next_141 : decode cX7_next 141 = .ok (.iconst 2, 1) := by decide +kernel
theorem dX7_next_142 : decode cX7_next 142 = .ok (.if_icmp .ne 7, 3) := by decide +kernel
theorem dX7_next_145 : decode cX7_next 145 = .ok (.aload_n 0, 1) := by decide +kernel
theorem dX7_next_146 : decode cX7_next 146 = .ok (.invokevirtual 35, 3) := by decide +kernel
theorem dX7_next_149 : decode cX7_next 149 = .ok (.return_, 1) := by decide +kernel
theorem gf_X7_19 {ω : WD} {ρ : FR} {M : Mem} {cc : ByteArray} {d n pc : Nat} {lv : List (Nat × Value)} {rest : List Value} (C : Cx ω ρ cc RX7 d n) (hd : decode cc pc = .ok (.getfield 19, 3)) (k : G ω ρ M (pc + 3) lv (.int (rd M 50 2) :: rest)) : G ω ρ M pc lv (.ref (adr ω 50) :: rest) := G_get (N := 6) (T := TX7) (C := RX7) (q := 2) C (q50 : isK 7 50) (by decide) rfl in_X7 (by decide) (tb_of 265 ⟨by decide +kernel, rfl⟩) rfl rfl hd k
theorem lk_X7_35 : LkV RX7 35 RX7 yX7_measure cX7_measure 2 none 0 := LkV.of 449 450 451 67 452 (by decide +kernel) (by decide +kernel) (by decide +kernel) (by decide +kernel) (by decide +kernel) (by decide +kernel)
theorem lk_X7_31 : LkV RX7 31 RX7 yX7_kindAt cX7_kindAt 3 (some .int) 1 := LkV.of 445 446 447 67 448 (by decide +kernel) (by decide +kernel) (by decide +kernel) (by decide +kernel) (by decide +kernel) (by decide +kernel)
def w_X7_next_J137 (post : Mem → Prop) (M : Mem) : Prop := ((¬ (rd M 50 2) = 2 → post M) ∧ ((rd M 50 2) = 2 → w_X7_measure M (fun (M1 : Mem) => post M1)))
set_option maxRecDepth 100000 in
set_option maxHeartbeats 4000000 in
theorem s_X7_next_J137 {ω : WD} {ρ : FR} {post : Mem → Prop} (C : Cx ω ρ cX7_next RX7 1 1) (R : RtV ω ρ cX7_next post) {M : Mem} (h : w_X7_next_J137 post M) : G ω ρ M 137 [(0, .ref (adr ω 50))] [] := by
  refine G_aload_n C dX7_next_137 0 rfl ?_
  refine gf_X7_19 C dX7_next_138 ?_
  refine G_iconst (v := 2) C dX7_next_141 (by decide) ?_
  obtain ⟨h1, h2⟩ := h
  refine G_icmp_ne (tgt := 149) C dX7_next_142 (by decide) (fun c => ?_) (fun c => ?_)
  · have h := h1 c
    clear h1 h2
    exact R 149 _ _ dX7_next_149 h
  · have h := h2 c
    clear h1 h2
    refine G_aload_n C dX7_next_145 0 rfl ?_
    refine G_callV (As := []) (rest := []) C dX7_next_146 lk_X7_35 (Nat.le_of_ble_eq_true rfl) (Nat.le_of_ble_eq_true rfl) q50 (by decide) rfl (Nat.le_of_ble_eq_true rfl) rfl (S_X7_measure h) (fun M1 h => ?_)
    exact R 149 _ _ dX7_next_149 h
def w_X7_next_L98 (post : Mem → Prop) : Nat → Mem → Prop
  | 0, _ => False
  | f + 1, M => (((rd M 50 1) ≤ (rd M 50 4) → w_X7_next_J137 post M) ∧ (¬ (rd M 50 1) ≤ (rd M 50 4) → w_X7_kindAt (rd M 50 4) M (fun (r3 : Int32) (M2 : Mem) => ((¬ r3 = (rd M2 50 2) → w_X7_next_J137 post M2) ∧ (r3 = (rd M2 50 2) → ∀ M4 : Mem, M4 = wr M2 50 4 ((rd M2 50 4) + 1) → (w_X7_next_L98 post f) M4)))))
set_option maxRecDepth 100000 in
set_option maxHeartbeats 4000000 in
theorem s_X7_next_L98 {ω : WD} {ρ : FR} {post : Mem → Prop} (C : Cx ω ρ cX7_next RX7 1 1) (R : RtV ω ρ cX7_next post) : ∀ (f : Nat)  (M : Mem), w_X7_next_L98 post f  M → G ω ρ M 98 [(0, .ref (adr ω 50))] [] := by
  intro f
  induction f with
  | zero => intro  M h; exact False.elim h
  | succ f k98 =>
    intro  M h
    refine G_aload_n C dX7_next_98 0 rfl ?_
    refine gf_X7_25 C dX7_next_99 ?_
    refine G_aload_n C dX7_next_102 0 rfl ?_
    refine gf_X7_15 C dX7_next_103 ?_
    obtain ⟨h1, h2⟩ := h
    refine G_icmp_ge (tgt := 137) C dX7_next_106 (by decide) (fun c => ?_) (fun c => ?_)
    · have h := h1 c
      clear h1 h2
      exact s_X7_next_J137 C R  h
    · have h := h2 c
      clear h1 h2
      refine G_aload_n C dX7_next_109 0 rfl ?_
      refine G_aload_n C dX7_next_110 0 rfl ?_
      refine gf_X7_25 C dX7_next_111 ?_
      refine G_callI (As := [.int (rd M 50 4)]) (rest := []) C dX7_next_114 lk_X7_31 (Nat.le_of_ble_eq_true rfl) (Nat.le_of_ble_eq_true rfl) q50 (by decide) rfl (Nat.le_of_ble_eq_true rfl) rfl (S_X7_kindAt h) (fun r3 M2 h => ?_)
      refine G_aload_n C dX7_next_117 0 rfl ?_
      refine gf_X7_19 C dX7_next_118 ?_
      obtain ⟨h1, h2⟩ := h
      refine G_icmp_ne (tgt := 137) C dX7_next_121 (by decide) (fun c => ?_) (fun c => ?_)
      · have h := h1 c
        clear h1 h2
        exact s_X7_next_J137 C R  h
      · have h := h2 c
        clear h1 h2
        refine G_aload_n C dX7_next_124 0 rfl ?_
        refine G_dup C dX7_next_125 rfl ?_
        refine gf_X7_25 C dX7_next_126 ?_
        refine G_iconst (v := 1) C dX7_next_129 (by decide) ?_
        refine G_iadd C dX7_next_130 ?_
        refine pf_X7_25 C dX7_next_131 (fun M4 eM4 => ?_)
        replace h := h M4 eM4
        refine G_goto (tgt := 98) C dX7_next_134 (by decide) ?_
        exact k98 _ h
def w_X7_next_J79 (post : Mem → Prop) (s1 : Int32) (M : Mem) : Prop := ∀ M5 : Mem, M5 = wr M 50 4 s1 → (((rd M5 50 2) = 1 → ∃ g98 : Nat, w_X7_next_L98 post g98 M5) ∧ (¬ (rd M5 50 2) = 1 → ((¬ (rd M5 50 2) = 2 → w_X7_next_J137 post M5) ∧ ((rd M5 50 2) = 2 → ∃ g98 : Nat, w_X7_next_L98 post g98 M5))))
set_option maxRecDepth 100000 in
set_option maxHeartbeats 4000000 in
theorem s_X7_next_J79 {ω : WD} {ρ : FR} {post : Mem → Prop} (C : Cx ω ρ cX7_next RX7 1 1) (R : RtV ω ρ cX7_next post) {s1 : Int32} {M : Mem} (h : w_X7_next_J79 post s1 M) : G ω ρ M 79 [(0, .ref (adr ω 50))] [.int s1, .ref (adr ω 50)] := by
  refine pf_X7_25 C dX7_next_79 (fun M5 eM5 => ?_)
  replace h := h M5 eM5
  refine G_aload_n C dX7_next_82 0 rfl ?_
  refine gf_X7_19 C dX7_next_83 ?_
  refine G_iconst (v := 1) C dX7_next_86 (by decide) ?_
  obtain ⟨h1, h2⟩ := h
  refine G_icmp_eq (tgt := 98) C dX7_next_87 (by decide) (fun c => ?_) (fun c => ?_)
  · have h := h1 c
    clear h1 h2
    obtain ⟨f, h⟩ := h
    exact s_X7_next_L98 C R  f _ h
  · have h := h2 c
    clear h1 h2
    refine G_aload_n C dX7_next_90 0 rfl ?_
    refine gf_X7_19 C dX7_next_91 ?_
    refine G_iconst (v := 2) C dX7_next_94 (by decide) ?_
    obtain ⟨h1, h2⟩ := h
    refine G_icmp_ne (tgt := 137) C dX7_next_95 (by decide) (fun c => ?_) (fun c => ?_)
    · have h := h1 c
      clear h1 h2
      exact s_X7_next_J137 C R  h
    · have h := h2 c
      clear h1 h2
      obtain ⟨f, h⟩ := h
      exact s_X7_next_L98 C R  f _ h
def w_X7_next_J46 (post : Mem → Prop) (M : Mem) : Prop := w_X7_kindAt (rd M 50 3) M (fun (r7 : Int32) (M6 : Mem) => ∀ M8 : Mem, M8 = wr M6 50 2 r7 → ((¬ (rd M8 50 2) = 0 → w_X7_next_J79 post ((rd M8 50 3) + 1) M8) ∧ ((rd M8 50 2) = 0 → w_X7_next_J79 post (rd M8 50 3) M8)))
set_option maxRecDepth 100000 in
set_option maxHeartbeats 4000000 in
theorem s_X7_next_J46 {ω : WD} {ρ : FR} {post : Mem → Prop} (C : Cx ω ρ cX7_next RX7 1 1) (R : RtV ω ρ cX7_next post) {M : Mem} (h : w_X7_next_J46 post M) : G ω ρ M 46 [(0, .ref (adr ω 50))] [] := by
  refine G_aload_n C dX7_next_46 0 rfl ?_
  refine G_aload_n C dX7_next_47 0 rfl ?_
  refine G_aload_n C dX7_next_48 0 rfl ?_
  refine gf_X7_22 C dX7_next_49 ?_
  refine G_callI (As := [.int (rd M 50 3)]) (rest := [.ref (adr ω 50)]) C dX7_next_52 lk_X7_31 (Nat.le_of_ble_eq_true rfl) (Nat.le_of_ble_eq_true rfl) q50 (by decide) rfl (Nat.le_of_ble_eq_true rfl) rfl (S_X7_kindAt h) (fun r7 M6 h => ?_)
  refine pf_X7_19 C dX7_next_55 (fun M8 eM8 => ?_)
  replace h := h M8 eM8
  refine G_aload_n C dX7_next_58 0 rfl ?_
  refine G_aload_n C dX7_next_59 0 rfl ?_
  refine gf_X7_19 C dX7_next_60 ?_
  obtain ⟨h1, h2⟩ := h
  refine G_if_ne (tgt := 73) C dX7_next_63 (by decide) (fun c => ?_) (fun c => ?_)
  · have h := h1 c
    clear h1 h2
    refine G_aload_n C dX7_next_73 0 rfl ?_
    refine gf_X7_22 C dX7_next_74 ?_
    refine G_iconst (v := 1) C dX7_next_77 (by decide) ?_
    refine G_iadd C dX7_next_78 ?_
    exact s_X7_next_J79 C R  h
  · have h := h2 c
    clear h1 h2
    refine G_aload_n C dX7_next_66 0 rfl ?_
    refine gf_X7_22 C dX7_next_67 ?_
    refine G_goto (tgt := 79) C dX7_next_70 (by decide) ?_
    exact s_X7_next_J79 C R  h
def w_X7_next_L8 (post : Mem → Prop) : Nat → Mem → Prop
  | 0, _ => False
  | f + 1, M => (((rd M 50 1) ≤ (rd M 50 3) → w_X7_next_J46 post M) ∧ (¬ (rd M 50 1) ≤ (rd M 50 3) → vp_in (rd M 50 3) 160 ∧ (((¬ (rd M 51 (rd M 50 3).toNatClampNeg) = 32 → w_X7_next_J46 post M) ∧ ((rd M 51 (rd M 50 3).toNatClampNeg) = 32 → ∀ M9 : Mem, M9 = wr M 50 3 ((rd M 50 3) + 1) → (w_X7_next_L8 post f) M9)))))
set_option maxRecDepth 100000 in
set_option maxHeartbeats 4000000 in
theorem s_X7_next_L8 {ω : WD} {ρ : FR} {post : Mem → Prop} (C : Cx ω ρ cX7_next RX7 1 1) (R : RtV ω ρ cX7_next post) : ∀ (f : Nat)  (M : Mem), w_X7_next_L8 post f  M → G ω ρ M 8 [(0, .ref (adr ω 50))] [] := by
  intro f
  induction f with
  | zero => intro  M h; exact False.elim h
  | succ f k8 =>
    intro  M h
    refine G_aload_n C dX7_next_8 0 rfl ?_
    refine gf_X7_22 C dX7_next_9 ?_
    refine G_aload_n C dX7_next_12 0 rfl ?_
    refine gf_X7_15 C dX7_next_13 ?_
    obtain ⟨h1, h2⟩ := h
    refine G_icmp_ge (tgt := 46) C dX7_next_16 (by decide) (fun c => ?_) (fun c => ?_)
    · have h := h1 c
      clear h1 h2
      exact s_X7_next_J46 C R  h
    · have h := h2 c
      clear h1 h2
      refine G_aload_n C dX7_next_19 0 rfl ?_
      refine gf_X7_9 C dX7_next_20 ?_
      refine G_aload_n C dX7_next_23 0 rfl ?_
      refine gf_X7_22 C dX7_next_24 ?_
      obtain ⟨hi, h⟩ := h
      refine G_iald C q51 hi dX7_next_27 ?_
      refine G_bipush (v := 32) C dX7_next_28 (by decide) ?_
      obtain ⟨h1, h2⟩ := h
      refine G_icmp_ne (tgt := 46) C dX7_next_30 (by decide) (fun c => ?_) (fun c => ?_)
      · have h := h1 c
        clear h1 h2
        exact s_X7_next_J46 C R  h
      · have h := h2 c
        clear h1 h2
        refine G_aload_n C dX7_next_33 0 rfl ?_
        refine G_dup C dX7_next_34 rfl ?_
        refine gf_X7_22 C dX7_next_35 ?_
        refine G_iconst (v := 1) C dX7_next_38 (by decide) ?_
        refine G_iadd C dX7_next_39 ?_
        refine pf_X7_22 C dX7_next_40 (fun M9 eM9 => ?_)
        replace h := h M9 eM9
        refine G_goto (tgt := 8) C dX7_next_43 (by decide) ?_
        exact k8 _ h
def w_X7_next (M : Mem) (post : Mem → Prop) : Prop := ∀ M10 : Mem, M10 = wr M 50 3 (rd M 50 4) → ∃ g8 : Nat, w_X7_next_L8 post g8 M10
set_option maxRecDepth 100000 in
set_option maxHeartbeats 4000000 in
theorem S_X7_next {ω : WD} {M : Mem} {post : Mem → Prop} (h : w_X7_next M post) : MtV ω yX7_next cX7_next 1 none 1 [.ref (adr ω 50)] M post := by
  refine MtV.start rfl (by decide +kernel) (own := RX7) rfl (Nat.le_of_ble_eq_true rfl) (fun ρ C R => ?_)
  show G ω ρ M 0 [(0, .ref (adr ω 50))] []
  refine G_aload_n C dX7_next_0 0 rfl ?_
  refine G_aload_n C dX7_next_1 0 rfl ?_
  refine gf_X7_25 C dX7_next_2 ?_
  refine pf_X7_22 C dX7_next_5 (fun M10 eM10 => ?_)
  replace h := h M10 eM10
  obtain ⟨f, h⟩ := h
  exact s_X7_next_L8 C R  f _ h
end
section
theorem dX8_fateOf_0 : decode cX8_fateOf 0 = .ok (.aload_n 0, 1) := by decide +kernel
theorem dX8_fateOf_1 : decode cX8_fateOf 1 = .ok (.getfield 12, 3) := by decide +kernel
theorem dX8_fateOf_4 : decode cX8_fateOf 4 = .ok (.getfield 54, 3) := by decide +kernel
theorem dX8_fateOf_7 : decode cX8_fateOf 7 = .ok (.iload_n 1, 1) := by decide +kernel
theorem dX8_fateOf_8 : decode cX8_fateOf 8 = .ok (.iaload, 1) := by decide +kernel
theorem dX8_fateOf_9 : decode cX8_fateOf 9 = .ok (.ifCond .ne 7, 3) := by decide +kernel
theorem dX8_fateOf_12 : decode cX8_fateOf 12 = .ok (.iconst 1, 1) := by decide +kernel
theorem dX8_fateOf_13 : decode cX8_fateOf 13 = .ok (.goto 4, 3) := by decide +kernel
theorem dX8_fateOf_16 : decode cX8_fateOf 16 = .ok (.iconst 0, 1) := by decide +kernel
theorem dX8_fateOf_17 : decode cX8_fateOf 17 = .ok (.istore_n 3, 1) := by decide +kernel
theorem dX8_fateOf_18 : decode cX8_fateOf 18 = .ok (.iload_n 3, 1) := by decide +kernel
theorem dX8_fateOf_19 : decode cX8_fateOf 19 = .ok (.iload_n 2, 1) := by decide +kernel
theorem dX8_fateOf_20 : decode cX8_fateOf 20 = .ok (.bipush 99, 2) := by decide +kernel
theorem dX8_fateOf_22 : decode cX8_fateOf 22 = .ok (.if_icmp .ne 7, 3) := by decide +kernel
theorem dX8_fateOf_25 : decode cX8_fateOf 25 = .ok (.iconst 1, 1) := by decide +kernel
theorem dX8_fateOf_26 : decode cX8_fateOf 26 = .ok (.goto 4, 3) := by decide +kernel
theorem dX8_fateOf_29 : decode cX8_fateOf 29 = .ok (.iconst 0, 1) := by decide +kernel
theorem dX8_fateOf_30 : decode cX8_fateOf 30 = .ok (.if_icmp .ne 6, 3) := by decide +kernel
theorem dX8_fateOf_33 : decode cX8_fateOf 33 = .ok (.bipush 6, 2) := by decide +kernel
theorem dX8_fateOf_35 : decode cX8_fateOf 35 = .ok (.ireturn, 1) := by decide +kernel
theorem dX8_fateOf_36 : decode cX8_fateOf 36 = .ok (.iload_n 3, 1) := by decide +kernel
theorem dX8_fateOf_37 : decode cX8_fateOf 37 = .ok (.ifCond .eq 13, 3) := by decide +kernel
theorem dX8_fateOf_40 : decode cX8_fateOf 40 = .ok (.aload_n 0, 1) := by decide +kernel
theorem dX8_fateOf_41 : decode cX8_fateOf 41 = .ok (.getfield 12, 3) := by decide +kernel
theorem dX8_fateOf_44 : decode cX8_fateOf 44 = .ok (.iload_n 1, 1) := by decide +kernel
theorem dX8_fateOf_45 : decode cX8_fateOf 45 = .ok (.iload_n 2, 1) := by decide +kernel
theorem dX8_fateOf_46 : decode cX8_fateOf 46 = .ok (.invokevirtual 57, 3) := by decide +kernel
theorem dX8_fateOf_49 : decode cX8_fateOf 49 = .ok (.ireturn, 1) := by decide +kernel
theorem dX8_fateOf_50 : decode cX8_fateOf 50 = .ok (.aload_n 0, 1) := by decide +kernel
theorem dX8_fateOf_51 : decode cX8_fateOf 51 = .ok (.getfield 12, 3) := by decide +kernel
theorem dX8_fateOf_54 : decode cX8_fateOf 54 = .ok (.iload_n 1, 1) := by decide +kernel
theorem dX8_fateOf_55 : decode cX8_fateOf 55 = .ok (.invokevirtual 60, 3) := by decide +kernel
theorem dX8_fateOf_58 : decode cX8_fateOf 58 = .ok (.pop, 1) := by decide +kernel
theorem dX8_fateOf_59 : decode cX8_fateOf 59 = .ok (.iconst 0, 1) := by decide +kernel
theorem dX8_fateOf_60 : decode cX8_fateOf 60 = .ok (.ireturn, 1) := by decide +kernel
theorem gf_X8_12 {ω : WD} {ρ : FR} {M : Mem} {cc : ByteArray} {d n pc : Nat} {lv : List (Nat × Value)} {rest : List Value} (C : Cx ω ρ cc RX8 d n) (hd : decode cc pc = .ok (.getfield 12, 3)) (k : G ω ρ M (pc + 3) lv (.ref (adr ω 23) :: rest)) : G ω ρ M pc lv (.ref (adr ω 22) :: rest) := G_get (N := 6) (T := TX8) (C := RX8) (q := 0) C (q22 : isK 8 22) (by decide) rfl in_X8 (by decide) (tb_of 215 ⟨by decide +kernel, rfl⟩) rfl rfl hd k
theorem lk_X8_60 : LkV RX8 60 RX1 yX1_part cX1_part 4 (some .int) 1 := LkV.of 741 721 722 62 723 (by decide +kernel) (by decide +kernel) (by decide +kernel) (by decide +kernel) (by decide +kernel) (by decide +kernel)
theorem lk_X8_57 : LkV RX8 57 RX1 yX1_ring cX1_ring 7 (some .int) 2 := LkV.of 740 703 704 62 705 (by decide +kernel) (by decide +kernel) (by decide +kernel) (by decide +kernel) (by decide +kernel) (by decide +kernel)
theorem gf_X8_54 {ω : WD} {ρ : FR} {M : Mem} {cc : ByteArray} {d n pc i : Nat} {lv : List (Nat × Value)} {rest : List Value} (C : Cx ω ρ cc RX8 d n) (hk : isK 1 i) (hd : decode cc pc = .ok (.getfield 54, 3)) (k : G ω ρ M (pc + 3) lv (.ref (adr ω (i + 3)) :: rest)) : G ω ρ M pc lv (.ref (adr ω i) :: rest) := G_get (N := 8) (T := TX1) (C := RX1) (q := 5) C hk (by decide) rfl in_X1 (by decide) (tb_of 144 ⟨by decide +kernel, rfl⟩) rfl rfl hd k
def w_X8_fateOf_J30 (post : Int32 → Mem → Prop) (l1 : Int32) (l2 : Int32) (l3 : Int32) (s0 : Int32) (s1 : Int32) (M : Mem) : Prop := ((¬ s0 = s1 → ((l3 = 0 → w_X1_part 23 l1 M (fun (r2 : Int32) (M1 : Mem) => post 0 M1)) ∧ (¬ l3 = 0 → w_X1_ring 23 l1 l2 M (fun (r4 : Int32) (M3 : Mem) => post r4 M3)))) ∧ (s0 = s1 → post 6 M))
set_option maxRecDepth 100000 in
set_option maxHeartbeats 4000000 in
theorem s_X8_fateOf_J30 {ω : WD} {ρ : FR} {post : Int32 → Mem → Prop} (C : Cx ω ρ cX8_fateOf RX8 3 4) (R : RtI ω ρ cX8_fateOf .int post) {l1 : Int32} {l2 : Int32} {l3 : Int32} {s0 : Int32} {s1 : Int32} {M : Mem} (h : w_X8_fateOf_J30 post l1 l2 l3 s0 s1 M) : G ω ρ M 30 [(0, .ref (adr ω 22)), (1, .int l1), (2, .int l2), (3, .int l3)] [.int s1, .int s0] := by
  obtain ⟨h1, h2⟩ := h
  refine G_icmp_ne (tgt := 36) C dX8_fateOf_30 (by decide) (fun c => ?_) (fun c => ?_)
  · have h := h1 c
    clear h1 h2
    refine G_iload_n C dX8_fateOf_36 3 rfl ?_
    obtain ⟨h1, h2⟩ := h
    refine G_if_eq (tgt := 50) C dX8_fateOf_37 (by decide) (fun c => ?_) (fun c => ?_)
    · have h := h1 c
      clear h1 h2
      refine G_aload_n C dX8_fateOf_50 0 rfl ?_
      refine gf_X8_12 C dX8_fateOf_51 ?_
      refine G_iload_n C dX8_fateOf_54 1 rfl ?_
      refine G_callI (As := [.int l1]) (rest := []) C dX8_fateOf_55 lk_X8_60 (Nat.le_of_ble_eq_true rfl) (Nat.le_of_ble_eq_true rfl) q23 (by decide) rfl (Nat.le_of_ble_eq_true rfl) rfl (S_X1_part q23 h) (fun r2 M1 h => ?_)
      refine G_pop C dX8_fateOf_58 rfl ?_
      refine G_iconst (v := 0) C dX8_fateOf_59 (by decide) ?_
      exact R 60 _ _ _ dX8_fateOf_60 rfl h
    · have h := h2 c
      clear h1 h2
      refine G_aload_n C dX8_fateOf_40 0 rfl ?_
      refine gf_X8_12 C dX8_fateOf_41 ?_
      refine G_iload_n C dX8_fateOf_44 1 rfl ?_
      refine G_iload_n C dX8_fateOf_45 2 rfl ?_
      refine G_callI (As := [.int l1, .int l2]) (rest := []) C dX8_fateOf_46 lk_X8_57 (Nat.le_of_ble_eq_true rfl) (Nat.le_of_ble_eq_true rfl) q23 (by decide) rfl (Nat.le_of_ble_eq_true rfl) rfl (S_X1_ring q23 h) (fun r4 M3 h => ?_)
      exact R 49 _ _ _ dX8_fateOf_49 rfl h
  · have h := h2 c
    clear h1 h2
    refine G_bipush (v := 6) C dX8_fateOf_33 (by decide) ?_
    exact R 35 _ _ _ dX8_fateOf_35 rfl h
def w_X8_fateOf_J17 (post : Int32 → Mem → Prop) (l1 : Int32) (l2 : Int32) (s0 : Int32) (M : Mem) : Prop := ((¬ l2 = 99 → w_X8_fateOf_J30 post l1 l2 s0 s0 0 M) ∧ (l2 = 99 → w_X8_fateOf_J30 post l1 l2 s0 s0 1 M))
set_option maxRecDepth 100000 in
set_option maxHeartbeats 4000000 in
theorem s_X8_fateOf_J17 {ω : WD} {ρ : FR} {post : Int32 → Mem → Prop} (C : Cx ω ρ cX8_fateOf RX8 3 4) (R : RtI ω ρ cX8_fateOf .int post) {l1 : Int32} {l2 : Int32} {s0 : Int32} {M : Mem} (h : w_X8_fateOf_J17 post l1 l2 s0 M) : G ω ρ M 17 [(0, .ref (adr ω 22)), (1, .int l1), (2, .int l2)] [.int s0] := by
  refine G_istore_n C dX8_fateOf_17 (by decide) (lv' := [(3, .int s0), (0, .ref (adr ω 22)), (1, .int l1), (2, .int l2)]) rfl ?_
  refine G_iload_n C dX8_fateOf_18 0 rfl ?_
  refine G_iload_n C dX8_fateOf_19 3 rfl ?_
  refine G_bipush (v := 99) C dX8_fateOf_20 (by decide) ?_
  obtain ⟨h1, h2⟩ := h
  refine G_icmp_ne (tgt := 29) C dX8_fateOf_22 (by decide) (fun c => ?_) (fun c => ?_)
  · have h := h1 c
    clear h1 h2
    refine G_iconst (v := 0) C dX8_fateOf_29 (by decide) ?_
    refine G_sub [1, 2, 3, 0] (lv' := [(0, .ref (adr ω 22)), (1, .int l1), (2, .int l2), (3, .int s0)]) rfl ?_
    exact s_X8_fateOf_J30 C R  h
  · have h := h2 c
    clear h1 h2
    refine G_iconst (v := 1) C dX8_fateOf_25 (by decide) ?_
    refine G_goto (tgt := 30) C dX8_fateOf_26 (by decide) ?_
    refine G_sub [1, 2, 3, 0] (lv' := [(0, .ref (adr ω 22)), (1, .int l1), (2, .int l2), (3, .int s0)]) rfl ?_
    exact s_X8_fateOf_J30 C R  h
def w_X8_fateOf (l1 : Int32) (l2 : Int32) (M : Mem) (post : Int32 → Mem → Prop) : Prop := vp_in l1 6 ∧ (((¬ (rd M 26 l1.toNatClampNeg) = 0 → w_X8_fateOf_J17 post l1 l2 0 M) ∧ ((rd M 26 l1.toNatClampNeg) = 0 → w_X8_fateOf_J17 post l1 l2 1 M)))
set_option maxRecDepth 100000 in
set_option maxHeartbeats 4000000 in
theorem S_X8_fateOf {ω : WD} {l1 : Int32} {l2 : Int32} {M : Mem} {post : Int32 → Mem → Prop} (h : w_X8_fateOf l1 l2 M post) : MtI ω yX8_fateOf cX8_fateOf 4 (some .int) 3 [.ref (adr ω 22), .int l1, .int l2] M post := by
  refine MtI.start (ty := .int) rfl (by decide +kernel) (own := RX8) rfl (Nat.le_of_ble_eq_true rfl) (fun ρ C R => ?_)
  show G ω ρ M 0 [(0, .ref (adr ω 22)), (1, .int l1), (2, .int l2)] []
  refine G_aload_n C dX8_fateOf_0 0 rfl ?_
  refine gf_X8_12 C dX8_fateOf_1 ?_
  refine gf_X8_54 C q23 dX8_fateOf_4 ?_
  refine G_iload_n C dX8_fateOf_7 1 rfl ?_
  obtain ⟨hi, h⟩ := h
  refine G_iald C q26 hi dX8_fateOf_8 ?_
  obtain ⟨h1, h2⟩ := h
  refine G_if_ne (tgt := 16) C dX8_fateOf_9 (by decide) (fun c => ?_) (fun c => ?_)
  · have h := h1 c
    clear h1 h2
    refine G_iconst (v := 0) C dX8_fateOf_16 (by decide) ?_
    exact s_X8_fateOf_J17 C R  h
  · have h := h2 c
    clear h1 h2
    refine G_iconst (v := 1) C dX8_fateOf_12 (by decide) ?_
    refine G_goto (tgt := 17) C dX8_fateOf_13 (by decide) ?_
    exact s_X8_fateOf_J17 C R  h
theorem dX8_note_0 : decode cX8_note 0 = .ok (.aload_n 0, 1) := by decide +kernel
theorem dX8_note_1 : decode cX8_note 1 = .ok (.getfield 18, 3) := by decide +kernel
theorem dX8_note_4 : decode cX8_note 4 = .ok (.iload_n 1, 1) := by decide +kernel
theorem dX8_note_5 : decode cX8_note 5 = .ok (.iaload, 1) := by decide +kernel
theorem dX8_note_6 : decode cX8_note 6 = .ok (.istore_n 3, 1) := by decide +kernel
theorem dX8_note_7 : decode cX8_note 7 = .ok (.iload_n 3, 1) := by decide +kernel
theorem dX8_note_8 : decode cX8_note 8 = .ok (.bipush 6, 2) := by decide +kernel
theorem dX8_note_10 : decode cX8_note 10 = .ok (.if_icmp .ne 16, 3) := by decide +kernel
theorem dX8_note_13 : decode cX8_note 13 = .ok (.aload_n 0, 1) := by decide +kernel
theorem dX8_note_14 : decode cX8_note 14 = .ok (.dup, 1) := by decide +kernel
theorem dX8_note_15 : decode cX8_note 15 = .ok (.getfield 32, 3) := by decide +kernel
theorem dX8_note_18 : decode cX8_note 18 = .ok (.iconst 1, 1) := by decide +kernel
theorem dX8_note_19 : decode cX8_note 19 = .ok (.iadd, 1) := by decide +kernel
theorem dX8_note_20 : decode cX8_note 20 = .ok (.putfield 32, 3) := by decide +kernel
theorem dX8_note_23 : decode cX8_note 23 = .ok (.goto 48, 3) := by decide +kernel
theorem dX8_note_26 : decode cX8_note 26 = .ok (.iload_n 3, 1) := by decide +kernel
theorem dX8_note_27 : decode cX8_note 27 = .ok (.ifCond .eq 30, 3) := by decide +kernel
theorem dX8_note_30 : decode cX8_note 30 = .ok (.aload_n 0, 1) := by decide +kernel
theorem dX8_note_31 : decode cX8_note 31 = .ok (.dup, 1) := by decide +kernel
theorem dX8_note_32 : decode cX8_note 32 = .ok (.getfield 26, 3) := by decide +kernel
theorem dX8_note_35 : decode cX8_note 35 = .ok (.iconst 1, 1) := by decide +kernel
theorem dX8_note_36 : decode cX8_note 36 = .ok (.iadd, 1) := by decide +kernel
theorem dX8_note_37 : decode cX8_note 37 = .ok (.putfield 26, 3) := by decide +kernel
theorem dX8_note_40 : decode cX8_note 40 = .ok (.aload_n 0, 1) := by decide +kernel
theorem dX8_note_41 : decode cX8_note 41 = .ok (.getfield 29, 3) := by decide +kernel
theorem dX8_note_44 : decode cX8_note 44 = .ok (.bipush (-4), 2) := by decide +kernel
theorem dX8_note_46 : decode cX8_note 46 = .ok (.if_icmp .ne 25, 3) := by decide +kernel
theorem dX8_note_49 : decode cX8_note 49 = .ok (.aload_n 0, 1) := by decide +kernel
theorem dX8_note_50 : decode cX8_note 50 = .ok (.iload_n 1, 1) := by decide +kernel
theorem dX8_note_51 : decode cX8_note 51 = .ok (.putfield 29, 3) := by decide +kernel
theorem dX8_note_54 : decode cX8_note 54 = .ok (.goto 17, 3) := by decide +kernel
theorem dX8_note_57 : decode cX8_note 57 = .ok (.iload_n 2, 1) := by decide +kernel
theorem dX8_note_58 : decode cX8_note 58 = .ok (.ifCond .ne 13, 3) := by decide +kernel
theorem dX8_note_61 : decode cX8_note 61 = .ok (.aload_n 0, 1) := by decide +kernel
theorem dX8_note_62 : decode cX8_note 62 = .ok (.dup, 1) := by decide +kernel
theorem dX8_note_63 : decode cX8_note 63 = .ok (.getfield 22, 3) := by decide +kernel
theorem dX8_note_66 : decode cX8_note 66 = .ok (.iconst 1, 1) := by decide +kernel
theorem dX8_note_67 : decode cX8_note 67 = .ok (.iadd, 1) := by decide +kernel
theorem dX8_note_68 : decode cX8_note 68 = .ok (.putfield 22, 3) := by decide +kernel
theorem dX8_note_71 : decode cX8_note 71 = .ok (.return_, 1) := by decide +kernel
theorem gf_X8_18 {ω : WD} {ρ : FR} {M : Mem} {cc : ByteArray} {d n pc : Nat} {lv : List (Nat × Value)} {rest : List Value} (C : Cx ω ρ cc RX8 d n) (hd : decode cc pc = .ok (.getfield 18, 3)) (k : G ω ρ M (pc + 3) lv (.ref (adr ω 39) :: rest)) : G ω ρ M pc lv (.ref (adr ω 22) :: rest) := G_get (N := 6) (T := TX8) (C := RX8) (q := 1) C (q22 : isK 8 22) (by decide) rfl in_X8 (by decide) (tb_of 217 ⟨by decide +kernel, rfl⟩) rfl rfl hd k
theorem gf_X8_22 {ω : WD} {ρ : FR} {M : Mem} {cc : ByteArray} {d n pc : Nat} {lv : List (Nat × Value)} {rest : List Value} (C : Cx ω ρ cc RX8 d n) (hd : decode cc pc = .ok (.getfield 22, 3)) (k : G ω ρ M (pc + 3) lv (.int (rd M 22 2) :: rest)) : G ω ρ M pc lv (.ref (adr ω 22) :: rest) := G_get (N := 6) (T := TX8) (C := RX8) (q := 2) C (q22 : isK 8 22) (by decide) rfl in_X8 (by decide) (tb_of 219 ⟨by decide +kernel, rfl⟩) rfl rfl hd k
theorem pf_X8_22 {ω : WD} {ρ : FR} {M : Mem} {cc : ByteArray} {d n pc : Nat} {lv : List (Nat × Value)} {rest : List Value} {v : Int32} (C : Cx ω ρ cc RX8 d n) (hd : decode cc pc = .ok (.putfield 22, 3)) (k : ∀ M1, M1 = wr M 22 2 v → G ω ρ M1 (pc + 3) lv rest) : G ω ρ M pc lv (.int v :: .ref (adr ω 22) :: rest) := G_put (N := 6) (T := TX8) (C := RX8) (q := 2) (ty := .int) C (q22 : isK 8 22) (by decide) rfl in_X8 tyX8 tyX8_ok nmX8 (by decide) (tb_of 219 ⟨by decide +kernel, rfl⟩) rfl rfl (by decide +kernel) rfl rfl (fun _ _ => Nat.le_of_ble_eq_true rfl) (fun _ => rfl) hd (k _ rfl)
theorem gf_X8_26 {ω : WD} {ρ : FR} {M : Mem} {cc : ByteArray} {d n pc : Nat} {lv : List (Nat × Value)} {rest : List Value} (C : Cx ω ρ cc RX8 d n) (hd : decode cc pc = .ok (.getfield 26, 3)) (k : G ω ρ M (pc + 3) lv (.int (rd M 22 3) :: rest)) : G ω ρ M pc lv (.ref (adr ω 22) :: rest) := G_get (N := 6) (T := TX8) (C := RX8) (q := 3) C (q22 : isK 8 22) (by decide) rfl in_X8 (by decide) (tb_of 221 ⟨by decide +kernel, rfl⟩) rfl rfl hd k
theorem pf_X8_26 {ω : WD} {ρ : FR} {M : Mem} {cc : ByteArray} {d n pc : Nat} {lv : List (Nat × Value)} {rest : List Value} {v : Int32} (C : Cx ω ρ cc RX8 d n) (hd : decode cc pc = .ok (.putfield 26, 3)) (k : ∀ M1, M1 = wr M 22 3 v → G ω ρ M1 (pc + 3) lv rest) : G ω ρ M pc lv (.int v :: .ref (adr ω 22) :: rest) := G_put (N := 6) (T := TX8) (C := RX8) (q := 3) (ty := .int) C (q22 : isK 8 22) (by decide) rfl in_X8 tyX8 tyX8_ok nmX8 (by decide) (tb_of 221 ⟨by decide +kernel, rfl⟩) rfl rfl (by decide +kernel) rfl rfl (fun _ _ => Nat.le_of_ble_eq_true rfl) (fun _ => rfl) hd (k _ rfl)
theorem gf_X8_29 {ω : WD} {ρ : FR} {M : Mem} {cc : ByteArray} {d n pc : Nat} {lv : List (Nat × Value)} {rest : List Value} (C : Cx ω ρ cc RX8 d n) (hd : decode cc pc = .ok (.getfield 29, 3)) (k : G ω ρ M (pc + 3) lv (.int (rd M 22 4) :: rest)) : G ω ρ M pc lv (.ref (adr ω 22) :: rest) := G_get (N := 6) (T := TX8) (C := RX8) (q := 4) C (q22 : isK 8 22) (by decide) rfl in_X8 (by decide) (tb_of 223 ⟨by decide +kernel, rfl⟩) rfl rfl hd k
theorem pf_X8_29 {ω : WD} {ρ : FR} {M : Mem} {cc : ByteArray} {d n pc : Nat} {lv : List (Nat × Value)} {rest : List Value} {v : Int32} (C : Cx ω ρ cc RX8 d n) (hd : decode cc pc = .ok (.putfield 29, 3)) (k : ∀ M1, M1 = wr M 22 4 v → G ω ρ M1 (pc + 3) lv rest) : G ω ρ M pc lv (.int v :: .ref (adr ω 22) :: rest) := G_put (N := 6) (T := TX8) (C := RX8) (q := 4) (ty := .int) C (q22 : isK 8 22) (by decide) rfl in_X8 tyX8 tyX8_ok nmX8 (by decide) (tb_of 223 ⟨by decide +kernel, rfl⟩) rfl rfl (by decide +kernel) rfl rfl (fun _ _ => Nat.le_of_ble_eq_true rfl) (fun _ => rfl) hd (k _ rfl)
theorem gf_X8_32 {ω : WD} {ρ : FR} {M : Mem} {cc : ByteArray} {d n pc : Nat} {lv : List (Nat × Value)} {rest : List Value} (C : Cx ω ρ cc RX8 d n) (hd : decode cc pc = .ok (.getfield 32, 3)) (k : G ω ρ M (pc + 3) lv (.int (rd M 22 5) :: rest)) : G ω ρ M pc lv (.ref (adr ω 22) :: rest) := G_get (N := 6) (T := TX8) (C := RX8) (q := 5) C (q22 : isK 8 22) (by decide) rfl in_X8 (by decide) (tb_of 225 ⟨by decide +kernel, rfl⟩) rfl rfl hd k
theorem pf_X8_32 {ω : WD} {ρ : FR} {M : Mem} {cc : ByteArray} {d n pc : Nat} {lv : List (Nat × Value)} {rest : List Value} {v : Int32} (C : Cx ω ρ cc RX8 d n) (hd : decode cc pc = .ok (.putfield 32, 3)) (k : ∀ M1, M1 = wr M 22 5 v → G ω ρ M1 (pc + 3) lv rest) : G ω ρ M pc lv (.int v :: .ref (adr ω 22) :: rest) := G_put (N := 6) (T := TX8) (C := RX8) (q := 5) (ty := .int) C (q22 : isK 8 22) (by decide) rfl in_X8 tyX8 tyX8_ok nmX8 (by decide) (tb_of 225 ⟨by decide +kernel, rfl⟩) rfl rfl (by decide +kernel) rfl rfl (fun _ _ => Nat.le_of_ble_eq_true rfl) (fun _ => rfl) hd (k _ rfl)
def w_X8_note (l1 : Int32) (l2 : Int32) (M : Mem) (post : Mem → Prop) : Prop := vp_in l1 8 ∧ (∀ v1 : Int32, v1 = (rd M 39 l1.toNatClampNeg) → ((¬ v1 = 6 → ((v1 = 0 → ((¬ l2 = 0 → post M) ∧ (l2 = 0 → ∀ M2 : Mem, M2 = wr M 22 2 ((rd M 22 2) + 1) → post M2))) ∧ (¬ v1 = 0 → ∀ M3 : Mem, M3 = wr M 22 3 ((rd M 22 3) + 1) → ((¬ (rd M3 22 4) = (-4) → post M3) ∧ ((rd M3 22 4) = (-4) → ∀ M4 : Mem, M4 = wr M3 22 4 l1 → post M4))))) ∧ (v1 = 6 → ∀ M5 : Mem, M5 = wr M 22 5 ((rd M 22 5) + 1) → post M5)))
set_option maxRecDepth 100000 in
set_option maxHeartbeats 4000000 in
theorem S_X8_note {ω : WD} {l1 : Int32} {l2 : Int32} {M : Mem} {post : Mem → Prop} (h : w_X8_note l1 l2 M post) : MtV ω yX8_note cX8_note 4 none 0 [.ref (adr ω 22), .int l1, .int l2] M post := by
  refine MtV.start rfl (by decide +kernel) (own := RX8) rfl (Nat.le_of_ble_eq_true rfl) (fun ρ C R => ?_)
  show G ω ρ M 0 [(0, .ref (adr ω 22)), (1, .int l1), (2, .int l2)] []
  refine G_aload_n C dX8_note_0 0 rfl ?_
  refine gf_X8_18 C dX8_note_1 ?_
  refine G_iload_n C dX8_note_4 1 rfl ?_
  obtain ⟨hi, h⟩ := h
  refine G_iald C q39 hi dX8_note_5 ?_
  refine G_iname (fun v1 ev1 => ?_)
  replace h := h v1 ev1
  refine G_istore_n C dX8_note_6 (by decide) (lv' := [(3, .int v1), (0, .ref (adr ω 22)), (1, .int l1), (2, .int l2)]) rfl ?_
  refine G_iload_n C dX8_note_7 0 rfl ?_
  refine G_bipush (v := 6) C dX8_note_8 (by decide) ?_
  obtain ⟨h1, h2⟩ := h
  refine G_icmp_ne (tgt := 26) C dX8_note_10 (by decide) (fun c => ?_) (fun c => ?_)
  · have h := h1 c
    clear h1 h2
    refine G_iload_n C dX8_note_26 0 rfl ?_
    obtain ⟨h1, h2⟩ := h
    refine G_if_eq (tgt := 57) C dX8_note_27 (by decide) (fun c => ?_) (fun c => ?_)
    · have h := h1 c
      clear h1 h2
      refine G_iload_n C dX8_note_57 3 rfl ?_
      obtain ⟨h1, h2⟩ := h
      refine G_if_ne (tgt := 71) C dX8_note_58 (by decide) (fun c => ?_) (fun c => ?_)
      · have h := h1 c
        clear h1 h2
        exact R 71 _ _ dX8_note_71 h
      · have h := h2 c
        clear h1 h2
        refine G_aload_n C dX8_note_61 1 rfl ?_
        refine G_dup C dX8_note_62 rfl ?_
        refine gf_X8_22 C dX8_note_63 ?_
        refine G_iconst (v := 1) C dX8_note_66 (by decide) ?_
        refine G_iadd C dX8_note_67 ?_
        refine pf_X8_22 C dX8_note_68 (fun M2 eM2 => ?_)
        replace h := h M2 eM2
        exact R 71 _ _ dX8_note_71 h
    · have h := h2 c
      clear h1 h2
      refine G_aload_n C dX8_note_30 1 rfl ?_
      refine G_dup C dX8_note_31 rfl ?_
      refine gf_X8_26 C dX8_note_32 ?_
      refine G_iconst (v := 1) C dX8_note_35 (by decide) ?_
      refine G_iadd C dX8_note_36 ?_
      refine pf_X8_26 C dX8_note_37 (fun M3 eM3 => ?_)
      replace h := h M3 eM3
      refine G_aload_n C dX8_note_40 1 rfl ?_
      refine gf_X8_29 C dX8_note_41 ?_
      refine G_bipush (v := (-4)) C dX8_note_44 (by decide) ?_
      obtain ⟨h1, h2⟩ := h
      refine G_icmp_ne (tgt := 71) C dX8_note_46 (by decide) (fun c => ?_) (fun c => ?_)
      · have h := h1 c
        clear h1 h2
        exact R 71 _ _ dX8_note_71 h
      · have h := h2 c
        clear h1 h2
        refine G_aload_n C dX8_note_49 1 rfl ?_
        refine G_iload_n C dX8_note_50 2 rfl ?_
        refine pf_X8_29 C dX8_note_51 (fun M4 eM4 => ?_)
        replace h := h M4 eM4
        refine G_goto (tgt := 71) C dX8_note_54 (by decide) ?_
        exact R 71 _ _ dX8_note_71 h
  · have h := h2 c
    clear h1 h2
    refine G_aload_n C dX8_note_13 1 rfl ?_
    refine G_dup C dX8_note_14 rfl ?_
    refine gf_X8_32 C dX8_note_15 ?_
    refine G_iconst (v := 1) C dX8_note_18 (by decide) ?_
    refine G_iadd C dX8_note_19 ?_
    refine pf_X8_32 C dX8_note_20 (fun M5 eM5 => ?_)
    replace h := h M5 eM5
    refine G_goto (tgt := 71) C dX8_note_23 (by decide) ?_
    exact R 71 _ _ dX8_note_71 h
theorem dX8_follow_0 : decode cX8_follow 0 = .ok (.aload_n 0, 1) := by decide +kernel
theorem dX8_follow_1 : decode cX8_follow 1 = .ok (.iconst 0, 1) := by decide +kernel
theorem dX8_follow_2 : decode cX8_follow 2 = .ok (.putfield 22, 3) := by decide +kernel
theorem dX8_follow_5 : decode cX8_follow 5 = .ok (.aload_n 0, 1) := by decide +kernel
theorem dX8_follow_6 : decode cX8_follow 6 = .ok (.iconst 0, 1) := by decide +kernel
theorem dX8_follow_7 : decode cX8_follow 7 = .ok (.putfield 26, 3) := by decide +kernel
theorem dX8_follow_10 : decode cX8_follow 10 = .ok (.aload_n 0, 1) := by decide +kernel
theorem dX8_follow_11 : decode cX8_follow 11 = .ok (.bipush (-4), 2) := by decide +kernel
theorem dX8_follow_13 : decode cX8_follow 13 = .ok (.putfield 29, 3) := by decide +kernel
theorem dX8_follow_16 : decode cX8_follow 16 = .ok (.aload_n 0, 1) := by decide +kernel
theorem dX8_follow_17 : decode cX8_follow 17 = .ok (.iconst 0, 1) := by decide +kernel
theorem dX8_follow_18 : decode cX8_follow 18 = .ok (.putfield 32, 3) := by decide +kernel
theorem dX8_follow_21 : decode cX8_follow 21 = .ok (.iconst 0, 1) := by decide +kernel
theorem dX8_follow_22 : decode cX8_follow 22 = .ok (.istore_n 3, 1) := by decide +kernel
theorem dX8_follow_23 : decode cX8_follow 23 = .ok (.iload_n 3, 1) := by decide +kernel
theorem dX8_follow_24 : decode cX8_follow 24 = .ok (.aload_n 1, 1) := by decide +kernel
theorem dX8_follow_25 : decode cX8_follow 25 = .ok (.getfield 35, 3) := by decide +kernel
theorem dX8_follow_28 : decode cX8_follow 28 = .ok (.if_icmp .ge 60, 3) := by decide +kernel
theorem dX8_follow_31 : decode cX8_follow 31 = .ok (.iload_n 2, 1) := by decide +kernel
theorem dX8_follow_32 : decode cX8_follow 32 = .ok (.iload_n 3, 1) := by decide +kernel
theorem dX8_follow_33 : decode cX8_follow 33 = .ok (.ishr, 1) := by decide +kernel
theorem dX8_follow_34 : decode cX8_follow 34 = .ok (.iconst 1, 1) := by decide +kernel
theorem dX8_follow_35 : decode cX8_follow 35 = .ok (.iand, 1) := by decide +kernel
theorem dX8_follow_36 : decode cX8_follow 36 = .ok (.ifCond .eq 46, 3) := by decide +kernel
theorem dX8_follow_39 : decode cX8_follow 39 = .ok (.aload_n 0, 1) := by decide +kernel
theorem dX8_follow_40 : decode cX8_follow 40 = .ok (.getfield 18, 3) := by decide +kernel
theorem dX8_follow_43 : decode cX8_follow 43 = .ok (.iload_n 3, 1) := by decide +kernel
theorem dX8_follow_44 : decode cX8_follow 44 = .ok (.aload_n 0, 1) := by decide +kernel
theorem dX8_follow_45 : decode cX8_follow 45 = .ok (.aload_n 1, 1) := by decide +kernel
theorem dX8_follow_46 : decode cX8_follow 46 = .ok (.getfield 40, 3) := by decide +kernel
theorem dX8_follow_49 : decode cX8_follow 49 = .ok (.iload_n 3, 1) := by decide +kernel
theorem dX8_follow_50 : decode cX8_follow 50 = .ok (.iaload, 1) := by decide +kernel
theorem dX8_follow_51 : decode cX8_follow 51 = .ok (.aload_n 1, 1) := by decide +kernel
theorem dX8_follow_52 : decode cX8_follow 52 = .ok (.getfield 43, 3) := by decide +kernel
theorem dX8_follow_55 : decode cX8_follow 55 = .ok (.iload_n 3, 1) := by decide +kernel
theorem dX8_follow_56 : decode cX8_follow 56 = .ok (.iaload, 1) := by decide +kernel
theorem dX8_follow_57 : decode cX8_follow 57 = .ok (.invokevirtual 46, 3) := by decide +kernel
theorem dX8_follow_60 : decode cX8_follow 60 = .ok (.iastore, 1) := by decide +kernel
theorem dX8_follow_61 : decode cX8_follow 61 = .ok (.aload_n 0, 1) := by decide +kernel
theorem dX8_follow_62 : decode cX8_follow 62 = .ok (.iload_n 3, 1) := by decide +kernel
theorem dX8_follow_63 : decode cX8_follow 63 = .ok (.aload_n 1, 1) := by decide +kernel
theorem dX8_follow_64 : decode cX8_follow 64 = .ok (.getfield 43, 3) := by decide +kernel
theorem dX8_follow_67 : decode cX8_follow 67 = .ok (.iload_n 3, 1) := by decide +kernel
theorem dX8_follow_68 : decode cX8_follow 68 = .ok (.iaload, 1) := by decide +kernel
theorem dX8_follow_69 : decode cX8_follow 69 = .ok (.bipush 99, 2) := by decide +kernel
theorem dX8_follow_71 : decode cX8_follow 71 = .ok (.if_icmp .ne 7, 3) := by decide +kernel
theorem dX8_follow_74 : decode cX8_follow 74 = .ok (.iconst 1, 1) := by decide +kernel
theorem dX8_follow_75 : decode cX8_follow 75 = .ok (.goto 4, 3) := by decide +kernel
theorem dX8_follow_78 : decode cX8_follow 78 = .ok (.iconst 0, 1) := by decide +kernel
theorem dX8_follow_79 : decode cX8_follow 79 = .ok (.invokevirtual 50, 3) := by decide +kernel
theorem dX8_follow_82 : decode cX8_follow 82 = .ok (.iinc 3 1, 3) := by decide +kernel
theorem dX8_follow_85 : decode cX8_follow 85 = .ok (.goto (-62), 3) := by decide +kernel
theorem dX8_follow_88 : decode cX8_follow 88 = .ok (.return_, 1) := by decide +kernel
theorem lk_X8_50 : LkV RX8 50 RX8 yX8_note cX8_note 4 none 2 := LkV.of 742 743 744 65 745 (by decide +kernel) (by decide +kernel) (by decide +kernel) (by decide +kernel) (by decide +kernel) (by decide +kernel)
theorem gf_X8_35 {ω : WD} {ρ : FR} {M : Mem} {cc : ByteArray} {d n pc i : Nat} {lv : List (Nat × Value)} {rest : List Value} (C : Cx ω ρ cc RX8 d n) (hk : isK 5 i) (hd : decode cc pc = .ok (.getfield 35, 3)) (k : G ω ρ M (pc + 3) lv (.int (rd M i 0) :: rest)) : G ω ρ M pc lv (.ref (adr ω i) :: rest) := G_get (N := 6) (T := TX5) (C := RX5) (q := 0) C hk (by decide) rfl in_X5 (by decide) (tb_of 175 ⟨by decide +kernel, rfl⟩) rfl rfl hd k
theorem gf_X8_40 {ω : WD} {ρ : FR} {M : Mem} {cc : ByteArray} {d n pc i : Nat} {lv : List (Nat × Value)} {rest : List Value} (C : Cx ω ρ cc RX8 d n) (hk : isK 5 i) (hd : decode cc pc = .ok (.getfield 40, 3)) (k : G ω ρ M (pc + 3) lv (.ref (adr ω (i + 1)) :: rest)) : G ω ρ M pc lv (.ref (adr ω i) :: rest) := G_get (N := 6) (T := TX5) (C := RX5) (q := 2) C hk (by decide) rfl in_X5 (by decide) (tb_of 182 ⟨by decide +kernel, rfl⟩) rfl rfl hd k
theorem gf_X8_43 {ω : WD} {ρ : FR} {M : Mem} {cc : ByteArray} {d n pc i : Nat} {lv : List (Nat × Value)} {rest : List Value} (C : Cx ω ρ cc RX8 d n) (hk : isK 5 i) (hd : decode cc pc = .ok (.getfield 43, 3)) (k : G ω ρ M (pc + 3) lv (.ref (adr ω (i + 2)) :: rest)) : G ω ρ M pc lv (.ref (adr ω i) :: rest) := G_get (N := 6) (T := TX5) (C := RX5) (q := 3) C hk (by decide) rfl in_X5 (by decide) (tb_of 186 ⟨by decide +kernel, rfl⟩) rfl rfl hd k
theorem lk_X8_46 : LkV RX8 46 RX8 yX8_fateOf cX8_fateOf 4 (some .int) 2 := LkV.of 736 737 738 65 739 (by decide +kernel) (by decide +kernel) (by decide +kernel) (by decide +kernel) (by decide +kernel) (by decide +kernel)
def w_X8_follow_J82 (post : Mem → Prop) (K23 : Int32 → Mem → Prop) (l2 : Int32) (l3 : Int32) (M : Mem) : Prop := ∀ v1 : Int32, v1 = (l3 + 1) → K23 v1 M
set_option maxRecDepth 100000 in
set_option maxHeartbeats 4000000 in
theorem s_X8_follow_J82 {ω : WD} {ρ : FR} {post : Mem → Prop} (C : Cx ω ρ cX8_follow RX8 4 4) (R : RtV ω ρ cX8_follow post) {K23 : Int32 → Mem → Prop} {l2 : Int32} {l3 : Int32} (k23 : ∀ (u3 : Int32) (M : Mem), K23 u3 M → G ω ρ M 23 [(0, .ref (adr ω 22)), (1, .ref (adr ω 17)), (2, .int l2), (3, .int u3)] []) {M : Mem} (h : w_X8_follow_J82 post K23 l2 l3 M) : G ω ρ M 82 [(0, .ref (adr ω 22)), (1, .ref (adr ω 17)), (2, .int l2), (3, .int l3)] [] := by
  obtain ⟨v1, ev1⟩ : ∃ y : Int32, y = (l3 + 1) := ⟨_, rfl⟩
  replace h := h v1 ev1
  refine G_iinc C dX8_follow_82 3 rfl (v := v1) (by rw [ev1]; rfl) (by decide) (lv' := [(3, .int v1), (0, .ref (adr ω 22)), (1, .ref (adr ω 17)), (2, .int l2)]) rfl ?_
  refine G_goto (tgt := 23) C dX8_follow_85 (by decide) ?_
  refine G_sub [1, 2, 3, 0] (lv' := [(0, .ref (adr ω 22)), (1, .ref (adr ω 17)), (2, .int l2), (3, .int v1)]) rfl ?_
  exact k23 _ _ h
def w_X8_follow_J79 (post : Mem → Prop) (K23 : Int32 → Mem → Prop) (l2 : Int32) (l3 : Int32) (s1 : Int32) (s2 : Int32) (M : Mem) : Prop := w_X8_note s1 s2 M (fun (M2 : Mem) => w_X8_follow_J82 post K23 l2 l3 M2)
set_option maxRecDepth 100000 in
set_option maxHeartbeats 4000000 in
theorem s_X8_follow_J79 {ω : WD} {ρ : FR} {post : Mem → Prop} (C : Cx ω ρ cX8_follow RX8 4 4) (R : RtV ω ρ cX8_follow post) {K23 : Int32 → Mem → Prop} {l2 : Int32} {l3 : Int32} {s1 : Int32} {s2 : Int32} (k23 : ∀ (u3 : Int32) (M : Mem), K23 u3 M → G ω ρ M 23 [(0, .ref (adr ω 22)), (1, .ref (adr ω 17)), (2, .int l2), (3, .int u3)] []) {M : Mem} (h : w_X8_follow_J79 post K23 l2 l3 s1 s2 M) : G ω ρ M 79 [(0, .ref (adr ω 22)), (1, .ref (adr ω 17)), (2, .int l2), (3, .int l3)] [.int s2, .int s1, .ref (adr ω 22)] := by
  refine G_callV (As := [.int s1, .int s2]) (rest := []) C dX8_follow_79 lk_X8_50 (Nat.le_of_ble_eq_true rfl) (Nat.le_of_ble_eq_true rfl) q22 (by decide) rfl (Nat.le_of_ble_eq_true rfl) rfl (S_X8_note h) (fun M2 h => ?_)
  exact s_X8_follow_J82 C R k23 h
def w_X8_follow_L23 (post : Mem → Prop) (l2 : Int32) : Nat → Int32 → Mem → Prop
  | 0, _, _ => False
  | f + 1, l3, M => (((rd M 17 0) ≤ l3 → post M) ∧ (¬ (rd M 17 0) ≤ l3 → ((((ishr l2 l3) &&& 1) = 0 → w_X8_follow_J82 post (w_X8_follow_L23 post l2 f) l2 l3 M) ∧ (¬ ((ishr l2 l3) &&& 1) = 0 → vp_in l3 8 ∧ (vp_in l3 8 ∧ (w_X8_fateOf (rd M 18 l3.toNatClampNeg) (rd M 19 l3.toNatClampNeg) M (fun (r4 : Int32) (M3 : Mem) => vp_in l3 8 ∧ (∀ M5 : Mem, M5 = wr M3 39 l3.toNatClampNeg r4 → vp_in l3 8 ∧ (((¬ (rd M5 19 l3.toNatClampNeg) = 99 → w_X8_follow_J79 post (w_X8_follow_L23 post l2 f) l2 l3 l3 0 M5) ∧ ((rd M5 19 l3.toNatClampNeg) = 99 → w_X8_follow_J79 post (w_X8_follow_L23 post l2 f) l2 l3 l3 1 M5)))))))))))
set_option maxRecDepth 100000 in
set_option maxHeartbeats 4000000 in
theorem s_X8_follow_L23 {ω : WD} {ρ : FR} {post : Mem → Prop} (C : Cx ω ρ cX8_follow RX8 4 4) (R : RtV ω ρ cX8_follow post) {l2 : Int32} : ∀ (f : Nat) (l3 : Int32) (M : Mem), w_X8_follow_L23 post l2 f l3 M → G ω ρ M 23 [(0, .ref (adr ω 22)), (1, .ref (adr ω 17)), (2, .int l2), (3, .int l3)] [] := by
  intro f
  induction f with
  | zero => intro l3 M h; exact False.elim h
  | succ f k23 =>
    intro l3 M h
    refine G_iload_n C dX8_follow_23 3 rfl ?_
    refine G_aload_n C dX8_follow_24 1 rfl ?_
    refine gf_X8_35 C q17 dX8_follow_25 ?_
    obtain ⟨h1, h2⟩ := h
    refine G_icmp_ge (tgt := 88) C dX8_follow_28 (by decide) (fun c => ?_) (fun c => ?_)
    · have h := h1 c
      clear h1 h2
      exact R 88 _ _ dX8_follow_88 h
    · have h := h2 c
      clear h1 h2
      refine G_iload_n C dX8_follow_31 2 rfl ?_
      refine G_iload_n C dX8_follow_32 3 rfl ?_
      refine G_ishr C dX8_follow_33 ?_
      refine G_iconst (v := 1) C dX8_follow_34 (by decide) ?_
      refine G_iand C dX8_follow_35 ?_
      obtain ⟨h1, h2⟩ := h
      refine G_if_eq (tgt := 82) C dX8_follow_36 (by decide) (fun c => ?_) (fun c => ?_)
      · have h := h1 c
        clear h1 h2
        exact s_X8_follow_J82 C R k23 h
      · have h := h2 c
        clear h1 h2
        refine G_aload_n C dX8_follow_39 0 rfl ?_
        refine gf_X8_18 C dX8_follow_40 ?_
        refine G_iload_n C dX8_follow_43 3 rfl ?_
        refine G_aload_n C dX8_follow_44 0 rfl ?_
        refine G_aload_n C dX8_follow_45 1 rfl ?_
        refine gf_X8_40 C q17 dX8_follow_46 ?_
        refine G_iload_n C dX8_follow_49 3 rfl ?_
        obtain ⟨hi, h⟩ := h
        refine G_iald C q18 hi dX8_follow_50 ?_
        refine G_aload_n C dX8_follow_51 1 rfl ?_
        refine gf_X8_43 C q17 dX8_follow_52 ?_
        refine G_iload_n C dX8_follow_55 3 rfl ?_
        obtain ⟨hi, h⟩ := h
        refine G_iald C q19 hi dX8_follow_56 ?_
        refine G_callI (As := [.int (rd M 18 l3.toNatClampNeg), .int (rd M 19 l3.toNatClampNeg)]) (rest := [.int l3, .ref (adr ω 39)]) C dX8_follow_57 lk_X8_46 (Nat.le_of_ble_eq_true rfl) (Nat.le_of_ble_eq_true rfl) q22 (by decide) rfl (Nat.le_of_ble_eq_true rfl) rfl (S_X8_fateOf h) (fun r4 M3 h => ?_)
        obtain ⟨hi, h⟩ := h
        refine G_iast C q39 hi dX8_follow_60 (G_mname (fun M5 eM5 => ?_))
        replace h := h M5 eM5
        refine G_aload_n C dX8_follow_61 0 rfl ?_
        refine G_iload_n C dX8_follow_62 3 rfl ?_
        refine G_aload_n C dX8_follow_63 1 rfl ?_
        refine gf_X8_43 C q17 dX8_follow_64 ?_
        refine G_iload_n C dX8_follow_67 3 rfl ?_
        obtain ⟨hi, h⟩ := h
        refine G_iald C q19 hi dX8_follow_68 ?_
        refine G_bipush (v := 99) C dX8_follow_69 (by decide) ?_
        obtain ⟨h1, h2⟩ := h
        refine G_icmp_ne (tgt := 78) C dX8_follow_71 (by decide) (fun c => ?_) (fun c => ?_)
        · have h := h1 c
          clear h1 h2
          refine G_iconst (v := 0) C dX8_follow_78 (by decide) ?_
          exact s_X8_follow_J79 C R k23 h
        · have h := h2 c
          clear h1 h2
          refine G_iconst (v := 1) C dX8_follow_74 (by decide) ?_
          refine G_goto (tgt := 79) C dX8_follow_75 (by decide) ?_
          exact s_X8_follow_J79 C R k23 h
def w_X8_follow (l2 : Int32) (M : Mem) (post : Mem → Prop) : Prop := ∀ M6 : Mem, M6 = wr M 22 2 0 → ∀ M7 : Mem, M7 = wr M6 22 3 0 → ∀ M8 : Mem, M8 = wr M7 22 4 (-4) → ∀ M9 : Mem, M9 = wr M8 22 5 0 → ∃ g23 : Nat, w_X8_follow_L23 post l2 g23 0 M9
set_option maxRecDepth 100000 in
set_option maxHeartbeats 4000000 in
theorem S_X8_follow {ω : WD} {l2 : Int32} {M : Mem} {post : Mem → Prop} (h : w_X8_follow l2 M post) : MtV ω yX8_follow cX8_follow 4 none 4 [.ref (adr ω 22), .ref (adr ω 17), .int l2] M post := by
  refine MtV.start rfl (by decide +kernel) (own := RX8) rfl (Nat.le_of_ble_eq_true rfl) (fun ρ C R => ?_)
  show G ω ρ M 0 [(0, .ref (adr ω 22)), (1, .ref (adr ω 17)), (2, .int l2)] []
  refine G_aload_n C dX8_follow_0 0 rfl ?_
  refine G_iconst (v := 0) C dX8_follow_1 (by decide) ?_
  refine pf_X8_22 C dX8_follow_2 (fun M6 eM6 => ?_)
  replace h := h M6 eM6
  refine G_aload_n C dX8_follow_5 0 rfl ?_
  refine G_iconst (v := 0) C dX8_follow_6 (by decide) ?_
  refine pf_X8_26 C dX8_follow_7 (fun M7 eM7 => ?_)
  replace h := h M7 eM7
  refine G_aload_n C dX8_follow_10 0 rfl ?_
  refine G_bipush (v := (-4)) C dX8_follow_11 (by decide) ?_
  refine pf_X8_29 C dX8_follow_13 (fun M8 eM8 => ?_)
  replace h := h M8 eM8
  refine G_aload_n C dX8_follow_16 0 rfl ?_
  refine G_iconst (v := 0) C dX8_follow_17 (by decide) ?_
  refine pf_X8_32 C dX8_follow_18 (fun M9 eM9 => ?_)
  replace h := h M9 eM9
  refine G_iconst (v := 0) C dX8_follow_21 (by decide) ?_
  refine G_istore_n C dX8_follow_22 (by decide) (lv' := [(3, .int 0), (0, .ref (adr ω 22)), (1, .ref (adr ω 17)), (2, .int l2)]) rfl ?_
  refine G_sub [1, 2, 3, 0] (lv' := [(0, .ref (adr ω 22)), (1, .ref (adr ω 17)), (2, .int l2), (3, .int 0)]) rfl ?_
  obtain ⟨f, h⟩ := h
  exact s_X8_follow_L23 C R  f _ _ h
theorem dX8_wantedWayOf_0 : decode cX8_wantedWayOf 0 = .ok (.iconst 0, 1) := by decide +kernel
theorem dX8_wantedWayOf_1 : decode cX8_wantedWayOf 1 = .ok (.istore_n 3, 1) := by decide +kernel
theorem dX8_wantedWayOf_2 : decode cX8_wantedWayOf 2 = .ok (.iload_n 3, 1) := by decide +kernel
theorem dX8_wantedWayOf_3 : decode cX8_wantedWayOf 3 = .ok (.aload_n 1, 1) := by decide +kernel
theorem dX8_wantedWayOf_4 : decode cX8_wantedWayOf 4 = .ok (.getfield 35, 3) := by decide +kernel
theorem dX8_wantedWayOf_7 : decode cX8_wantedWayOf 7 = .ok (.if_icmp .ge 34, 3) := by decide +kernel
theorem dX8_wantedWayOf_10 : decode cX8_wantedWayOf 10 = .ok (.aload_n 0, 1) := by decide +kernel
theorem dX8_wantedWayOf_11 : decode cX8_wantedWayOf 11 = .ok (.getfield 18, 3) := by decide +kernel
theorem dX8_wantedWayOf_14 : decode cX8_wantedWayOf 14 = .ok (.iload_n 3, 1) := by decide +kernel
theorem dX8_wantedWayOf_15 : decode cX8_wantedWayOf 15 = .ok (.iaload, 1) := by decide +kernel
theorem dX8_wantedWayOf_16 : decode cX8_wantedWayOf 16 = .ok (.iconst 2, 1) := by decide +kernel
theorem dX8_wantedWayOf_17 : decode cX8_wantedWayOf 17 = .ok (.if_icmp .ne 18, 3) := by decide +kernel
theorem dX8_wantedWayOf_20 : decode cX8_wantedWayOf 20 = .ok (.aload_n 1, 1) := by decide +kernel
theorem dX8_wantedWayOf_21 : decode cX8_wantedWayOf 21 = .ok (.getfield 43, 3) := by decide +kernel
theorem dX8_wantedWayOf_24 : decode cX8_wantedWayOf 24 = .ok (.iload_n 3, 1) := by decide +kernel
theorem dX8_wantedWayOf_25 : decode cX8_wantedWayOf 25 = .ok (.iaload, 1) := by decide +kernel
theorem dX8_wantedWayOf_26 : decode cX8_wantedWayOf 26 = .ok (.bipush 10, 2) := by decide +kernel
theorem dX8_wantedWayOf_28 : decode cX8_wantedWayOf 28 = .ok (.idiv, 1) := by decide +kernel
theorem dX8_wantedWayOf_29 : decode cX8_wantedWayOf 29 = .ok (.iload_n 2, 1) := by decide +kernel
theorem dX8_wantedWayOf_30 : decode cX8_wantedWayOf 30 = .ok (.if_icmp .ne 5, 3) := by decide +kernel
theorem dX8_wantedWayOf_33 : decode cX8_wantedWayOf 33 = .ok (.iconst 1, 1) := by decide +kernel
theorem dX8_wantedWayOf_34 : decode cX8_wantedWayOf 34 = .ok (.ireturn, 1) := by decide +kernel
theorem dX8_wantedWayOf_35 : decode cX8_wantedWayOf 35 = .ok (.iinc 3 1, 3) := by decide +kernel
theorem dX8_wantedWayOf_38 : decode cX8_wantedWayOf 38 = .ok (.goto (-36), 3) := by decide +kernel
theorem dX8_wantedWayOf_41 : decode cX8_wantedWayOf 41 = .ok (.iconst 0, 1) := by decide +kernel
theorem dX8_wantedWayOf_42 : decode cX8_wantedWayOf 42 = .ok (.ireturn, 1) := by decide +kernel
def w_X8_wantedWayOf_J35 (post : Int32 → Mem → Prop) (K2 : Int32 → Mem → Prop) (l2 : Int32) (l3 : Int32) (M : Mem) : Prop := ∀ v1 : Int32, v1 = (l3 + 1) → K2 v1 M
set_option maxRecDepth 100000 in
set_option maxHeartbeats 4000000 in
theorem s_X8_wantedWayOf_J35 {ω : WD} {ρ : FR} {post : Int32 → Mem → Prop} (C : Cx ω ρ cX8_wantedWayOf RX8 0 4) (R : RtI ω ρ cX8_wantedWayOf .boolean post) {K2 : Int32 → Mem → Prop} {l2 : Int32} {l3 : Int32} (k2 : ∀ (u3 : Int32) (M : Mem), K2 u3 M → G ω ρ M 2 [(0, .ref (adr ω 22)), (1, .ref (adr ω 17)), (2, .int l2), (3, .int u3)] []) {M : Mem} (h : w_X8_wantedWayOf_J35 post K2 l2 l3 M) : G ω ρ M 35 [(0, .ref (adr ω 22)), (1, .ref (adr ω 17)), (2, .int l2), (3, .int l3)] [] := by
  obtain ⟨v1, ev1⟩ : ∃ y : Int32, y = (l3 + 1) := ⟨_, rfl⟩
  replace h := h v1 ev1
  refine G_iinc C dX8_wantedWayOf_35 3 rfl (v := v1) (by rw [ev1]; rfl) (by decide) (lv' := [(3, .int v1), (0, .ref (adr ω 22)), (1, .ref (adr ω 17)), (2, .int l2)]) rfl ?_
  refine G_goto (tgt := 2) C dX8_wantedWayOf_38 (by decide) ?_
  refine G_sub [1, 2, 3, 0] (lv' := [(0, .ref (adr ω 22)), (1, .ref (adr ω 17)), (2, .int l2), (3, .int v1)]) rfl ?_
  exact k2 _ _ h
def w_X8_wantedWayOf_L2 (post : Int32 → Mem → Prop) (l2 : Int32) : Nat → Int32 → Mem → Prop
  | 0, _, _ => False
  | f + 1, l3, M => (((rd M 17 0) ≤ l3 → post 0 M) ∧ (¬ (rd M 17 0) ≤ l3 → vp_in l3 8 ∧ (((¬ (rd M 39 l3.toNatClampNeg) = 2 → w_X8_wantedWayOf_J35 post (w_X8_wantedWayOf_L2 post l2 f) l2 l3 M) ∧ ((rd M 39 l3.toNatClampNeg) = 2 → vp_in l3 8 ∧ (((¬ ((rd M 19 l3.toNatClampNeg) / 10) = l2 → w_X8_wantedWayOf_J35 post (w_X8_wantedWayOf_L2 post l2 f) l2 l3 M) ∧ (((rd M 19 l3.toNatClampNeg) / 10) = l2 → post 1 M))))))))
set_option maxRecDepth 100000 in
set_option maxHeartbeats 4000000 in
theorem s_X8_wantedWayOf_L2 {ω : WD} {ρ : FR} {post : Int32 → Mem → Prop} (C : Cx ω ρ cX8_wantedWayOf RX8 0 4) (R : RtI ω ρ cX8_wantedWayOf .boolean post) {l2 : Int32} : ∀ (f : Nat) (l3 : Int32) (M : Mem), w_X8_wantedWayOf_L2 post l2 f l3 M → G ω ρ M 2 [(0, .ref (adr ω 22)), (1, .ref (adr ω 17)), (2, .int l2), (3, .int l3)] [] := by
  intro f
  induction f with
  | zero => intro l3 M h; exact False.elim h
  | succ f k2 =>
    intro l3 M h
    refine G_iload_n C dX8_wantedWayOf_2 3 rfl ?_
    refine G_aload_n C dX8_wantedWayOf_3 1 rfl ?_
    refine gf_X8_35 C q17 dX8_wantedWayOf_4 ?_
    obtain ⟨h1, h2⟩ := h
    refine G_icmp_ge (tgt := 41) C dX8_wantedWayOf_7 (by decide) (fun c => ?_) (fun c => ?_)
    · have h := h1 c
      clear h1 h2
      refine G_iconst (v := 0) C dX8_wantedWayOf_41 (by decide) ?_
      exact R 42 _ _ _ dX8_wantedWayOf_42 rfl h
    · have h := h2 c
      clear h1 h2
      refine G_aload_n C dX8_wantedWayOf_10 0 rfl ?_
      refine gf_X8_18 C dX8_wantedWayOf_11 ?_
      refine G_iload_n C dX8_wantedWayOf_14 3 rfl ?_
      obtain ⟨hi, h⟩ := h
      refine G_iald C q39 hi dX8_wantedWayOf_15 ?_
      refine G_iconst (v := 2) C dX8_wantedWayOf_16 (by decide) ?_
      obtain ⟨h1, h2⟩ := h
      refine G_icmp_ne (tgt := 35) C dX8_wantedWayOf_17 (by decide) (fun c => ?_) (fun c => ?_)
      · have h := h1 c
        clear h1 h2
        exact s_X8_wantedWayOf_J35 C R k2 h
      · have h := h2 c
        clear h1 h2
        refine G_aload_n C dX8_wantedWayOf_20 1 rfl ?_
        refine gf_X8_43 C q17 dX8_wantedWayOf_21 ?_
        refine G_iload_n C dX8_wantedWayOf_24 3 rfl ?_
        obtain ⟨hi, h⟩ := h
        refine G_iald C q19 hi dX8_wantedWayOf_25 ?_
        refine G_bipush (v := 10) C dX8_wantedWayOf_26 (by decide) ?_
        refine G_idiv C dX8_wantedWayOf_28 (by decide) ?_
        refine G_iload_n C dX8_wantedWayOf_29 2 rfl ?_
        obtain ⟨h1, h2⟩ := h
        refine G_icmp_ne (tgt := 35) C dX8_wantedWayOf_30 (by decide) (fun c => ?_) (fun c => ?_)
        · have h := h1 c
          clear h1 h2
          exact s_X8_wantedWayOf_J35 C R k2 h
        · have h := h2 c
          clear h1 h2
          refine G_iconst (v := 1) C dX8_wantedWayOf_33 (by decide) ?_
          exact R 34 _ _ _ dX8_wantedWayOf_34 rfl h
def w_X8_wantedWayOf (l2 : Int32) (M : Mem) (post : Int32 → Mem → Prop) : Prop := ∃ g2 : Nat, w_X8_wantedWayOf_L2 post l2 g2 0 M
set_option maxRecDepth 100000 in
set_option maxHeartbeats 4000000 in
theorem S_X8_wantedWayOf {ω : WD} {l2 : Int32} {M : Mem} {post : Int32 → Mem → Prop} (h : w_X8_wantedWayOf l2 M post) : MtI ω yX8_wantedWayOf cX8_wantedWayOf 4 (some .boolean) 0 [.ref (adr ω 22), .ref (adr ω 17), .int l2] M post := by
  refine MtI.start (ty := .boolean) rfl (by decide +kernel) (own := RX8) rfl (Nat.le_of_ble_eq_true rfl) (fun ρ C R => ?_)
  show G ω ρ M 0 [(0, .ref (adr ω 22)), (1, .ref (adr ω 17)), (2, .int l2)] []
  refine G_iconst (v := 0) C dX8_wantedWayOf_0 (by decide) ?_
  refine G_istore_n C dX8_wantedWayOf_1 (by decide) (lv' := [(3, .int 0), (0, .ref (adr ω 22)), (1, .ref (adr ω 17)), (2, .int l2)]) rfl ?_
  refine G_sub [1, 2, 3, 0] (lv' := [(0, .ref (adr ω 22)), (1, .ref (adr ω 17)), (2, .int l2), (3, .int 0)]) rfl ?_
  obtain ⟨f, h⟩ := h
  exact s_X8_wantedWayOf_L2 C R  f _ _ h
theorem dX8_wantedFinder_0 : decode cX8_wantedFinder 0 = .ok (.iconst 0, 1) := by decide +kernel
theorem dX8_wantedFinder_1 : decode cX8_wantedFinder 1 = .ok (.istore_n 2, 1) := by decide +kernel
theorem dX8_wantedFinder_2 : decode cX8_wantedFinder 2 = .ok (.iload_n 2, 1) := by decide +kernel
theorem dX8_wantedFinder_3 : decode cX8_wantedFinder 3 = .ok (.aload_n 1, 1) := by decide +kernel
theorem dX8_wantedFinder_4 : decode cX8_wantedFinder 4 = .ok (.getfield 35, 3) := by decide +kernel
theorem dX8_wantedFinder_7 : decode cX8_wantedFinder 7 = .ok (.if_icmp .ge 21, 3) := by decide +kernel
theorem dX8_wantedFinder_10 : decode cX8_wantedFinder 10 = .ok (.aload_n 0, 1) := by decide +kernel
theorem dX8_wantedFinder_11 : decode cX8_wantedFinder 11 = .ok (.getfield 18, 3) := by decide +kernel
theorem dX8_wantedFinder_14 : decode cX8_wantedFinder 14 = .ok (.iload_n 2, 1) := by decide +kernel
theorem dX8_wantedFinder_15 : decode cX8_wantedFinder 15 = .ok (.iaload, 1) := by decide +kernel
theorem dX8_wantedFinder_16 : decode cX8_wantedFinder 16 = .ok (.iconst 1, 1) := by decide +kernel
theorem dX8_wantedFinder_17 : decode cX8_wantedFinder 17 = .ok (.if_icmp .ne 5, 3) := by decide +kernel
theorem dX8_wantedFinder_20 : decode cX8_wantedFinder 20 = .ok (.iconst 1, 1) := by decide +kernel
theorem dX8_wantedFinder_21 : decode cX8_wantedFinder 21 = .ok (.ireturn, 1) := by decide +kernel
theorem dX8_wantedFinder_22 : decode cX8_wantedFinder 22 = .ok (.iinc 2 1, 3) := by decide +kernel
theorem dX8_wantedFinder_25 : decode cX8_wantedFinder 25 = .ok (.goto (-23), 3) := by decide +kernel
theorem dX8_wantedFinder_28 : decode cX8_wantedFinder 28 = .ok (.iconst 0, 1) := by decide +kernel
theorem dX8_wantedFinder_29 : decode cX8_wantedFinder 29 = .ok (.ireturn, 1) := by decide +kernel
def w_X8_wantedFinder_L2 (post : Int32 → Mem → Prop) : Nat → Int32 → Mem → Prop
  | 0, _, _ => False
  | f + 1, l2, M => (((rd M 17 0) ≤ l2 → post 0 M) ∧ (¬ (rd M 17 0) ≤ l2 → vp_in l2 8 ∧ (((¬ (rd M 39 l2.toNatClampNeg) = 1 → ∀ v1 : Int32, v1 = (l2 + 1) → (w_X8_wantedFinder_L2 post f) v1 M) ∧ ((rd M 39 l2.toNatClampNeg) = 1 → post 1 M)))))
set_option maxRecDepth 100000 in
set_option maxHeartbeats 4000000 in
theorem s_X8_wantedFinder_L2 {ω : WD} {ρ : FR} {post : Int32 → Mem → Prop} (C : Cx ω ρ cX8_wantedFinder RX8 0 3) (R : RtI ω ρ cX8_wantedFinder .boolean post) : ∀ (f : Nat) (l2 : Int32) (M : Mem), w_X8_wantedFinder_L2 post f l2 M → G ω ρ M 2 [(0, .ref (adr ω 22)), (1, .ref (adr ω 17)), (2, .int l2)] [] := by
  intro f
  induction f with
  | zero => intro l2 M h; exact False.elim h
  | succ f k2 =>
    intro l2 M h
    refine G_iload_n C dX8_wantedFinder_2 2 rfl ?_
    refine G_aload_n C dX8_wantedFinder_3 1 rfl ?_
    refine gf_X8_35 C q17 dX8_wantedFinder_4 ?_
    obtain ⟨h1, h2⟩ := h
    refine G_icmp_ge (tgt := 28) C dX8_wantedFinder_7 (by decide) (fun c => ?_) (fun c => ?_)
    · have h := h1 c
      clear h1 h2
      refine G_iconst (v := 0) C dX8_wantedFinder_28 (by decide) ?_
      exact R 29 _ _ _ dX8_wantedFinder_29 rfl h
    · have h := h2 c
      clear h1 h2
      refine G_aload_n C dX8_wantedFinder_10 0 rfl ?_
      refine gf_X8_18 C dX8_wantedFinder_11 ?_
      refine G_iload_n C dX8_wantedFinder_14 2 rfl ?_
      obtain ⟨hi, h⟩ := h
      refine G_iald C q39 hi dX8_wantedFinder_15 ?_
      refine G_iconst (v := 1) C dX8_wantedFinder_16 (by decide) ?_
      obtain ⟨h1, h2⟩ := h
      refine G_icmp_ne (tgt := 22) C dX8_wantedFinder_17 (by decide) (fun c => ?_) (fun c => ?_)
      · have h := h1 c
        clear h1 h2
        obtain ⟨v1, ev1⟩ : ∃ y : Int32, y = (l2 + 1) := ⟨_, rfl⟩
        replace h := h v1 ev1
        refine G_iinc C dX8_wantedFinder_22 2 rfl (v := v1) (by rw [ev1]; rfl) (by decide) (lv' := [(2, .int v1), (0, .ref (adr ω 22)), (1, .ref (adr ω 17))]) rfl ?_
        refine G_goto (tgt := 2) C dX8_wantedFinder_25 (by decide) ?_
        refine G_sub [1, 2, 0] (lv' := [(0, .ref (adr ω 22)), (1, .ref (adr ω 17)), (2, .int v1)]) rfl ?_
        exact k2 _ _ h
      · have h := h2 c
        clear h1 h2
        refine G_iconst (v := 1) C dX8_wantedFinder_20 (by decide) ?_
        exact R 21 _ _ _ dX8_wantedFinder_21 rfl h
def w_X8_wantedFinder (M : Mem) (post : Int32 → Mem → Prop) : Prop := ∃ g2 : Nat, w_X8_wantedFinder_L2 post g2 0 M
set_option maxRecDepth 100000 in
set_option maxHeartbeats 4000000 in
theorem S_X8_wantedFinder {ω : WD} {M : Mem} {post : Int32 → Mem → Prop} (h : w_X8_wantedFinder M post) : MtI ω yX8_wantedFinder cX8_wantedFinder 3 (some .boolean) 0 [.ref (adr ω 22), .ref (adr ω 17)] M post := by
  refine MtI.start (ty := .boolean) rfl (by decide +kernel) (own := RX8) rfl (Nat.le_of_ble_eq_true rfl) (fun ρ C R => ?_)
  show G ω ρ M 0 [(0, .ref (adr ω 22)), (1, .ref (adr ω 17))] []
  refine G_iconst (v := 0) C dX8_wantedFinder_0 (by decide) ?_
  refine G_istore_n C dX8_wantedFinder_1 (by decide) (lv' := [(2, .int 0), (0, .ref (adr ω 22)), (1, .ref (adr ω 17))]) rfl ?_
  refine G_sub [1, 2, 0] (lv' := [(0, .ref (adr ω 22)), (1, .ref (adr ω 17)), (2, .int 0)]) rfl ?_
  obtain ⟨f, h⟩ := h
  exact s_X8_wantedFinder_L2 C R  f _ _ h
theorem dX8_isAsSeen_0 : decode cX8_isAsSeen 0 = .ok (.iconst 0, 1) := by decide +kernel
theorem dX8_isAsSeen_1 : decode cX8_isAsSeen 1 = .ok (.istore_n 2, 1) := by decide +kernel
theorem dX8_isAsSeen_2 : decode cX8_isAsSeen 2 = .ok (.iload_n 2, 1) := by decide +kernel
theorem dX8_isAsSeen_3 : decode cX8_isAsSeen 3 = .ok (.aload_n 1, 1) := by decide +kernel
theorem dX8_isAsSeen_4 : decode cX8_isAsSeen 4 = .ok (.getfield 64, 3) := by decide +kernel
theorem dX8_isAsSeen_7 : decode cX8_isAsSeen 7 = .ok (.if_icmp .ge 41, 3) := by decide +kernel
theorem dX8_isAsSeen_10 : decode cX8_isAsSeen 10 = .ok (.aload_n 1, 1) := by decide +kernel
theorem dX8_isAsSeen_11 : decode cX8_isAsSeen 11 = .ok (.getfield 67, 3) := by decide +kernel
theorem dX8_isAsSeen_14 : decode cX8_isAsSeen 14 = .ok (.iload_n 2, 1) := by decide +kernel
theorem dX8_isAsSeen_15 : decode cX8_isAsSeen 15 = .ok (.iaload, 1) := by decide +kernel
theorem dX8_isAsSeen_16 : decode cX8_isAsSeen 16 = .ok (.istore_n 3, 1) := by decide +kernel
theorem dX8_isAsSeen_17 : decode cX8_isAsSeen 17 = .ok (.iload_n 3, 1) := by decide +kernel
theorem dX8_isAsSeen_18 : decode cX8_isAsSeen 18 = .ok (.aload_n 1, 1) := by decide +kernel
theorem dX8_isAsSeen_19 : decode cX8_isAsSeen 19 = .ok (.getfield 35, 3) := by decide +kernel
theorem dX8_isAsSeen_22 : decode cX8_isAsSeen 22 = .ok (.if_icmp .ge 18, 3) := by decide +kernel
theorem dX8_isAsSeen_25 : decode cX8_isAsSeen 25 = .ok (.aload_n 0, 1) := by decide +kernel
theorem dX8_isAsSeen_26 : decode cX8_isAsSeen 26 = .ok (.getfield 18, 3) := by decide +kernel
theorem dX8_isAsSeen_29 : decode cX8_isAsSeen 29 = .ok (.iload_n 3, 1) := by decide +kernel
theorem dX8_isAsSeen_30 : decode cX8_isAsSeen 30 = .ok (.iaload, 1) := by decide +kernel
theorem dX8_isAsSeen_31 : decode cX8_isAsSeen 31 = .ok (.aload_n 1, 1) := by decide +kernel
theorem dX8_isAsSeen_32 : decode cX8_isAsSeen 32 = .ok (.getfield 70, 3) := by decide +kernel
theorem dX8_isAsSeen_35 : decode cX8_isAsSeen 35 = .ok (.iload_n 2, 1) := by decide +kernel
theorem dX8_isAsSeen_36 : decode cX8_isAsSeen 36 = .ok (.iaload, 1) := by decide +kernel
theorem dX8_isAsSeen_37 : decode cX8_isAsSeen 37 = .ok (.if_icmp .eq 5, 3) := by decide +kernel
theorem dX8_isAsSeen_40 : decode cX8_isAsSeen 40 = .ok (.iconst 0, 1) := by decide +kernel
theorem dX8_isAsSeen_41 : decode cX8_isAsSeen 41 = .ok (.ireturn, 1) := by decide +kernel
theorem dX8_isAsSeen_42 : decode cX8_isAsSeen 42 = .ok (.iinc 2 1, 3) := by decide +kernel
theorem dX8_isAsSeen_45 : decode cX8_isAsSeen 45 = .ok (.goto (-43), 3) := by decide +kernel
theorem dX8_isAsSeen_48 : decode cX8_isAsSeen 48 = .ok (.iconst 1, 1) := by decide +kernel
theorem dX8_isAsSeen_49 : decode cX8_isAsSeen 49 = .ok (.ireturn, 1) := by decide +kernel
theorem gf_X8_64 {ω : WD} {ρ : FR} {M : Mem} {cc : ByteArray} {d n pc i : Nat} {lv : List (Nat × Value)} {rest : List Value} (C : Cx ω ρ cc RX8 d n) (hk : isK 5 i) (hd : decode cc pc = .ok (.getfield 64, 3)) (k : G ω ρ M (pc + 3) lv (.int (rd M i 1) :: rest)) : G ω ρ M pc lv (.ref (adr ω i) :: rest) := G_get (N := 6) (T := TX5) (C := RX5) (q := 1) C hk (by decide) rfl in_X5 (by decide) (tb_of 179 ⟨by decide +kernel, rfl⟩) rfl rfl hd k
theorem gf_X8_67 {ω : WD} {ρ : FR} {M : Mem} {cc : ByteArray} {d n pc i : Nat} {lv : List (Nat × Value)} {rest : List Value} (C : Cx ω ρ cc RX8 d n) (hk : isK 5 i) (hd : decode cc pc = .ok (.getfield 67, 3)) (k : G ω ρ M (pc + 3) lv (.ref (adr ω (i + 3)) :: rest)) : G ω ρ M pc lv (.ref (adr ω i) :: rest) := G_get (N := 6) (T := TX5) (C := RX5) (q := 4) C hk (by decide) rfl in_X5 (by decide) (tb_of 189 ⟨by decide +kernel, rfl⟩) rfl rfl hd k
theorem gf_X8_70 {ω : WD} {ρ : FR} {M : Mem} {cc : ByteArray} {d n pc i : Nat} {lv : List (Nat × Value)} {rest : List Value} (C : Cx ω ρ cc RX8 d n) (hk : isK 5 i) (hd : decode cc pc = .ok (.getfield 70, 3)) (k : G ω ρ M (pc + 3) lv (.ref (adr ω (i + 4)) :: rest)) : G ω ρ M pc lv (.ref (adr ω i) :: rest) := G_get (N := 6) (T := TX5) (C := RX5) (q := 5) C hk (by decide) rfl in_X5 (by decide) (tb_of 192 ⟨by decide +kernel, rfl⟩) rfl rfl hd k
def w_X8_isAsSeen_L2 (post : Int32 → Mem → Prop) : Nat → Int32 → Mem → Prop
  | 0, _, _ => False
  | f + 1, l2, M => (((rd M 17 1) ≤ l2 → post 1 M) ∧ (¬ (rd M 17 1) ≤ l2 → vp_in l2 6 ∧ (∀ v1 : Int32, v1 = (rd M 20 l2.toNatClampNeg) → (((rd M 17 0) ≤ v1 → post 0 M) ∧ (¬ (rd M 17 0) ≤ v1 → vp_in v1 8 ∧ (vp_in l2 6 ∧ ((((rd M 39 v1.toNatClampNeg) = (rd M 21 l2.toNatClampNeg) → ∀ v2 : Int32, v2 = (l2 + 1) → (w_X8_isAsSeen_L2 post f) v2 M) ∧ (¬ (rd M 39 v1.toNatClampNeg) = (rd M 21 l2.toNatClampNeg) → post 0 M)))))))))
set_option maxRecDepth 100000 in
set_option maxHeartbeats 4000000 in
theorem s_X8_isAsSeen_L2 {ω : WD} {ρ : FR} {post : Int32 → Mem → Prop} (C : Cx ω ρ cX8_isAsSeen RX8 0 4) (R : RtI ω ρ cX8_isAsSeen .boolean post) : ∀ (f : Nat) (l2 : Int32) (M : Mem), w_X8_isAsSeen_L2 post f l2 M → G ω ρ M 2 [(0, .ref (adr ω 22)), (1, .ref (adr ω 17)), (2, .int l2)] [] := by
  intro f
  induction f with
  | zero => intro l2 M h; exact False.elim h
  | succ f k2 =>
    intro l2 M h
    refine G_iload_n C dX8_isAsSeen_2 2 rfl ?_
    refine G_aload_n C dX8_isAsSeen_3 1 rfl ?_
    refine gf_X8_64 C q17 dX8_isAsSeen_4 ?_
    obtain ⟨h1, h2⟩ := h
    refine G_icmp_ge (tgt := 48) C dX8_isAsSeen_7 (by decide) (fun c => ?_) (fun c => ?_)
    · have h := h1 c
      clear h1 h2
      refine G_iconst (v := 1) C dX8_isAsSeen_48 (by decide) ?_
      exact R 49 _ _ _ dX8_isAsSeen_49 rfl h
    · have h := h2 c
      clear h1 h2
      refine G_aload_n C dX8_isAsSeen_10 1 rfl ?_
      refine gf_X8_67 C q17 dX8_isAsSeen_11 ?_
      refine G_iload_n C dX8_isAsSeen_14 2 rfl ?_
      obtain ⟨hi, h⟩ := h
      refine G_iald C q20 hi dX8_isAsSeen_15 ?_
      refine G_iname (fun v1 ev1 => ?_)
      replace h := h v1 ev1
      refine G_istore_n C dX8_isAsSeen_16 (by decide) (lv' := [(3, .int v1), (0, .ref (adr ω 22)), (1, .ref (adr ω 17)), (2, .int l2)]) rfl ?_
      refine G_iload_n C dX8_isAsSeen_17 0 rfl ?_
      refine G_aload_n C dX8_isAsSeen_18 2 rfl ?_
      refine gf_X8_35 C q17 dX8_isAsSeen_19 ?_
      obtain ⟨h1, h2⟩ := h
      refine G_icmp_ge (tgt := 40) C dX8_isAsSeen_22 (by decide) (fun c => ?_) (fun c => ?_)
      · have h := h1 c
        clear h1 h2
        refine G_iconst (v := 0) C dX8_isAsSeen_40 (by decide) ?_
        exact R 41 _ _ _ dX8_isAsSeen_41 rfl h
      · have h := h2 c
        clear h1 h2
        refine G_aload_n C dX8_isAsSeen_25 1 rfl ?_
        refine gf_X8_18 C dX8_isAsSeen_26 ?_
        refine G_iload_n C dX8_isAsSeen_29 0 rfl ?_
        obtain ⟨hi, h⟩ := h
        refine G_iald C q39 hi dX8_isAsSeen_30 ?_
        refine G_aload_n C dX8_isAsSeen_31 2 rfl ?_
        refine gf_X8_70 C q17 dX8_isAsSeen_32 ?_
        refine G_iload_n C dX8_isAsSeen_35 3 rfl ?_
        obtain ⟨hi, h⟩ := h
        refine G_iald C q21 hi dX8_isAsSeen_36 ?_
        obtain ⟨h1, h2⟩ := h
        refine G_icmp_eq (tgt := 42) C dX8_isAsSeen_37 (by decide) (fun c => ?_) (fun c => ?_)
        · have h := h1 c
          clear h1 h2
          obtain ⟨v2, ev2⟩ : ∃ y : Int32, y = (l2 + 1) := ⟨_, rfl⟩
          replace h := h v2 ev2
          refine G_iinc C dX8_isAsSeen_42 3 rfl (v := v2) (by rw [ev2]; rfl) (by decide) (lv' := [(2, .int v2), (3, .int v1), (0, .ref (adr ω 22)), (1, .ref (adr ω 17))]) rfl ?_
          refine G_goto (tgt := 2) C dX8_isAsSeen_45 (by decide) ?_
          refine G_sub [2, 3, 0] (lv' := [(0, .ref (adr ω 22)), (1, .ref (adr ω 17)), (2, .int v2)]) rfl ?_
          exact k2 _ _ h
        · have h := h2 c
          clear h1 h2
          refine G_iconst (v := 0) C dX8_isAsSeen_40 (by decide) ?_
          exact R 41 _ _ _ dX8_isAsSeen_41 rfl h
def w_X8_isAsSeen (M : Mem) (post : Int32 → Mem → Prop) : Prop := ∃ g2 : Nat, w_X8_isAsSeen_L2 post g2 0 M
set_option maxRecDepth 100000 in
set_option maxHeartbeats 4000000 in
theorem S_X8_isAsSeen {ω : WD} {M : Mem} {post : Int32 → Mem → Prop} (h : w_X8_isAsSeen M post) : MtI ω yX8_isAsSeen cX8_isAsSeen 4 (some .boolean) 0 [.ref (adr ω 22), .ref (adr ω 17)] M post := by
  refine MtI.start (ty := .boolean) rfl (by decide +kernel) (own := RX8) rfl (Nat.le_of_ble_eq_true rfl) (fun ρ C R => ?_)
  show G ω ρ M 0 [(0, .ref (adr ω 22)), (1, .ref (adr ω 17))] []
  refine G_iconst (v := 0) C dX8_isAsSeen_0 (by decide) ?_
  refine G_istore_n C dX8_isAsSeen_1 (by decide) (lv' := [(2, .int 0), (0, .ref (adr ω 22)), (1, .ref (adr ω 17))]) rfl ?_
  refine G_sub [1, 2, 0] (lv' := [(0, .ref (adr ω 22)), (1, .ref (adr ω 17)), (2, .int 0)]) rfl ?_
  obtain ⟨f, h⟩ := h
  exact s_X8_isAsSeen_L2 C R  f _ _ h
end
section
theorem dJ0_coder_7d493_0 : decode cJ0_coder_7d493 0 = .ok (.getstatic 38, 3) := by decide +kernel
theorem dJ0_coder_7d493_3 : decode cJ0_coder_7d493 3 = .ok (.ifCond .eq 10, 3) := by decide +kernel
theorem dJ0_coder_7d493_6 : decode cJ0_coder_7d493 6 = .ok (.aload_n 0, 1) := by decide +kernel
theorem dJ0_coder_7d493_7 : decode cJ0_coder_7d493 7 = .ok (.getfield 15, 3) := by decide +kernel
theorem dJ0_coder_7d493_10 : decode cJ0_coder_7d493 10 = .ok (.goto 4, 3) := by decide +kernel
theorem dJ0_coder_7d493_13 : decode cJ0_coder_7d493 13 = .ok (.iconst 1, 1) := by decide +kernel
theorem dJ0_coder_7d493_14 : decode cJ0_coder_7d493 14 = .ok (.ireturn, 1) := by decide +kernel
theorem dJ0_isLatin1_aae02_0 : decode cJ0_isLatin1_aae02 0 = .ok (.getstatic 38, 3) := by decide +kernel
theorem dJ0_isLatin1_aae02_3 : decode cJ0_isLatin1_aae02 3 = .ok (.ifCond .eq 14, 3) := by decide +kernel
theorem dJ0_isLatin1_aae02_6 : decode cJ0_isLatin1_aae02 6 = .ok (.aload_n 0, 1) := by decide +kernel
theorem dJ0_isLatin1_aae02_7 : decode cJ0_isLatin1_aae02 7 = .ok (.getfield 15, 3) := by decide +kernel
theorem dJ0_isLatin1_aae02_10 : decode cJ0_isLatin1_aae02 10 = .ok (.ifCond .ne 7, 3) := by decide +kernel
theorem dJ0_isLatin1_aae02_13 : decode cJ0_isLatin1_aae02 13 = .ok (.iconst 1, 1) := by decide +kernel
theorem dJ0_isLatin1_aae02_14 : decode cJ0_isLatin1_aae02 14 = .ok (.goto 4, 3) := by decide +kernel
theorem dJ0_isLatin1_aae02_17 : decode cJ0_isLatin1_aae02 17 = .ok (.iconst 0, 1) := by decide +kernel
theorem dJ0_isLatin1_aae02_18 : decode cJ0_isLatin1_aae02 18 = .ok (.ireturn, 1) := by decide +kernel
theorem dJ0_length_8abf5_0 : decode cJ0_length_8abf5 0 = .ok (.aload_n 0, 1) := by decide +kernel
theorem dJ0_length_8abf5_1 : decode cJ0_length_8abf5 1 = .ok (.getfield 9, 3) := by decide +kernel
theorem dJ0_length_8abf5_4 : decode cJ0_length_8abf5 4 = .ok (.arraylength, 1) := by decide +kernel
theorem dJ0_length_8abf5_5 : decode cJ0_length_8abf5 5 = .ok (.aload_n 0, 1) := by decide +kernel
theorem dJ0_length_8abf5_6 : decode cJ0_length_8abf5 6 = .ok (.invokevirtual 335, 3) := by decide +kernel
theorem dJ0_length_8abf5_9 : decode cJ0_length_8abf5 9 = .ok (.ishr, 1) := by decide +kernel
theorem dJ0_length_8abf5_10 : decode cJ0_length_8abf5 10 = .ok (.ireturn, 1) := by decide +kernel
theorem dJ3_checkIndex_8e157_0 : decode cJ3_checkIndex_8e157 0 = .ok (.iload_n 0, 1) := by decide +kernel
theorem dJ3_checkIndex_8e157_1 : decode cJ3_checkIndex_8e157 1 = .ok (.ifCond .lt 8, 3) := by decide +kernel
theorem dJ3_checkIndex_8e157_4 : decode cJ3_checkIndex_8e157 4 = .ok (.iload_n 0, 1) := by decide +kernel
theorem dJ3_checkIndex_8e157_5 : decode cJ3_checkIndex_8e157 5 = .ok (.iload_n 1, 1) := by decide +kernel
theorem dJ3_checkIndex_8e157_6 : decode cJ3_checkIndex_8e157 6 = .ok (.if_icmp .lt 10, 3) := by decide +kernel
theorem dJ3_checkIndex_8e157_9 : decode cJ3_checkIndex_8e157 9 = .ok (.aload_n 2, 1) := by decide +kernel
theorem dJ3_checkIndex_8e157_10 : decode cJ3_checkIndex_8e157 10 = .ok (.iload_n 0, 1) := by decide +kernel
theorem dJ3_checkIndex_8e157_11 : decode cJ3_checkIndex_8e157 11 = .ok (.iload_n 1, 1) := by decide +kernel
theorem dJ3_checkIndex_8e157_12 : decode cJ3_checkIndex_8e157 12 = .ok (.invokestatic 95, 3) := by decide +kernel
theorem dJ3_checkIndex_8e157_15 : decode cJ3_checkIndex_8e157 15 = .ok (.athrow, 1) := by decide +kernel
theorem dJ3_checkIndex_8e157_16 : decode cJ3_checkIndex_8e157 16 = .ok (.iload_n 0, 1) := by decide +kernel
theorem dJ3_checkIndex_8e157_17 : decode cJ3_checkIndex_8e157 17 = .ok (.ireturn, 1) := by decide +kernel
theorem dJ0_checkIndex_df160_0 : decode cJ0_checkIndex_df160 0 = .ok (.iload_n 0, 1) := by decide +kernel
theorem dJ0_checkIndex_df160_1 : decode cJ0_checkIndex_df160 1 = .ok (.iload_n 1, 1) := by decide +kernel
theorem dJ0_checkIndex_df160_2 : decode cJ0_checkIndex_df160 2 = .ok (.getstatic 1053, 3) := by decide +kernel
theorem dJ0_checkIndex_df160_5 : decode cJ0_checkIndex_df160 5 = .ok (.invokestatic 1059, 3) := by decide +kernel
theorem dJ0_checkIndex_df160_8 : decode cJ0_checkIndex_df160 8 = .ok (.pop, 1) := by decide +kernel
theorem dJ0_checkIndex_df160_9 : decode cJ0_checkIndex_df160 9 = .ok (.return_, 1) := by decide +kernel
theorem dJ1_charAt_3b067_0 : decode cJ1_charAt_3b067 0 = .ok (.iload_n 1, 1) := by decide +kernel
theorem dJ1_charAt_3b067_1 : decode cJ1_charAt_3b067 1 = .ok (.aload_n 0, 1) := by decide +kernel
theorem dJ1_charAt_3b067_2 : decode cJ1_charAt_3b067 2 = .ok (.arraylength, 1) := by decide +kernel
theorem dJ1_charAt_3b067_3 : decode cJ1_charAt_3b067 3 = .ok (.invokestatic 9, 3) := by decide +kernel
theorem dJ1_charAt_3b067_6 : decode cJ1_charAt_3b067 6 = .ok (.aload_n 0, 1) := by decide +kernel
theorem dJ1_charAt_3b067_7 : decode cJ1_charAt_3b067 7 = .ok (.iload_n 1, 1) := by decide +kernel
theorem dJ1_charAt_3b067_8 : decode cJ1_charAt_3b067 8 = .ok (.baload, 1) := by decide +kernel
theorem dJ1_charAt_3b067_9 : decode cJ1_charAt_3b067 9 = .ok (.sipush 255, 3) := by decide +kernel
theorem dJ1_charAt_3b067_12 : decode cJ1_charAt_3b067 12 = .ok (.iand, 1) := by decide +kernel
theorem dJ1_charAt_3b067_13 : decode cJ1_charAt_3b067 13 = .ok (.i2c, 1) := by decide +kernel
theorem dJ1_charAt_3b067_14 : decode cJ1_charAt_3b067 14 = .ok (.ireturn, 1) := by decide +kernel
theorem dJ0_charAt_5068e_0 : decode cJ0_charAt_5068e 0 = .ok (.aload_n 0, 1) := by decide +kernel
theorem dJ0_charAt_5068e_1 : decode cJ0_charAt_5068e 1 = .ok (.invokevirtual 492, 3) := by decide +kernel
theorem dJ0_charAt_5068e_4 : decode cJ0_charAt_5068e 4 = .ok (.ifCond .eq 12, 3) := by decide +kernel
theorem dJ0_charAt_5068e_7 : decode cJ0_charAt_5068e 7 = .ok (.aload_n 0, 1) := by decide +kernel
theorem dJ0_charAt_5068e_8 : decode cJ0_charAt_5068e 8 = .ok (.getfield 9, 3) := by decide +kernel
theorem dJ0_charAt_5068e_11 : decode cJ0_charAt_5068e 11 = .ok (.iload_n 1, 1) := by decide +kernel
theorem dJ0_charAt_5068e_12 : decode cJ0_charAt_5068e 12 = .ok (.invokestatic 495, 3) := by decide +kernel
theorem dJ0_charAt_5068e_15 : decode cJ0_charAt_5068e 15 = .ok (.ireturn, 1) := by decide +kernel
theorem dJ0_charAt_5068e_16 : decode cJ0_charAt_5068e 16 = .ok (.aload_n 0, 1) := by decide +kernel
theorem dJ0_charAt_5068e_17 : decode cJ0_charAt_5068e 17 = .ok (.getfield 9, 3) := by decide +kernel
theorem dJ0_charAt_5068e_20 : decode cJ0_charAt_5068e 20 = .ok (.iload_n 1, 1) := by decide +kernel
theorem dJ0_charAt_5068e_21 : decode cJ0_charAt_5068e 21 = .ok (.invokestatic 498, 3) := by decide +kernel
theorem dJ0_charAt_5068e_24 : decode cJ0_charAt_5068e 24 = .ok (.ireturn, 1) := by decide +kernel
theorem dX7_spells_0 : decode cX7_spells 0 = .ok (.aload_n 0, 1) := by decide +kernel
theorem dX7_spells_1 : decode cX7_spells 1 = .ok (.getfield 25, 3) := by decide +kernel
theorem dX7_spells_4 : decode cX7_spells 4 = .ok (.aload_n 0, 1) := by decide +kernel
theorem dX7_spells_5 : decode cX7_spells 5 = .ok (.getfield 22, 3) := by decide +kernel
theorem dX7_spells_8 : decode cX7_spells 8 = .ok (.isub, 1) := by decide +kernel
theorem dX7_spells_9 : decode cX7_spells 9 = .ok (.aload_n 1, 1) := by decide +kernel
theorem dX7_spells_10 : decode cX7_spells 10 = .ok (.invokevirtual 38, 3) := by decide +kernel
theorem dX7_spells_13 : decode cX7_spells 13 = .ok (.if_icmp .eq 5, 3) := by decide +kernel
theorem dX7_spells_16 : decode cX7_spells 16 = .ok (.iconst 0, 1) := by decide +kernel
theorem dX7_spells_17 : decode cX7_spells 17 = .ok (.ireturn, 1) := by decide +kernel
theorem dX7_spells_18 : decode cX7_spells 18 = .ok (.iconst 0, 1) := by decide +kernel
theorem dX7_spells_19 : decode cX7_spells 19 = .ok (.istore_n 2, 1) := by decide +kernel
theorem dX7_spells_20 : decode cX7_spells 20 = .ok (.iload_n 2, 1) := by decide +kernel
theorem dX7_spells_21 : decode cX7_spells 21 = .ok (.aload_n 1, 1) := by decide +kernel
theorem dX7_spells_22 : decode cX7_spells 22 = .ok (.invokevirtual 38, 3) := by decide +kernel
theorem dX7_spells_25 : decode cX7_spells 25 = .ok (.if_icmp .ge 30, 3) := by decide +kernel
theorem dX7_spells_28 : decode cX7_spells 28 = .ok (.aload_n 0, 1) := by decide +kernel
theorem dX7_spells_29 : decode cX7_spells 29 = .ok (.getfield 9, 3) := by decide +kernel
theorem dX7_spells_32 : decode cX7_spells 32 = .ok (.aload_n 0, 1) := by decide +kernel
theorem dX7_spells_33 : decode cX7_spells 33 = .ok (.getfield 22, 3) := by decide +kernel
theorem dX7_spells_36 : decode cX7_spells 36 = .ok (.iload_n 2, 1) := by decide +kernel
theorem dX7_spells_37 : decode cX7_spells 37 = .ok (.iadd, 1) := by decide +kernel
theorem dX7_spells_38 : decode cX7_spells 38 = .ok (.iaload, 1) := by decide +kernel
theorem dX7_spells_39 : decode cX7_spells 39 = .ok (.aload_n 1, 1) := by decide +kernel
theorem dX7_spells_40 : decode cX7_spells 40 = .ok (.iload_n 2, 1) := by decide +kernel
theorem dX7_spells_41 : decode cX7_spells 41 = .ok (.invokevirtual 43, 3) := by decide +kernel
theorem dX7_spells_44 : decode cX7_spells 44 = .ok (.if_icmp .eq 5, 3) := by decide +kernel
theorem dX7_spells_47 : decode cX7_spells 47 = .ok (.iconst 0, 1) := by decide +kernel
theorem dX7_spells_48 : decode cX7_spells 48 = .ok (.ireturn, 1) := by decide +kernel
theorem dX7_spells_49 : decode cX7_spells 49 = .ok (.iinc 2 1, 3) := by decide +kernel
theorem dX7_spells_52 : decode cX7_spells 52 = .ok (.goto (-32), 3) := by decide +kernel
theorem dX7_spells_55 : decode cX7_spells 55 = .ok (.iconst 1, 1) := by decide +kernel
theorem dX7_spells_56 : decode cX7_spells 56 = .ok (.ireturn, 1) := by decide +kernel
theorem lk_J0_335 : LkV RJ0 335 RJ0 yJ0_coder_7d493 cJ0_coder_7d493 1 (some .byte) 0 := LkV.of 482 483 484 72 485 (by decide +kernel) (by decide +kernel) (by decide +kernel) (by decide +kernel) (by decide +kernel) (by decide +kernel)
theorem lk_J0_492 : LkV RJ0 492 RJ0 yJ0_isLatin1_aae02 cJ0_isLatin1_aae02 1 (some .boolean) 0 := LkV.of 492 493 494 72 495 (by decide +kernel) (by decide +kernel) (by decide +kernel) (by decide +kernel) (by decide +kernel) (by decide +kernel)
theorem lk_J0_495 : LkS RJ0 495 yJ1_charAt_3b067 cJ1_charAt_3b067 2 (some .char) 2 := LkS.of 496 497 73 498 (by decide +kernel) (by decide +kernel) (by decide +kernel) (by decide +kernel) (by decide +kernel)
theorem lk_J1_9 : LkS RJ1 9 yJ0_checkIndex_df160 cJ0_checkIndex_df160 2 none 2 := LkS.of 499 500 72 501 (by decide +kernel) (by decide +kernel) (by decide +kernel) (by decide +kernel) (by decide +kernel)
theorem lk_J0_1059 : LkS RJ0 1059 yJ3_checkIndex_8e157 cJ3_checkIndex_8e157 3 (some .int) 3 := LkS.of 504 505 74 506 (by decide +kernel) (by decide +kernel) (by decide +kernel) (by decide +kernel) (by decide +kernel)
theorem lk_X7_38 : LkV RX7 38 RJ0 yJ0_length_8abf5 cJ0_length_8abf5 1 (some .int) 0 := LkV.of 478 479 480 72 481 (by decide +kernel) (by decide +kernel) (by decide +kernel) (by decide +kernel) (by decide +kernel) (by decide +kernel)
theorem lk_X7_43 : LkV RX7 43 RJ0 yJ0_charAt_5068e cJ0_charAt_5068e 2 (some .char) 1 := LkV.of 488 489 490 72 491 (by decide +kernel) (by decide +kernel) (by decide +kernel) (by decide +kernel) (by decide +kernel) (by decide +kernel)

abbrev sK (ω : WD) (k : Nat) : Nat := ω.2.2.2.2.1 k
abbrev sV (ω : WD) (k : Nat) : Nat := ω.2.2.2.2.2 k
section GS
variable {ω : WD} {ρ : FR} {M : Mem} {cc : ByteArray} {own : String} {d n pc idx n' d' k : Nat} {lv : List (Nat × Value)} {As rest st : List Value} {y : MethodName} {bytes : ByteArray} {ret : Option FieldType}
theorem G_ldcS {j : Nat} (K : Cx ω ρ cc own d n) (ho : own = "StepCalls$Reader") (hd : decode cc pc = .ok (.ldc idx, 2)) (hj : j < 7) (hi : sxI.getD j 0 = idx) (k : G ω ρ M (pc + 2) lv (.ref (ω.2.2.2.2.1 j) :: rest)) : G ω ρ M pc lv rest := fun ls H locs h hP hS => by
  subst ho
  subst hi
  exact va_ldcS K.1 K.2.1 K.2.2.2.1 (K.2.2.2.2.2.2.2.2.2.1.2.2.1 j hj) hd (k ls H locs h hP hS)
theorem G_gets {C nm ds : String} {v : Value} (K : Cx ω ρ cc own d n) (hZ : va_Z C nm ds v (gA ω ρ.2.1.1.heap.size) ρ.2.1.1 ρ.2.1.1.heap) (hl : Cond.fieldLink own idx C nm ds ∈ TB) (hd : decode cc pc = .ok (.getstatic idx, 3)) (k : G ω ρ M (pc + 3) lv (v :: rest)) : G ω ρ M pc lv rest := fun ls H locs h hP hS =>
  va_gets K.1 K.2.1 hZ hS K.2.2.2.1 (K.2.2.2.2.1 _ hl) (fun x hx => hx) hd (k ls H locs h hP hS)
theorem G_scod (K : Cx ω ρ cc own d n) (hk : k < 7) (hl : Cond.fieldLink own idx "java/lang/String" "coder" "B" ∈ TB) (hd : decode cc pc = .ok (.getfield idx, 3)) (kk : G ω ρ M (pc + 3) lv (.int 0 :: rest)) : G ω ρ M pc lv (.ref (sK ω k) :: rest) := fun ls H locs h hP hS =>
  vk_getf K.1 K.2.1 (K.2.2.2.2.2.2.2.2.2.1.2.2.2.1.1 k hk).2.1 hS K.2.2.2.1 (K.2.2.2.2.1 _ hl) (fun x hx => hx) hd (kk ls H locs h hP hS)
theorem G_sval (K : Cx ω ρ cc own d n) (hk : k < 7) (hl : Cond.fieldLink own idx "java/lang/String" "value" "[B" ∈ TB) (hd : decode cc pc = .ok (.getfield idx, 3)) (kk : G ω ρ M (pc + 3) lv (.ref (sV ω k) :: rest)) : G ω ρ M pc lv (.ref (sK ω k) :: rest) := fun ls H locs h hP hS =>
  vk_getf K.1 K.2.1 (K.2.2.2.2.2.2.2.2.2.1.2.2.2.1.1 k hk).2.2.1 hS K.2.2.2.1 (K.2.2.2.2.1 _ hl) (fun x hx => hx) hd (kk ls H locs h hP hS)
theorem G_slen (K : Cx ω ρ cc own d n) (hk : k < 7) (hd : decode cc pc = .ok (.arraylength, 1)) (kk : G ω ρ M (pc + 1) lv (.int (Int32.ofNat (lenS.getD k 0)) :: rest)) : G ω ρ M pc lv (.ref (sV ω k) :: rest) := fun ls H locs h hP hS =>
  va_tlen K.1 K.2.1 (K.2.2.2.2.2.2.2.2.2.1.2.2.2.1.1 k hk).2.2.2 hS rfl hd (kk ls H locs h hP hS)
theorem G_sbald {i : Int32} (K : Cx ω ρ cc own d n) (hk : k < 7) (hi : vp_in i (lenS.getD k 0)) (hd : decode cc pc = .ok (.baload, 1)) (kk : G ω ρ M (pc + 1) lv (.int ((bytS.getD k []).getD i.toNatClampNeg 0) :: rest)) : G ω ρ M pc lv (.int i :: .ref (sV ω k) :: rest) := fun ls H locs h hP hS =>
  va_tb K.1 K.2.1 (K.2.2.2.2.2.2.2.2.2.1.2.2.2.1.1 k hk).2.2.2 hS hi rfl hd (kk ls H locs h hP hS)
theorem G_callIS {post : Int32 → Mem → Prop} (K : Cx ω ρ cc own d n) (hd : decode cc pc = .ok (.invokevirtual idx, 3)) (Lk : LkV own idx RJ0 y bytes n' ret As.length) (h1 : d' + 1 ≤ d) (h2 : n' ≤ 17) (hk : k < 7) (hcat : (rest.map fun v => v.category).sum ≤ 8) (hst : st = As.reverse ++ .ref (sK ω k) :: rest) (hm : MtI ω y bytes n' ret d' (.ref (sK ω k) :: As) M post) (kk : ∀ (r : Int32) (M' : Mem), post r M' → G ω ρ M' (pc + 3) lv (.int r :: rest)) : G ω ρ M pc lv st := fun ls H locs h hP hS =>
  va_calli (va_runV (Ts := TB) ⟨K.1, K.2.1, K.2.2.1, K.2.2.2.1, K.2.2.2.2.1⟩ (hm H.size) (cwV (ws := .code y bytes n' ret :: TB) As.length K.2.2.2.2.1 (lk_good Lk.1) rfl rfl rfl Lk.2 (room_of K h1 h2))
    ⟨blindM, vk_recv K.2.2.2.2.2.2.2.2.2.1.2.2.2.1 hk hS, fun U hU hW => preM_of K hP hS U hU hW _⟩ rfl rfl (h.1.trans K.2.2.2.2.2.2.2.2.2.2) hst (lv_room hcat) hd ⟨K.2.2.2.2.2.2.2.2.1.1, K.2.2.2.2.2.2.2.2.1.2⟩) hS (fun q _ hq => gA_in hS.1 hq) (fun q hq => gA_in hS.1 hq) (fun r u t H1 locs1 ht _ hp hB _ _ hS1 => kk r u hp ls H1 locs1 h (by rw [← ht]; exact hB) hS1)
end GS

set_option maxRecDepth 100000 in
set_option maxHeartbeats 4000000 in
theorem S_J0_coder_7d493 {ω : WD} {M : Mem} {post : Int32 → Mem → Prop} {k : Nat} (hk : k < 7) (h : post 0 M) : MtI ω yJ0_coder_7d493 cJ0_coder_7d493 1 (some .byte) 0 [.ref (sK ω k)] M post := by
  refine MtI.start (ty := .byte) rfl (by decide +kernel) (own := RJ0) rfl (Nat.le_of_ble_eq_true rfl) (fun ρ C R => ?_)
  show G ω ρ M 0 [(0, .ref (sK ω k))] []
  refine G_gets C C.2.2.2.2.2.2.2.2.2.1.2.2.2.2.1 (tb_of 486 ⟨by decide +kernel, rfl⟩) dJ0_coder_7d493_0 ?_
  refine G_if_eq (tgt := 13) C dJ0_coder_7d493_3 (by decide) (fun c => absurd c (by decide)) (fun _ => ?_)
  refine G_aload_n C dJ0_coder_7d493_6 0 rfl ?_
  refine G_scod C hk (tb_of 1458 ⟨by decide +kernel, rfl⟩) dJ0_coder_7d493_7 ?_
  refine G_goto (tgt := 14) C dJ0_coder_7d493_10 (by decide) ?_
  exact R 14 _ _ _ dJ0_coder_7d493_14 rfl h
set_option maxRecDepth 100000 in
set_option maxHeartbeats 4000000 in
theorem S_J0_isLatin1_aae02 {ω : WD} {M : Mem} {post : Int32 → Mem → Prop} {k : Nat} (hk : k < 7) (h : post 1 M) : MtI ω yJ0_isLatin1_aae02 cJ0_isLatin1_aae02 1 (some .boolean) 0 [.ref (sK ω k)] M post := by
  refine MtI.start (ty := .boolean) rfl (by decide +kernel) (own := RJ0) rfl (Nat.le_of_ble_eq_true rfl) (fun ρ C R => ?_)
  show G ω ρ M 0 [(0, .ref (sK ω k))] []
  refine G_gets C C.2.2.2.2.2.2.2.2.2.1.2.2.2.2.1 (tb_of 486 ⟨by decide +kernel, rfl⟩) dJ0_isLatin1_aae02_0 ?_
  refine G_if_eq (tgt := 17) C dJ0_isLatin1_aae02_3 (by decide) (fun c => absurd c (by decide)) (fun _ => ?_)
  refine G_aload_n C dJ0_isLatin1_aae02_6 0 rfl ?_
  refine G_scod C hk (tb_of 1458 ⟨by decide +kernel, rfl⟩) dJ0_isLatin1_aae02_7 ?_
  refine G_if_ne (tgt := 17) C dJ0_isLatin1_aae02_10 (by decide) (fun c => absurd rfl c) (fun _ => ?_)
  refine G_iconst (v := 1) C dJ0_isLatin1_aae02_13 (by decide) ?_
  refine G_goto (tgt := 18) C dJ0_isLatin1_aae02_14 (by decide) ?_
  exact R 18 _ _ _ dJ0_isLatin1_aae02_18 rfl h
set_option maxRecDepth 100000 in
set_option maxHeartbeats 4000000 in
theorem S_J0_length_8abf5 {ω : WD} {M : Mem} {post : Int32 → Mem → Prop} {k : Nat} (hk : k < 7) (h : post (Int32.ofNat (lenS.getD k 0)) M) : MtI ω yJ0_length_8abf5 cJ0_length_8abf5 1 (some .int) 1 [.ref (sK ω k)] M post := by
  refine MtI.start (ty := .int) rfl (by decide +kernel) (own := RJ0) rfl (Nat.le_of_ble_eq_true rfl) (fun ρ C R => ?_)
  show G ω ρ M 0 [(0, .ref (sK ω k))] []
  refine G_aload_n C dJ0_length_8abf5_0 0 rfl ?_
  refine G_sval C hk (tb_of 1457 ⟨by decide +kernel, rfl⟩) dJ0_length_8abf5_1 ?_
  refine G_slen C hk dJ0_length_8abf5_4 ?_
  refine G_aload_n C dJ0_length_8abf5_5 0 rfl ?_
  refine G_callIS (As := []) (rest := [.int (Int32.ofNat (lenS.getD k 0))]) C dJ0_length_8abf5_6 lk_J0_335 (Nat.le_of_ble_eq_true rfl) (Nat.le_of_ble_eq_true rfl) hk (Nat.le_of_ble_eq_true rfl) rfl (S_J0_coder_7d493 (post := fun r M' => r = 0 ∧ M' = M) hk ⟨rfl, rfl⟩) (fun r M1 hr => ?_)
  obtain ⟨rfl, rfl⟩ := hr
  refine G_ishr C dJ0_length_8abf5_9 ?_
  refine R 10 _ _ _ dJ0_length_8abf5_10 rfl ?_
  have e : ∀ k, k < 7 → (Int32.ofNat (lenS.getD k 0)) >>> ((0 : Int32) &&& 31) = Int32.ofNat (lenS.getD k 0) := by decide +kernel
  rw [e k hk]
  exact h
set_option maxRecDepth 100000 in
set_option maxHeartbeats 4000000 in
theorem S_J3_checkIndex_8e157 {ω : WD} {M : Mem} {post : Int32 → Mem → Prop} {i n : Int32} {v : Value} (hv : v = .null ∨ ∃ t, v = .ref t) (h0 : ¬ i < 0) (h1 : i < n) (h : post i M) : MtI ω yJ3_checkIndex_8e157 cJ3_checkIndex_8e157 3 (some .int) 0 [.int i, .int n, v] M post := by
  rcases hv with rfl | ⟨t, rfl⟩
  · refine MtI.start (ty := .int) rfl (by decide +kernel) (own := RJ3) rfl (Nat.le_of_ble_eq_true rfl) (fun ρ C R => ?_)
    show G ω ρ M 0 [(0, .int i), (1, .int n), (2, .null)] []
    refine G_iload_n C dJ3_checkIndex_8e157_0 0 rfl ?_
    refine G_if_lt (tgt := 9) C dJ3_checkIndex_8e157_1 (by decide) (fun c => absurd c h0) (fun _ => ?_)
    refine G_iload_n C dJ3_checkIndex_8e157_4 0 rfl ?_
    refine G_iload_n C dJ3_checkIndex_8e157_5 1 rfl ?_
    refine G_icmp_lt (tgt := 16) C dJ3_checkIndex_8e157_6 (by decide) (fun _ => ?_) (fun c => absurd h1 c)
    refine G_iload_n C dJ3_checkIndex_8e157_16 0 rfl ?_
    exact R 17 _ _ _ dJ3_checkIndex_8e157_17 rfl h
  · refine MtI.start (ty := .int) rfl (by decide +kernel) (own := RJ3) rfl (Nat.le_of_ble_eq_true rfl) (fun ρ C R => ?_)
    show G ω ρ M 0 [(0, .int i), (1, .int n), (2, .ref t)] []
    refine G_iload_n C dJ3_checkIndex_8e157_0 0 rfl ?_
    refine G_if_lt (tgt := 9) C dJ3_checkIndex_8e157_1 (by decide) (fun c => absurd c h0) (fun _ => ?_)
    refine G_iload_n C dJ3_checkIndex_8e157_4 0 rfl ?_
    refine G_iload_n C dJ3_checkIndex_8e157_5 1 rfl ?_
    refine G_icmp_lt (tgt := 16) C dJ3_checkIndex_8e157_6 (by decide) (fun _ => ?_) (fun c => absurd h1 c)
    refine G_iload_n C dJ3_checkIndex_8e157_16 0 rfl ?_
    exact R 17 _ _ _ dJ3_checkIndex_8e157_17 rfl h
set_option maxRecDepth 100000 in
set_option maxHeartbeats 4000000 in
theorem S_J0_checkIndex_df160 {ω : WD} {M : Mem} {post : Mem → Prop} {i n : Int32} (h0 : ¬ i < 0) (h1 : i < n) (h : post M) : MtV ω yJ0_checkIndex_df160 cJ0_checkIndex_df160 2 none 1 [.int i, .int n] M post := by
  refine MtV.start rfl (by decide +kernel) (own := RJ0) rfl (Nat.le_of_ble_eq_true rfl) (fun ρ C R => ?_)
  show G ω ρ M 0 [(0, .int i), (1, .int n)] []
  refine G_iload_n C dJ0_checkIndex_df160_0 0 rfl ?_
  refine G_iload_n C dJ0_checkIndex_df160_1 1 rfl ?_
  have hq := C.2.2.2.2.2.2.2.2.2.1.2.2.2.2.2
  have key : ∀ v : Value, (v = .null ∨ ∃ t, v = .ref t) → G ω ρ M 5 [(0, .int i), (1, .int n)] [v, .int n, .int i] := fun v hv => by
    refine G_scallI (As := [.int i, .int n, v]) (rest := []) C dJ0_checkIndex_df160_5 lk_J0_1059 (Nat.le_of_ble_eq_true rfl) (Nat.le_of_ble_eq_true rfl) (Nat.le_of_ble_eq_true rfl) rfl (S_J3_checkIndex_8e157 (post := fun r M' => M' = M) hv h0 h1 rfl) (fun r M1 hr => ?_)
    subst hr
    refine G_pop C dJ0_checkIndex_df160_8 rfl ?_
    exact R 9 _ _ dJ0_checkIndex_df160_9 h
  rcases hq with hq | ⟨t, hq⟩
  · exact G_gets C hq (tb_of 502 ⟨by decide +kernel, rfl⟩) dJ0_checkIndex_df160_2 (key _ (Or.inl rfl))
  · exact G_gets C hq (tb_of 502 ⟨by decide +kernel, rfl⟩) dJ0_checkIndex_df160_2 (key _ (Or.inr ⟨t, rfl⟩))
/-- the sign at place j of text k -/
def chS (k j : Nat) : Int32 := (bytS.getD k []).getD j 0
theorem chS_c : ∀ k, k < 7 → ∀ j, j < lenS.getD k 0 → ((chS k j &&& 255).toUInt32 % 65536).toInt32 = chS k j ∧ narrow .char (.int (chS k j)) = .int (chS k j) := by decide +kernel
theorem lenS_s : ∀ k, k < 7 → lenS.getD k 0 < 2 ^ 31 ∧ (bytS.getD k []).length = lenS.getD k 0 := by decide +kernel
set_option maxRecDepth 100000 in
set_option maxHeartbeats 4000000 in
theorem S_J1_charAt_3b067 {ω : WD} {M : Mem} {post : Int32 → Mem → Prop} {k : Nat} {i : Int32} (hk : k < 7) (hi : vp_in i (lenS.getD k 0)) (h : post (chS k i.toNatClampNeg) M) : MtI ω yJ1_charAt_3b067 cJ1_charAt_3b067 2 (some .char) 2 [.ref (sV ω k), .int i] M post := by
  refine MtI.start (ty := .char) rfl (by decide +kernel) (own := RJ1) rfl (Nat.le_of_ble_eq_true rfl) (fun ρ C R => ?_)
  show G ω ρ M 0 [(0, .ref (sV ω k)), (1, .int i)] []
  obtain ⟨j, hj, rfl⟩ := vp_in_of hi (lenS_s k hk).1
  have hs := (lenS_s k hk).1
  have hjc : (nI j).toNatClampNeg = j := nI_clamp (by omega)
  refine G_iload_n C dJ1_charAt_3b067_0 1 rfl ?_
  refine G_aload_n C dJ1_charAt_3b067_1 0 rfl ?_
  refine G_slen C hk dJ1_charAt_3b067_2 ?_
  refine G_scallV (As := [.int (nI j), .int (Int32.ofNat (lenS.getD k 0))]) (rest := []) C dJ1_charAt_3b067_3 lk_J1_9 (Nat.le_of_ble_eq_true rfl) (Nat.le_of_ble_eq_true rfl) (Nat.le_of_ble_eq_true rfl) rfl (S_J0_checkIndex_df160 (post := fun M' => M' = M) (nI_pos (by omega)) (nI_lt hj hs) rfl) (fun M1 hr => ?_)
  subst hr
  refine G_aload_n C dJ1_charAt_3b067_6 0 rfl ?_
  refine G_iload_n C dJ1_charAt_3b067_7 1 rfl ?_
  refine G_sbald C hk hi dJ1_charAt_3b067_8 ?_
  refine G_sipush (v := 255) C dJ1_charAt_3b067_9 (by decide) ?_
  refine G_iand C dJ1_charAt_3b067_12 ?_
  refine G_i2c C dJ1_charAt_3b067_13 ?_
  have e := chS_c k hk j hj
  rw [hjc] at h ⊢
  show G ω ρ M1 (13 + 1) _ [.int (((chS k j) &&& 255).toUInt32 % 65536).toInt32]
  rw [e.1]
  exact R 14 _ _ _ dJ1_charAt_3b067_14 e.2 h
set_option maxRecDepth 100000 in
set_option maxHeartbeats 4000000 in
theorem S_J0_charAt_5068e {ω : WD} {M : Mem} {post : Int32 → Mem → Prop} {k : Nat} {i : Int32} (hk : k < 7) (hi : vp_in i (lenS.getD k 0)) (h : post (chS k i.toNatClampNeg) M) : MtI ω yJ0_charAt_5068e cJ0_charAt_5068e 2 (some .char) 3 [.ref (sK ω k), .int i] M post := by
  refine MtI.start (ty := .char) rfl (by decide +kernel) (own := RJ0) rfl (Nat.le_of_ble_eq_true rfl) (fun ρ C R => ?_)
  show G ω ρ M 0 [(0, .ref (sK ω k)), (1, .int i)] []
  refine G_aload_n C dJ0_charAt_5068e_0 0 rfl ?_
  refine G_callIS (As := []) (rest := []) C dJ0_charAt_5068e_1 lk_J0_492 (Nat.le_of_ble_eq_true rfl) (Nat.le_of_ble_eq_true rfl) hk (Nat.le_of_ble_eq_true rfl) rfl (S_J0_isLatin1_aae02 (post := fun r M' => r = 1 ∧ M' = M) hk ⟨rfl, rfl⟩) (fun r M1 hr => ?_)
  obtain ⟨rfl, rfl⟩ := hr
  refine G_if_eq (tgt := 16) C dJ0_charAt_5068e_4 (by decide) (fun c => absurd c (by decide)) (fun _ => ?_)
  refine G_aload_n C dJ0_charAt_5068e_7 0 rfl ?_
  refine G_sval C hk (tb_of 1457 ⟨by decide +kernel, rfl⟩) dJ0_charAt_5068e_8 ?_
  refine G_iload_n C dJ0_charAt_5068e_11 1 rfl ?_
  refine G_scallI (As := [.ref (sV ω k), .int i]) (rest := []) C dJ0_charAt_5068e_12 lk_J0_495 (Nat.le_of_ble_eq_true rfl) (Nat.le_of_ble_eq_true rfl) (Nat.le_of_ble_eq_true rfl) rfl (S_J1_charAt_3b067 (post := fun r M' => r = chS k i.toNatClampNeg ∧ M' = M1) hk hi ⟨rfl, rfl⟩) (fun r M2 hr => ?_)
  obtain ⟨rfl, rfl⟩ := hr
  obtain ⟨j, hj, rfl⟩ := vp_in_of hi (lenS_s k hk).1
  have hs := (lenS_s k hk).1
  have hjc : (nI j).toNatClampNeg = j := nI_clamp (by omega)
  rw [hjc] at h ⊢
  exact R 15 _ _ _ dJ0_charAt_5068e_15 (chS_c k hk j hj).2 h
def w_sp (post : Int32 → Mem → Prop) (M : Mem) : List Int32 → Int32 → Prop
  | [], _ => post 1 M
  | b :: bs, i => vp_in (rd M 50 3 + i) 160 ∧ ((¬ rd M 51 (rd M 50 3 + i).toNatClampNeg = b → post 0 M) ∧ (rd M 51 (rd M 50 3 + i).toNatClampNeg = b → w_sp post M bs (i + 1)))
def w_X7_spells (k : Nat) (M : Mem) (post : Int32 → Mem → Prop) : Prop := (¬ (rd M 50 4 - rd M 50 3) = nI (lenS.getD k 0) → post 0 M) ∧ ((rd M 50 4 - rd M 50 3) = nI (lenS.getD k 0) → w_sp post M (bytS.getD k []) 0)
set_option maxRecDepth 100000 in
set_option maxHeartbeats 4000000 in
theorem S_X7_spells {ω : WD} {k : Nat} {M : Mem} {post : Int32 → Mem → Prop} (hk : k < 7) (h : w_X7_spells k M post) : MtI ω yX7_spells cX7_spells 3 (some .boolean) 4 [.ref (adr ω 50), .ref (sK ω k)] M post := by
  refine MtI.start (ty := .boolean) rfl (by decide +kernel) (own := RX7) rfl (Nat.le_of_ble_eq_true rfl) (fun ρ C R => ?_)
  show G ω ρ M 0 [(0, .ref (adr ω 50)), (1, .ref (sK ω k))] []
  have hs := (lenS_s k hk).1
  have loop : ∀ (bs : List Int32) (j : Nat), j ≤ lenS.getD k 0 → (bytS.getD k []).drop j = bs → w_sp post M bs (nI j) → G ω ρ M 20 [(2, .int (nI j)), (0, .ref (adr ω 50)), (1, .ref (sK ω k))] [] := by
    intro bs
    induction bs with
    | nil =>
      intro j hj hdr h
      have hlen : lenS.getD k 0 ≤ j := by rw [← (lenS_s k hk).2]; exact List.drop_eq_nil_iff.mp hdr
      refine G_iload_n C dX7_spells_20 0 rfl ?_
      refine G_aload_n C dX7_spells_21 2 rfl ?_
      refine G_callIS (As := []) (rest := [.int (nI j)]) C dX7_spells_22 lk_X7_38 (Nat.le_of_ble_eq_true rfl) (Nat.le_of_ble_eq_true rfl) hk (Nat.le_of_ble_eq_true rfl) rfl (S_J0_length_8abf5 (post := fun r M' => r = nI (lenS.getD k 0) ∧ M' = M) hk ⟨rfl, rfl⟩) (fun r M1 hr => ?_)
      obtain ⟨rfl, rfl⟩ := hr
      refine G_icmp_ge (tgt := 55) C dX7_spells_25 (by decide) (fun _ => ?_) (fun c => absurd (nI_le hlen (by omega)) c)
      refine G_iconst (v := 1) C dX7_spells_55 (by decide) ?_
      exact R 56 _ _ _ dX7_spells_56 rfl h
    | cons b bs ih =>
      intro j hj hdr h
      have hlt : j < lenS.getD k 0 := by
        rcases Nat.lt_or_ge j (lenS.getD k 0) with q | q
        · exact q
        · rw [List.drop_eq_nil_of_le (by rw [(lenS_s k hk).2]; exact q)] at hdr; cases hdr
      obtain ⟨hi, h1, h2⟩ := h
      have hb : chS k j = b := by
        have : (bytS.getD k []).drop j = (bytS.getD k [])[j]'(by rw [(lenS_s k hk).2]; exact hlt) :: (bytS.getD k []).drop (j + 1) := List.drop_eq_getElem_cons _
        rw [hdr] at this
        have e := (List.cons.inj this).1
        rw [e]
        unfold chS
        rw [List.getD_eq_getElem?_getD, List.getElem?_eq_getElem (by rw [(lenS_s k hk).2]; exact hlt)]
        rfl
      have hd2 : (bytS.getD k []).drop (j + 1) = bs := by
        have : (bytS.getD k []).drop j = (bytS.getD k [])[j]'(by rw [(lenS_s k hk).2]; exact hlt) :: (bytS.getD k []).drop (j + 1) := List.drop_eq_getElem_cons _
        rw [hdr] at this
        exact (List.cons.inj this).2.symm
      refine G_iload_n C dX7_spells_20 0 rfl ?_
      refine G_aload_n C dX7_spells_21 2 rfl ?_
      refine G_callIS (As := []) (rest := [.int (nI j)]) C dX7_spells_22 lk_X7_38 (Nat.le_of_ble_eq_true rfl) (Nat.le_of_ble_eq_true rfl) hk (Nat.le_of_ble_eq_true rfl) rfl (S_J0_length_8abf5 (post := fun r M' => r = nI (lenS.getD k 0) ∧ M' = M) hk ⟨rfl, rfl⟩) (fun r M1 hr => ?_)
      obtain ⟨rfl, rfl⟩ := hr
      refine G_icmp_ge (tgt := 55) C dX7_spells_25 (by decide) (fun c => absurd c (nI_ge hlt hs)) (fun _ => ?_)
      refine G_aload_n C dX7_spells_28 1 rfl ?_
      refine gf_X7_9 C dX7_spells_29 ?_
      refine G_aload_n C dX7_spells_32 1 rfl ?_
      refine gf_X7_22 C dX7_spells_33 ?_
      refine G_iload_n C dX7_spells_36 0 rfl ?_
      refine G_iadd C dX7_spells_37 ?_
      refine G_iald C q51 hi dX7_spells_38 ?_
      refine G_aload_n C dX7_spells_39 2 rfl ?_
      refine G_iload_n C dX7_spells_40 0 rfl ?_
      refine G_callIS (As := [.int (nI j)]) (rest := [.int (rd M1 51 (rd M1 50 3 + nI j).toNatClampNeg)]) C dX7_spells_41 lk_X7_43 (Nat.le_of_ble_eq_true rfl) (Nat.le_of_ble_eq_true rfl) hk (Nat.le_of_ble_eq_true rfl) rfl (S_J0_charAt_5068e (post := fun r M' => r = chS k (nI j).toNatClampNeg ∧ M' = M1) hk (vp_in_nI hlt hs) ⟨rfl, rfl⟩) (fun r M2 hr => ?_)
      obtain ⟨rfl, rfl⟩ := hr
      rw [nI_clamp (show j < 2 ^ 31 by omega), hb]
      refine G_icmp_eq (tgt := 49) C dX7_spells_44 (by decide) (fun c => ?_) (fun c => ?_)
      · refine G_iinc C dX7_spells_49 0 rfl (v := nI (j + 1)) (nI_1 j) (by decide) (lv' := [(2, .int (nI (j + 1))), (0, .ref (adr ω 50)), (1, .ref (sK ω k))]) rfl ?_
        refine G_goto (tgt := 20) C dX7_spells_52 (by decide) ?_
        exact ih (j + 1) hlt hd2 (by have := h2 c; rw [nI_1] at this; exact this)
      · refine G_iconst (v := 0) C dX7_spells_47 (by decide) ?_
        exact R 48 _ _ _ dX7_spells_48 rfl (h1 c)
  obtain ⟨h1, h2⟩ := h
  refine G_aload_n C dX7_spells_0 0 rfl ?_
  refine gf_X7_25 C dX7_spells_1 ?_
  refine G_aload_n C dX7_spells_4 0 rfl ?_
  refine gf_X7_22 C dX7_spells_5 ?_
  refine G_isub C dX7_spells_8 ?_
  refine G_aload_n C dX7_spells_9 1 rfl ?_
  refine G_callIS (As := []) (rest := [.int (rd M 50 4 - rd M 50 3)]) C dX7_spells_10 lk_X7_38 (Nat.le_of_ble_eq_true rfl) (Nat.le_of_ble_eq_true rfl) hk (Nat.le_of_ble_eq_true rfl) rfl (S_J0_length_8abf5 (post := fun r M' => r = nI (lenS.getD k 0) ∧ M' = M) hk ⟨rfl, rfl⟩) (fun r M1 hr => ?_)
  obtain ⟨rfl, rfl⟩ := hr
  refine G_icmp_eq (tgt := 18) C dX7_spells_13 (by decide) (fun c => ?_) (fun c => ?_)
  · refine G_iconst (v := 0) C dX7_spells_18 (by decide) ?_
    refine G_istore_n C dX7_spells_19 (by decide) (lv' := [(2, .int 0), (0, .ref (adr ω 50)), (1, .ref (sK ω k))]) rfl ?_
    exact loop _ 0 (Nat.zero_le _) rfl (h2 c)
  · refine G_iconst (v := 0) C dX7_spells_16 (by decide) ?_
    exact R 17 _ _ _ dX7_spells_17 rfl (h1 c)
end
section
theorem dX9_isNumber_0 : decode cX9_isNumber 0 = .ok (.iload_n 0, 1) := by decide +kernel
theorem dX9_isNumber_1 : decode cX9_isNumber 1 = .ok (.ifCond .lt 23, 3) := by decide +kernel
theorem dX9_isNumber_4 : decode cX9_isNumber 4 = .ok (.iload_n 0, 1) := by decide +kernel
theorem dX9_isNumber_5 : decode cX9_isNumber 5 = .ok (.bipush 10, 2) := by decide +kernel
theorem dX9_isNumber_7 : decode cX9_isNumber 7 = .ok (.idiv, 1) := by decide +kernel
theorem dX9_isNumber_8 : decode cX9_isNumber 8 = .ok (.iconst 4, 1) := by decide +kernel
theorem dX9_isNumber_9 : decode cX9_isNumber 9 = .ok (.if_icmp .gt 15, 3) := by decide +kernel
theorem dX9_isNumber_12 : decode cX9_isNumber 12 = .ok (.iload_n 0, 1) := by decide +kernel
theorem dX9_isNumber_13 : decode cX9_isNumber 13 = .ok (.bipush 10, 2) := by decide +kernel
theorem dX9_isNumber_15 : decode cX9_isNumber 15 = .ok (.irem, 1) := by decide +kernel
theorem dX9_isNumber_16 : decode cX9_isNumber 16 = .ok (.iconst 4, 1) := by decide +kernel
theorem dX9_isNumber_17 : decode cX9_isNumber 17 = .ok (.if_icmp .gt 7, 3) := by decide +kernel
theorem dX9_isNumber_20 : decode cX9_isNumber 20 = .ok (.iconst 1, 1) := by decide +kernel
theorem dX9_isNumber_21 : decode cX9_isNumber 21 = .ok (.goto 4, 3) := by decide +kernel
theorem dX9_isNumber_24 : decode cX9_isNumber 24 = .ok (.iconst 0, 1) := by decide +kernel
theorem dX9_isNumber_25 : decode cX9_isNumber 25 = .ok (.ireturn, 1) := by decide +kernel
def w_X9_isNumber (l0 : Int32) (M : Mem) (post : Int32 → Mem → Prop) : Prop := ((l0 < 0 → post 0 M) ∧ (¬ l0 < 0 → ((4 < (l0 / 10) → post 0 M) ∧ (¬ 4 < (l0 / 10) → ((4 < (irem l0 10) → post 0 M) ∧ (¬ 4 < (irem l0 10) → post 1 M))))))
set_option maxRecDepth 100000 in
set_option maxHeartbeats 4000000 in
theorem S_X9_isNumber {ω : WD} {l0 : Int32} {M : Mem} {post : Int32 → Mem → Prop} (h : w_X9_isNumber l0 M post) : MtI ω yX9_isNumber cX9_isNumber 1 (some .boolean) 0 [.int l0] M post := by
  refine MtI.start (ty := .boolean) rfl (by decide +kernel) (own := RX9) rfl (Nat.le_of_ble_eq_true rfl) (fun ρ C R => ?_)
  show G ω ρ M 0 [(0, .int l0)] []
  refine G_iload_n C dX9_isNumber_0 0 rfl ?_
  obtain ⟨h1, h2⟩ := h
  refine G_if_lt (tgt := 24) C dX9_isNumber_1 (by decide) (fun c => ?_) (fun c => ?_)
  · have h := h1 c
    clear h1 h2
    refine G_iconst (v := 0) C dX9_isNumber_24 (by decide) ?_
    exact R 25 _ _ _ dX9_isNumber_25 rfl h
  · have h := h2 c
    clear h1 h2
    refine G_iload_n C dX9_isNumber_4 0 rfl ?_
    refine G_bipush (v := 10) C dX9_isNumber_5 (by decide) ?_
    refine G_idiv C dX9_isNumber_7 (by decide) ?_
    refine G_iconst (v := 4) C dX9_isNumber_8 (by decide) ?_
    obtain ⟨h1, h2⟩ := h
    refine G_icmp_gt (tgt := 24) C dX9_isNumber_9 (by decide) (fun c => ?_) (fun c => ?_)
    · have h := h1 c
      clear h1 h2
      refine G_iconst (v := 0) C dX9_isNumber_24 (by decide) ?_
      exact R 25 _ _ _ dX9_isNumber_25 rfl h
    · have h := h2 c
      clear h1 h2
      refine G_iload_n C dX9_isNumber_12 0 rfl ?_
      refine G_bipush (v := 10) C dX9_isNumber_13 (by decide) ?_
      refine G_irem C dX9_isNumber_15 (by decide) ?_
      refine G_iconst (v := 4) C dX9_isNumber_16 (by decide) ?_
      obtain ⟨h1, h2⟩ := h
      refine G_icmp_gt (tgt := 24) C dX9_isNumber_17 (by decide) (fun c => ?_) (fun c => ?_)
      · have h := h1 c
        clear h1 h2
        refine G_iconst (v := 0) C dX9_isNumber_24 (by decide) ?_
        exact R 25 _ _ _ dX9_isNumber_25 rfl h
      · have h := h2 c
        clear h1 h2
        refine G_iconst (v := 1) C dX9_isNumber_20 (by decide) ?_
        refine G_goto (tgt := 25) C dX9_isNumber_21 (by decide) ?_
        exact R 25 _ _ _ dX9_isNumber_25 rfl h
theorem dX9_isDialled_0 : decode cX9_isDialled 0 = .ok (.iload_n 0, 1) := by decide +kernel
theorem dX9_isDialled_1 : decode cX9_isDialled 1 = .ok (.bipush 99, 2) := by decide +kernel
theorem dX9_isDialled_3 : decode cX9_isDialled 3 = .ok (.if_icmp .eq 10, 3) := by decide +kernel
theorem dX9_isDialled_6 : decode cX9_isDialled 6 = .ok (.iload_n 0, 1) := by decide +kernel
theorem dX9_isDialled_7 : decode cX9_isDialled 7 = .ok (.invokestatic 195, 3) := by decide +kernel
theorem dX9_isDialled_10 : decode cX9_isDialled 10 = .ok (.ifCond .eq 7, 3) := by decide +kernel
theorem dX9_isDialled_13 : decode cX9_isDialled 13 = .ok (.iconst 1, 1) := by decide +kernel
theorem dX9_isDialled_14 : decode cX9_isDialled 14 = .ok (.goto 4, 3) := by decide +kernel
theorem dX9_isDialled_17 : decode cX9_isDialled 17 = .ok (.iconst 0, 1) := by decide +kernel
theorem dX9_isDialled_18 : decode cX9_isDialled 18 = .ok (.ireturn, 1) := by decide +kernel
theorem lk_X9_195 : LkS RX9 195 yX9_isNumber cX9_isNumber 1 (some .boolean) 1 := LkS.of 578 535 61 536 (by decide +kernel) (by decide +kernel) (by decide +kernel) (by decide +kernel) (by decide +kernel)
def w_X9_isDialled_J13 (post : Int32 → Mem → Prop) (M : Mem) : Prop := post 1 M
set_option maxRecDepth 100000 in
set_option maxHeartbeats 4000000 in
theorem s_X9_isDialled_J13 {ω : WD} {ρ : FR} {post : Int32 → Mem → Prop} (C : Cx ω ρ cX9_isDialled RX9 1 1) (R : RtI ω ρ cX9_isDialled .boolean post) {M : Mem} (h : w_X9_isDialled_J13 post M) : G ω ρ M 13 [] [] := by
  refine G_iconst (v := 1) C dX9_isDialled_13 (by decide) ?_
  refine G_goto (tgt := 18) C dX9_isDialled_14 (by decide) ?_
  exact R 18 _ _ _ dX9_isDialled_18 rfl h
def w_X9_isDialled (l0 : Int32) (M : Mem) (post : Int32 → Mem → Prop) : Prop := ((l0 = 99 → w_X9_isDialled_J13 post M) ∧ (¬ l0 = 99 → w_X9_isNumber l0 M (fun (r2 : Int32) (M1 : Mem) => ((r2 = 0 → post 0 M1) ∧ (¬ r2 = 0 → w_X9_isDialled_J13 post M1)))))
set_option maxRecDepth 100000 in
set_option maxHeartbeats 4000000 in
theorem S_X9_isDialled {ω : WD} {l0 : Int32} {M : Mem} {post : Int32 → Mem → Prop} (h : w_X9_isDialled l0 M post) : MtI ω yX9_isDialled cX9_isDialled 1 (some .boolean) 1 [.int l0] M post := by
  refine MtI.start (ty := .boolean) rfl (by decide +kernel) (own := RX9) rfl (Nat.le_of_ble_eq_true rfl) (fun ρ C R => ?_)
  show G ω ρ M 0 [(0, .int l0)] []
  refine G_iload_n C dX9_isDialled_0 0 rfl ?_
  refine G_bipush (v := 99) C dX9_isDialled_1 (by decide) ?_
  obtain ⟨h1, h2⟩ := h
  refine G_icmp_eq (tgt := 13) C dX9_isDialled_3 (by decide) (fun c => ?_) (fun c => ?_)
  · have h := h1 c
    clear h1 h2
    refine G_sub [] (lv' := []) rfl ?_
    exact s_X9_isDialled_J13 C R  h
  · have h := h2 c
    clear h1 h2
    refine G_iload_n C dX9_isDialled_6 0 rfl ?_
    refine G_scallI (As := [.int l0]) (rest := []) C dX9_isDialled_7 lk_X9_195 (Nat.le_of_ble_eq_true rfl) (Nat.le_of_ble_eq_true rfl) (Nat.le_of_ble_eq_true rfl) rfl (S_X9_isNumber h) (fun r2 M1 h => ?_)
    obtain ⟨h1, h2⟩ := h
    refine G_if_eq (tgt := 17) C dX9_isDialled_10 (by decide) (fun c => ?_) (fun c => ?_)
    · have h := h1 c
      clear h1 h2
      refine G_iconst (v := 0) C dX9_isDialled_17 (by decide) ?_
      exact R 18 _ _ _ dX9_isDialled_18 rfl h
    · have h := h2 c
      clear h1 h2
      refine G_sub [] (lv' := []) rfl ?_
      exact s_X9_isDialled_J13 C R  h
theorem dX4_begin_0 : decode cX4_begin 0 = .ok (.aload_n 0, 1) := by decide +kernel
theorem dX4_begin_1 : decode cX4_begin 1 = .ok (.getfield 45, 3) := by decide +kernel
theorem dX4_begin_4 : decode cX4_begin 4 = .ok (.invokevirtual 71, 3) := by decide +kernel
theorem dX4_begin_7 : decode cX4_begin 7 = .ok (.aload_n 0, 1) := by decide +kernel
theorem dX4_begin_8 : decode cX4_begin 8 = .ok (.getfield 12, 3) := by decide +kernel
theorem dX4_begin_11 : decode cX4_begin 11 = .ok (.invokevirtual 74, 3) := by decide +kernel
theorem dX4_begin_14 : decode cX4_begin 14 = .ok (.aload_n 0, 1) := by decide +kernel
theorem dX4_begin_15 : decode cX4_begin 15 = .ok (.getfield 21, 3) := by decide +kernel
theorem dX4_begin_18 : decode cX4_begin 18 = .ok (.invokevirtual 77, 3) := by decide +kernel
theorem dX4_begin_21 : decode cX4_begin 21 = .ok (.aload_n 0, 1) := by decide +kernel
theorem dX4_begin_22 : decode cX4_begin 22 = .ok (.iconst 0, 1) := by decide +kernel
theorem dX4_begin_23 : decode cX4_begin 23 = .ok (.putfield 25, 3) := by decide +kernel
theorem dX4_begin_26 : decode cX4_begin 26 = .ok (.aload_n 0, 1) := by decide +kernel
theorem dX4_begin_27 : decode cX4_begin 27 = .ok (.iconst 0, 1) := by decide +kernel
theorem dX4_begin_28 : decode cX4_begin 28 = .ok (.putfield 29, 3) := by decide +kernel
theorem dX4_begin_31 : decode cX4_begin 31 = .ok (.aload_n 0, 1) := by decide +kernel
theorem dX4_begin_32 : decode cX4_begin 32 = .ok (.iconst 0, 1) := by decide +kernel
theorem dX4_begin_33 : decode cX4_begin 33 = .ok (.putfield 32, 3) := by decide +kernel
theorem dX4_begin_36 : decode cX4_begin 36 = .ok (.aload_n 0, 1) := by decide +kernel
theorem dX4_begin_37 : decode cX4_begin 37 = .ok (.iconst 0, 1) := by decide +kernel
theorem dX4_begin_38 : decode cX4_begin 38 = .ok (.putfield 35, 3) := by decide +kernel
theorem dX4_begin_41 : decode cX4_begin 41 = .ok (.aload_n 0, 1) := by decide +kernel
theorem dX4_begin_42 : decode cX4_begin 42 = .ok (.iconst 0, 1) := by decide +kernel
theorem dX4_begin_43 : decode cX4_begin 43 = .ok (.putfield 39, 3) := by decide +kernel
theorem dX4_begin_46 : decode cX4_begin 46 = .ok (.aload_n 0, 1) := by decide +kernel
theorem dX4_begin_47 : decode cX4_begin 47 = .ok (.iconst 0, 1) := by decide +kernel
theorem dX4_begin_48 : decode cX4_begin 48 = .ok (.putfield 42, 3) := by decide +kernel
theorem dX4_begin_51 : decode cX4_begin 51 = .ok (.return_, 1) := by decide +kernel
theorem gf_X4_45 {ω : WD} {ρ : FR} {M : Mem} {cc : ByteArray} {d n pc : Nat} {lv : List (Nat × Value)} {rest : List Value} (C : Cx ω ρ cc RX4 d n) (hd : decode cc pc = .ok (.getfield 45, 3)) (k : G ω ρ M (pc + 3) lv (.ref (adr ω 50) :: rest)) : G ω ρ M pc lv (.ref (adr ω 52) :: rest) := G_get (N := 9) (T := TX4) (C := RX4) (q := 0) C (q52 : isK 4 52) (by decide) rfl in_X4 (by decide) (tb_of 295 ⟨by decide +kernel, rfl⟩) rfl rfl hd k
theorem lk_X4_71 : LkV RX4 71 RX7 yX7_rewind cX7_rewind 1 none 0 := LkV.of 425 426 427 67 428 (by decide +kernel) (by decide +kernel) (by decide +kernel) (by decide +kernel) (by decide +kernel) (by decide +kernel)
theorem gf_X4_12 {ω : WD} {ρ : FR} {M : Mem} {cc : ByteArray} {d n pc : Nat} {lv : List (Nat × Value)} {rest : List Value} (C : Cx ω ρ cc RX4 d n) (hd : decode cc pc = .ok (.getfield 12, 3)) (k : G ω ρ M (pc + 3) lv (.ref (adr ω 53) :: rest)) : G ω ρ M pc lv (.ref (adr ω 52) :: rest) := G_get (N := 9) (T := TX4) (C := RX4) (q := 1) C (q52 : isK 4 52) (by decide) rfl in_X4 (by decide) (tb_of 296 ⟨by decide +kernel, rfl⟩) rfl rfl hd k
theorem lk_X4_74 : LkV RX4 74 RX1 yX1_clear cX1_clear 2 none 0 := LkV.of 429 430 431 62 432 (by decide +kernel) (by decide +kernel) (by decide +kernel) (by decide +kernel) (by decide +kernel) (by decide +kernel)
theorem gf_X4_21 {ω : WD} {ρ : FR} {M : Mem} {cc : ByteArray} {d n pc : Nat} {lv : List (Nat × Value)} {rest : List Value} (C : Cx ω ρ cc RX4 d n) (hd : decode cc pc = .ok (.getfield 21, 3)) (k : G ω ρ M (pc + 3) lv (.ref (adr ω 69) :: rest)) : G ω ρ M pc lv (.ref (adr ω 52) :: rest) := G_get (N := 9) (T := TX4) (C := RX4) (q := 2) C (q52 : isK 4 52) (by decide) rfl in_X4 (by decide) (tb_of 298 ⟨by decide +kernel, rfl⟩) rfl rfl hd k
theorem lk_X4_77 : LkV RX4 77 RX5 yX5_clear cX5_clear 1 none 0 := LkV.of 437 438 439 64 440 (by decide +kernel) (by decide +kernel) (by decide +kernel) (by decide +kernel) (by decide +kernel) (by decide +kernel)
theorem pf_X4_25 {ω : WD} {ρ : FR} {M : Mem} {cc : ByteArray} {d n pc : Nat} {lv : List (Nat × Value)} {rest : List Value} {v : Int32} (C : Cx ω ρ cc RX4 d n) (hd : decode cc pc = .ok (.putfield 25, 3)) (k : ∀ M1, M1 = wr M 52 3 v → G ω ρ M1 (pc + 3) lv rest) : G ω ρ M pc lv (.int v :: .ref (adr ω 52) :: rest) := G_put (N := 9) (T := TX4) (C := RX4) (q := 3) (ty := .int) C (q52 : isK 4 52) (by decide) rfl in_X4 tyX4 tyX4_ok nmX4 (by decide) (tb_of 300 ⟨by decide +kernel, rfl⟩) rfl rfl (by decide +kernel) rfl rfl (fun _ _ => Nat.le_of_ble_eq_true rfl) (fun _ => rfl) hd (k _ rfl)
theorem pf_X4_29 {ω : WD} {ρ : FR} {M : Mem} {cc : ByteArray} {d n pc : Nat} {lv : List (Nat × Value)} {rest : List Value} {v : Int32} (C : Cx ω ρ cc RX4 d n) (hd : decode cc pc = .ok (.putfield 29, 3)) (k : ∀ M1, M1 = wr M 52 4 v → G ω ρ M1 (pc + 3) lv rest) : G ω ρ M pc lv (.int v :: .ref (adr ω 52) :: rest) := G_put (N := 9) (T := TX4) (C := RX4) (q := 4) (ty := .int) C (q52 : isK 4 52) (by decide) rfl in_X4 tyX4 tyX4_ok nmX4 (by decide) (tb_of 302 ⟨by decide +kernel, rfl⟩) rfl rfl (by decide +kernel) rfl rfl (fun _ _ => Nat.le_of_ble_eq_true rfl) (fun _ => rfl) hd (k _ rfl)
theorem pf_X4_32 {ω : WD} {ρ : FR} {M : Mem} {cc : ByteArray} {d n pc : Nat} {lv : List (Nat × Value)} {rest : List Value} {v : Int32} (C : Cx ω ρ cc RX4 d n) (hd : decode cc pc = .ok (.putfield 32, 3)) (k : ∀ M1, M1 = wr M 52 5 v → G ω ρ M1 (pc + 3) lv rest) : G ω ρ M pc lv (.int v :: .ref (adr ω 52) :: rest) := G_put (N := 9) (T := TX4) (C := RX4) (q := 5) (ty := .int) C (q52 : isK 4 52) (by decide) rfl in_X4 tyX4 tyX4_ok nmX4 (by decide) (tb_of 304 ⟨by decide +kernel, rfl⟩) rfl rfl (by decide +kernel) rfl rfl (fun _ _ => Nat.le_of_ble_eq_true rfl) (fun _ => rfl) hd (k _ rfl)
theorem pf_X4_35 {ω : WD} {ρ : FR} {M : Mem} {cc : ByteArray} {d n pc : Nat} {lv : List (Nat × Value)} {rest : List Value} {v : Int32} (C : Cx ω ρ cc RX4 d n) (hz : zb v) (hd : decode cc pc = .ok (.putfield 35, 3)) (k : ∀ M1, M1 = wr M 52 6 v → G ω ρ M1 (pc + 3) lv rest) : G ω ρ M pc lv (.int v :: .ref (adr ω 52) :: rest) := G_put (N := 9) (T := TX4) (C := RX4) (q := 6) (ty := .boolean) C (q52 : isK 4 52) (by decide) rfl in_X4 tyX4 tyX4_ok nmX4 (by decide) (tb_of 306 ⟨by decide +kernel, rfl⟩) rfl rfl (by decide +kernel) hz.1 hz.2 (fun _ _ => Nat.le_of_ble_eq_true rfl) (fun _ => rfl) hd (k _ rfl)
theorem pf_X4_39 {ω : WD} {ρ : FR} {M : Mem} {cc : ByteArray} {d n pc : Nat} {lv : List (Nat × Value)} {rest : List Value} {v : Int32} (C : Cx ω ρ cc RX4 d n) (hz : zb v) (hd : decode cc pc = .ok (.putfield 39, 3)) (k : ∀ M1, M1 = wr M 52 7 v → G ω ρ M1 (pc + 3) lv rest) : G ω ρ M pc lv (.int v :: .ref (adr ω 52) :: rest) := G_put (N := 9) (T := TX4) (C := RX4) (q := 7) (ty := .boolean) C (q52 : isK 4 52) (by decide) rfl in_X4 tyX4 tyX4_ok nmX4 (by decide) (tb_of 307 ⟨by decide +kernel, rfl⟩) rfl rfl (by decide +kernel) hz.1 hz.2 (fun _ _ => Nat.le_of_ble_eq_true rfl) (fun _ => rfl) hd (k _ rfl)
theorem pf_X4_42 {ω : WD} {ρ : FR} {M : Mem} {cc : ByteArray} {d n pc : Nat} {lv : List (Nat × Value)} {rest : List Value} {v : Int32} (C : Cx ω ρ cc RX4 d n) (hd : decode cc pc = .ok (.putfield 42, 3)) (k : ∀ M1, M1 = wr M 52 8 v → G ω ρ M1 (pc + 3) lv rest) : G ω ρ M pc lv (.int v :: .ref (adr ω 52) :: rest) := G_put (N := 9) (T := TX4) (C := RX4) (q := 8) (ty := .int) C (q52 : isK 4 52) (by decide) rfl in_X4 tyX4 tyX4_ok nmX4 (by decide) (tb_of 308 ⟨by decide +kernel, rfl⟩) rfl rfl (by decide +kernel) rfl rfl (fun _ _ => Nat.le_of_ble_eq_true rfl) (fun _ => rfl) hd (k _ rfl)
def w_X4_begin (M : Mem) (post : Mem → Prop) : Prop := w_X7_rewind M (fun (M1 : Mem) => w_X1_clear 53 M1 (fun (M2 : Mem) => w_X5_clear 69 M2 (fun (M3 : Mem) => ∀ M4 : Mem, M4 = wr M3 52 3 0 → ∀ M5 : Mem, M5 = wr M4 52 4 0 → ∀ M6 : Mem, M6 = wr M5 52 5 0 → ∀ M7 : Mem, M7 = wr M6 52 6 0 → ∀ M8 : Mem, M8 = wr M7 52 7 0 → ∀ M9 : Mem, M9 = wr M8 52 8 0 → post M9)))
set_option maxRecDepth 100000 in
set_option maxHeartbeats 4000000 in
theorem S_X4_begin {ω : WD} {M : Mem} {post : Mem → Prop} (h : w_X4_begin M post) : MtV ω yX4_begin cX4_begin 1 none 2 [.ref (adr ω 52)] M post := by
  refine MtV.start rfl (by decide +kernel) (own := RX4) rfl (Nat.le_of_ble_eq_true rfl) (fun ρ C R => ?_)
  show G ω ρ M 0 [(0, .ref (adr ω 52))] []
  refine G_aload_n C dX4_begin_0 0 rfl ?_
  refine gf_X4_45 C dX4_begin_1 ?_
  refine G_callV (As := []) (rest := []) C dX4_begin_4 lk_X4_71 (Nat.le_of_ble_eq_true rfl) (Nat.le_of_ble_eq_true rfl) q50 (by decide) rfl (Nat.le_of_ble_eq_true rfl) rfl (S_X7_rewind h) (fun M1 h => ?_)
  refine G_aload_n C dX4_begin_7 0 rfl ?_
  refine gf_X4_12 C dX4_begin_8 ?_
  refine G_callV (As := []) (rest := []) C dX4_begin_11 lk_X4_74 (Nat.le_of_ble_eq_true rfl) (Nat.le_of_ble_eq_true rfl) q53 (by decide) rfl (Nat.le_of_ble_eq_true rfl) rfl (S_X1_clear q53 h) (fun M2 h => ?_)
  refine G_aload_n C dX4_begin_14 0 rfl ?_
  refine gf_X4_21 C dX4_begin_15 ?_
  refine G_callV (As := []) (rest := []) C dX4_begin_18 lk_X4_77 (Nat.le_of_ble_eq_true rfl) (Nat.le_of_ble_eq_true rfl) q69 (by decide) rfl (Nat.le_of_ble_eq_true rfl) rfl (S_X5_clear q69 h) (fun M3 h => ?_)
  refine G_aload_n C dX4_begin_21 0 rfl ?_
  refine G_iconst (v := 0) C dX4_begin_22 (by decide) ?_
  refine pf_X4_25 C dX4_begin_23 (fun M4 eM4 => ?_)
  replace h := h M4 eM4
  refine G_aload_n C dX4_begin_26 0 rfl ?_
  refine G_iconst (v := 0) C dX4_begin_27 (by decide) ?_
  refine pf_X4_29 C dX4_begin_28 (fun M5 eM5 => ?_)
  replace h := h M5 eM5
  refine G_aload_n C dX4_begin_31 0 rfl ?_
  refine G_iconst (v := 0) C dX4_begin_32 (by decide) ?_
  refine pf_X4_32 C dX4_begin_33 (fun M6 eM6 => ?_)
  replace h := h M6 eM6
  refine G_aload_n C dX4_begin_36 0 rfl ?_
  refine G_iconst (v := 0) C dX4_begin_37 (by decide) ?_
  refine pf_X4_35 C zb_0 dX4_begin_38 (fun M7 eM7 => ?_)
  replace h := h M7 eM7
  refine G_aload_n C dX4_begin_41 0 rfl ?_
  refine G_iconst (v := 0) C dX4_begin_42 (by decide) ?_
  refine pf_X4_39 C zb_0 dX4_begin_43 (fun M8 eM8 => ?_)
  replace h := h M8 eM8
  refine G_aload_n C dX4_begin_46 0 rfl ?_
  refine G_iconst (v := 0) C dX4_begin_47 (by decide) ?_
  refine pf_X4_42 C dX4_begin_48 (fun M9 eM9 => ?_)
  replace h := h M9 eM9
  exact R 51 _ _ dX4_begin_51 h
theorem dX4_wrong_0 : decode cX4_wrong 0 = .ok (.aload_n 0, 1) := by decide +kernel
theorem dX4_wrong_1 : decode cX4_wrong 1 = .ok (.iload_n 1, 1) := by decide +kernel
theorem dX4_wrong_2 : decode cX4_wrong 2 = .ok (.putfield 29, 3) := by decide +kernel
theorem dX4_wrong_5 : decode cX4_wrong 5 = .ok (.aload_n 0, 1) := by decide +kernel
theorem dX4_wrong_6 : decode cX4_wrong 6 = .ok (.aload_n 0, 1) := by decide +kernel
theorem dX4_wrong_7 : decode cX4_wrong 7 = .ok (.getfield 45, 3) := by decide +kernel
theorem dX4_wrong_10 : decode cX4_wrong 10 = .ok (.getfield 78, 3) := by decide +kernel
theorem dX4_wrong_13 : decode cX4_wrong 13 = .ok (.putfield 32, 3) := by decide +kernel
theorem dX4_wrong_16 : decode cX4_wrong 16 = .ok (.iconst 0, 1) := by decide +kernel
theorem dX4_wrong_17 : decode cX4_wrong 17 = .ok (.ireturn, 1) := by decide +kernel
theorem gf_X4_78 {ω : WD} {ρ : FR} {M : Mem} {cc : ByteArray} {d n pc : Nat} {lv : List (Nat × Value)} {rest : List Value} (C : Cx ω ρ cc RX4 d n) (hd : decode cc pc = .ok (.getfield 78, 3)) (k : G ω ρ M (pc + 3) lv (.int (rd M 50 3) :: rest)) : G ω ρ M pc lv (.ref (adr ω 50) :: rest) := G_get (N := 6) (T := TX7) (C := RX7) (q := 3) C (q50 : isK 7 50) (by decide) rfl in_X7 (by decide) (tb_of 268 ⟨by decide +kernel, rfl⟩) rfl rfl hd k
def w_X4_wrong (l1 : Int32) (M : Mem) (post : Int32 → Mem → Prop) : Prop := ∀ M1 : Mem, M1 = wr M 52 4 l1 → ∀ M2 : Mem, M2 = wr M1 52 5 (rd M1 50 3) → post 0 M2
set_option maxRecDepth 100000 in
set_option maxHeartbeats 4000000 in
theorem S_X4_wrong {ω : WD} {l1 : Int32} {M : Mem} {post : Int32 → Mem → Prop} (h : w_X4_wrong l1 M post) : MtI ω yX4_wrong cX4_wrong 2 (some .boolean) 0 [.ref (adr ω 52), .int l1] M post := by
  refine MtI.start (ty := .boolean) rfl (by decide +kernel) (own := RX4) rfl (Nat.le_of_ble_eq_true rfl) (fun ρ C R => ?_)
  show G ω ρ M 0 [(0, .ref (adr ω 52)), (1, .int l1)] []
  refine G_aload_n C dX4_wrong_0 0 rfl ?_
  refine G_iload_n C dX4_wrong_1 1 rfl ?_
  refine pf_X4_29 C dX4_wrong_2 (fun M1 eM1 => ?_)
  replace h := h M1 eM1
  refine G_aload_n C dX4_wrong_5 0 rfl ?_
  refine G_aload_n C dX4_wrong_6 0 rfl ?_
  refine gf_X4_45 C dX4_wrong_7 ?_
  refine gf_X4_78 C dX4_wrong_10 ?_
  refine pf_X4_32 C dX4_wrong_13 (fun M2 eM2 => ?_)
  replace h := h M2 eM2
  refine G_iconst (v := 0) C dX4_wrong_16 (by decide) ?_
  exact R 17 _ _ _ dX4_wrong_17 rfl h
theorem dX4_hasAllOnes_0 : decode cX4_hasAllOnes 0 = .ok (.iconst 0, 1) := by decide +kernel
theorem dX4_hasAllOnes_1 : decode cX4_hasAllOnes 1 = .ok (.istore_n 1, 1) := by decide +kernel
theorem dX4_hasAllOnes_2 : decode cX4_hasAllOnes 2 = .ok (.iload_n 1, 1) := by decide +kernel
theorem dX4_hasAllOnes_3 : decode cX4_hasAllOnes 3 = .ok (.aload_n 0, 1) := by decide +kernel
theorem dX4_hasAllOnes_4 : decode cX4_hasAllOnes 4 = .ok (.getfield 21, 3) := by decide +kernel
theorem dX4_hasAllOnes_7 : decode cX4_hasAllOnes 7 = .ok (.getfield 150, 3) := by decide +kernel
theorem dX4_hasAllOnes_10 : decode cX4_hasAllOnes 10 = .ok (.if_icmp .ge 35, 3) := by decide +kernel
theorem dX4_hasAllOnes_13 : decode cX4_hasAllOnes 13 = .ok (.aload_n 0, 1) := by decide +kernel
theorem dX4_hasAllOnes_14 : decode cX4_hasAllOnes 14 = .ok (.getfield 12, 3) := by decide +kernel
theorem dX4_hasAllOnes_17 : decode cX4_hasAllOnes 17 = .ok (.aload_n 0, 1) := by decide +kernel
theorem dX4_hasAllOnes_18 : decode cX4_hasAllOnes 18 = .ok (.getfield 21, 3) := by decide +kernel
theorem dX4_hasAllOnes_21 : decode cX4_hasAllOnes 21 = .ok (.getfield 160, 3) := by decide +kernel
theorem dX4_hasAllOnes_24 : decode cX4_hasAllOnes 24 = .ok (.iload_n 1, 1) := by decide +kernel
theorem dX4_hasAllOnes_25 : decode cX4_hasAllOnes 25 = .ok (.iaload, 1) := by decide +kernel
theorem dX4_hasAllOnes_26 : decode cX4_hasAllOnes 26 = .ok (.invokevirtual 164, 3) := by decide +kernel
theorem dX4_hasAllOnes_29 : decode cX4_hasAllOnes 29 = .ok (.ifCond .ne 10, 3) := by decide +kernel
theorem dX4_hasAllOnes_32 : decode cX4_hasAllOnes 32 = .ok (.aload_n 0, 1) := by decide +kernel
theorem dX4_hasAllOnes_33 : decode cX4_hasAllOnes 33 = .ok (.bipush 6, 2) := by decide +kernel
theorem dX4_hasAllOnes_35 : decode cX4_hasAllOnes 35 = .ok (.invokevirtual 67, 3) := by decide +kernel
theorem dX4_hasAllOnes_38 : decode cX4_hasAllOnes 38 = .ok (.ireturn, 1) := by decide +kernel
theorem dX4_hasAllOnes_39 : decode cX4_hasAllOnes 39 = .ok (.iinc 1 1, 3) := by decide +kernel
theorem dX4_hasAllOnes_42 : decode cX4_hasAllOnes 42 = .ok (.goto (-40), 3) := by decide +kernel
theorem dX4_hasAllOnes_45 : decode cX4_hasAllOnes 45 = .ok (.iconst 1, 1) := by decide +kernel
theorem dX4_hasAllOnes_46 : decode cX4_hasAllOnes 46 = .ok (.ireturn, 1) := by decide +kernel
theorem gf_X4_150 {ω : WD} {ρ : FR} {M : Mem} {cc : ByteArray} {d n pc i : Nat} {lv : List (Nat × Value)} {rest : List Value} (C : Cx ω ρ cc RX4 d n) (hk : isK 5 i) (hd : decode cc pc = .ok (.getfield 150, 3)) (k : G ω ρ M (pc + 3) lv (.int (rd M i 0) :: rest)) : G ω ρ M pc lv (.ref (adr ω i) :: rest) := G_get (N := 6) (T := TX5) (C := RX5) (q := 0) C hk (by decide) rfl in_X5 (by decide) (tb_of 177 ⟨by decide +kernel, rfl⟩) rfl rfl hd k
theorem gf_X4_160 {ω : WD} {ρ : FR} {M : Mem} {cc : ByteArray} {d n pc i : Nat} {lv : List (Nat × Value)} {rest : List Value} (C : Cx ω ρ cc RX4 d n) (hk : isK 5 i) (hd : decode cc pc = .ok (.getfield 160, 3)) (k : G ω ρ M (pc + 3) lv (.ref (adr ω (i + 1)) :: rest)) : G ω ρ M pc lv (.ref (adr ω i) :: rest) := G_get (N := 6) (T := TX5) (C := RX5) (q := 2) C hk (by decide) rfl in_X5 (by decide) (tb_of 184 ⟨by decide +kernel, rfl⟩) rfl rfl hd k
theorem lk_X4_164 : LkV RX4 164 RX1 yX1_has cX1_has 2 (some .boolean) 1 := LkV.of 457 458 459 62 460 (by decide +kernel) (by decide +kernel) (by decide +kernel) (by decide +kernel) (by decide +kernel) (by decide +kernel)
theorem lk_X4_67 : LkV RX4 67 RX4 yX4_wrong cX4_wrong 2 (some .boolean) 1 := LkV.of 461 462 463 68 464 (by decide +kernel) (by decide +kernel) (by decide +kernel) (by decide +kernel) (by decide +kernel) (by decide +kernel)
def w_X4_hasAllOnes_L2 (post : Int32 → Mem → Prop) : Nat → Int32 → Mem → Prop
  | 0, _, _ => False
  | f + 1, l1, M => (((rd M 69 0) ≤ l1 → post 1 M) ∧ (¬ (rd M 69 0) ≤ l1 → vp_in l1 8 ∧ (w_X1_has 53 (rd M 70 l1.toNatClampNeg) M (fun (r2 : Int32) (M1 : Mem) => ((¬ r2 = 0 → ∀ v3 : Int32, v3 = (l1 + 1) → (w_X4_hasAllOnes_L2 post f) v3 M1) ∧ (r2 = 0 → w_X4_wrong 6 M1 (fun (r5 : Int32) (M4 : Mem) => zb r5 ∧ (post r5 M4))))))))
set_option maxRecDepth 100000 in
set_option maxHeartbeats 4000000 in
theorem s_X4_hasAllOnes_L2 {ω : WD} {ρ : FR} {post : Int32 → Mem → Prop} (C : Cx ω ρ cX4_hasAllOnes RX4 1 2) (R : RtI ω ρ cX4_hasAllOnes .boolean post) : ∀ (f : Nat) (l1 : Int32) (M : Mem), w_X4_hasAllOnes_L2 post f l1 M → G ω ρ M 2 [(0, .ref (adr ω 52)), (1, .int l1)] [] := by
  intro f
  induction f with
  | zero => intro l1 M h; exact False.elim h
  | succ f k2 =>
    intro l1 M h
    refine G_iload_n C dX4_hasAllOnes_2 1 rfl ?_
    refine G_aload_n C dX4_hasAllOnes_3 0 rfl ?_
    refine gf_X4_21 C dX4_hasAllOnes_4 ?_
    refine gf_X4_150 C q69 dX4_hasAllOnes_7 ?_
    obtain ⟨h1, h2⟩ := h
    refine G_icmp_ge (tgt := 45) C dX4_hasAllOnes_10 (by decide) (fun c => ?_) (fun c => ?_)
    · have h := h1 c
      clear h1 h2
      refine G_iconst (v := 1) C dX4_hasAllOnes_45 (by decide) ?_
      exact R 46 _ _ _ dX4_hasAllOnes_46 rfl h
    · have h := h2 c
      clear h1 h2
      refine G_aload_n C dX4_hasAllOnes_13 0 rfl ?_
      refine gf_X4_12 C dX4_hasAllOnes_14 ?_
      refine G_aload_n C dX4_hasAllOnes_17 0 rfl ?_
      refine gf_X4_21 C dX4_hasAllOnes_18 ?_
      refine gf_X4_160 C q69 dX4_hasAllOnes_21 ?_
      refine G_iload_n C dX4_hasAllOnes_24 1 rfl ?_
      obtain ⟨hi, h⟩ := h
      refine G_iald C q70 hi dX4_hasAllOnes_25 ?_
      refine G_callI (As := [.int (rd M 70 l1.toNatClampNeg)]) (rest := []) C dX4_hasAllOnes_26 lk_X4_164 (Nat.le_of_ble_eq_true rfl) (Nat.le_of_ble_eq_true rfl) q53 (by decide) rfl (Nat.le_of_ble_eq_true rfl) rfl (S_X1_has q53 h) (fun r2 M1 h => ?_)
      obtain ⟨h1, h2⟩ := h
      refine G_if_ne (tgt := 39) C dX4_hasAllOnes_29 (by decide) (fun c => ?_) (fun c => ?_)
      · have h := h1 c
        clear h1 h2
        obtain ⟨v3, ev3⟩ : ∃ y : Int32, y = (l1 + 1) := ⟨_, rfl⟩
        replace h := h v3 ev3
        refine G_iinc C dX4_hasAllOnes_39 1 rfl (v := v3) (by rw [ev3]; rfl) (by decide) (lv' := [(1, .int v3), (0, .ref (adr ω 52))]) rfl ?_
        refine G_goto (tgt := 2) C dX4_hasAllOnes_42 (by decide) ?_
        refine G_sub [1, 0] (lv' := [(0, .ref (adr ω 52)), (1, .int v3)]) rfl ?_
        exact k2 _ _ h
      · have h := h2 c
        clear h1 h2
        refine G_aload_n C dX4_hasAllOnes_32 0 rfl ?_
        refine G_bipush (v := 6) C dX4_hasAllOnes_33 (by decide) ?_
        refine G_callI (As := [.int 6]) (rest := []) C dX4_hasAllOnes_35 lk_X4_67 (Nat.le_of_ble_eq_true rfl) (Nat.le_of_ble_eq_true rfl) q52 (by decide) rfl (Nat.le_of_ble_eq_true rfl) rfl (S_X4_wrong h) (fun r5 M4 h => ?_)
        exact R 38 _ _ _ dX4_hasAllOnes_38 h.1.1 h.2
def w_X4_hasAllOnes (M : Mem) (post : Int32 → Mem → Prop) : Prop := ∃ g2 : Nat, w_X4_hasAllOnes_L2 post g2 0 M
set_option maxRecDepth 100000 in
set_option maxHeartbeats 4000000 in
theorem S_X4_hasAllOnes {ω : WD} {M : Mem} {post : Int32 → Mem → Prop} (h : w_X4_hasAllOnes M post) : MtI ω yX4_hasAllOnes cX4_hasAllOnes 2 (some .boolean) 1 [.ref (adr ω 52)] M post := by
  refine MtI.start (ty := .boolean) rfl (by decide +kernel) (own := RX4) rfl (Nat.le_of_ble_eq_true rfl) (fun ρ C R => ?_)
  show G ω ρ M 0 [(0, .ref (adr ω 52))] []
  refine G_iconst (v := 0) C dX4_hasAllOnes_0 (by decide) ?_
  refine G_istore_n C dX4_hasAllOnes_1 (by decide) (lv' := [(1, .int 0), (0, .ref (adr ω 52))]) rfl ?_
  refine G_sub [1, 0] (lv' := [(0, .ref (adr ω 52)), (1, .int 0)]) rfl ?_
  obtain ⟨f, h⟩ := h
  exact s_X4_hasAllOnes_L2 C R  f _ _ h
theorem dX4_stands_0 : decode cX4_stands 0 = .ok (.aload_n 0, 1) := by decide +kernel
theorem dX4_stands_1 : decode cX4_stands 1 = .ok (.getfield 45, 3) := by decide +kernel
theorem dX4_stands_4 : decode cX4_stands 4 = .ok (.getfield 57, 3) := by decide +kernel
theorem dX4_stands_7 : decode cX4_stands 7 = .ok (.iconst 4, 1) := by decide +kernel
theorem dX4_stands_8 : decode cX4_stands 8 = .ok (.if_icmp .ne 9, 3) := by decide +kernel
theorem dX4_stands_11 : decode cX4_stands 11 = .ok (.aload_n 0, 1) := by decide +kernel
theorem dX4_stands_12 : decode cX4_stands 12 = .ok (.iconst 1, 1) := by decide +kernel
theorem dX4_stands_13 : decode cX4_stands 13 = .ok (.invokevirtual 67, 3) := by decide +kernel
theorem dX4_stands_16 : decode cX4_stands 16 = .ok (.ireturn, 1) := by decide +kernel
theorem dX4_stands_17 : decode cX4_stands 17 = .ok (.aload_n 0, 1) := by decide +kernel
theorem dX4_stands_18 : decode cX4_stands 18 = .ok (.getfield 45, 3) := by decide +kernel
theorem dX4_stands_21 : decode cX4_stands 21 = .ok (.getfield 57, 3) := by decide +kernel
theorem dX4_stands_24 : decode cX4_stands 24 = .ok (.iload_n 1, 1) := by decide +kernel
theorem dX4_stands_25 : decode cX4_stands 25 = .ok (.if_icmp .eq 11, 3) := by decide +kernel
theorem dX4_stands_28 : decode cX4_stands 28 = .ok (.aload_n 0, 1) := by decide +kernel
theorem dX4_stands_29 : decode cX4_stands 29 = .ok (.iconst 2, 1) := by decide +kernel
theorem dX4_stands_30 : decode cX4_stands 30 = .ok (.invokevirtual 67, 3) := by decide +kernel
theorem dX4_stands_33 : decode cX4_stands 33 = .ok (.ifCond .eq 7, 3) := by decide +kernel
theorem dX4_stands_36 : decode cX4_stands 36 = .ok (.iconst 1, 1) := by decide +kernel
theorem dX4_stands_37 : decode cX4_stands 37 = .ok (.goto 4, 3) := by decide +kernel
theorem dX4_stands_40 : decode cX4_stands 40 = .ok (.iconst 0, 1) := by decide +kernel
theorem dX4_stands_41 : decode cX4_stands 41 = .ok (.ireturn, 1) := by decide +kernel
theorem gf_X4_57 {ω : WD} {ρ : FR} {M : Mem} {cc : ByteArray} {d n pc : Nat} {lv : List (Nat × Value)} {rest : List Value} (C : Cx ω ρ cc RX4 d n) (hd : decode cc pc = .ok (.getfield 57, 3)) (k : G ω ρ M (pc + 3) lv (.int (rd M 50 2) :: rest)) : G ω ρ M pc lv (.ref (adr ω 50) :: rest) := G_get (N := 6) (T := TX7) (C := RX7) (q := 2) C (q50 : isK 7 50) (by decide) rfl in_X7 (by decide) (tb_of 266 ⟨by decide +kernel, rfl⟩) rfl rfl hd k
def w_X4_stands_J36 (post : Int32 → Mem → Prop) (M : Mem) : Prop := post 1 M
set_option maxRecDepth 100000 in
set_option maxHeartbeats 4000000 in
theorem s_X4_stands_J36 {ω : WD} {ρ : FR} {post : Int32 → Mem → Prop} (C : Cx ω ρ cX4_stands RX4 1 2) (R : RtI ω ρ cX4_stands .boolean post) {M : Mem} (h : w_X4_stands_J36 post M) : G ω ρ M 36 [] [] := by
  refine G_iconst (v := 1) C dX4_stands_36 (by decide) ?_
  refine G_goto (tgt := 41) C dX4_stands_37 (by decide) ?_
  exact R 41 _ _ _ dX4_stands_41 rfl h
def w_X4_stands (l1 : Int32) (M : Mem) (post : Int32 → Mem → Prop) : Prop := ((¬ (rd M 50 2) = 4 → (((rd M 50 2) = l1 → w_X4_stands_J36 post M) ∧ (¬ (rd M 50 2) = l1 → w_X4_wrong 2 M (fun (r2 : Int32) (M1 : Mem) => ((r2 = 0 → post 0 M1) ∧ (¬ r2 = 0 → w_X4_stands_J36 post M1)))))) ∧ ((rd M 50 2) = 4 → w_X4_wrong 1 M (fun (r4 : Int32) (M3 : Mem) => zb r4 ∧ (post r4 M3))))
set_option maxRecDepth 100000 in
set_option maxHeartbeats 4000000 in
theorem S_X4_stands {ω : WD} {l1 : Int32} {M : Mem} {post : Int32 → Mem → Prop} (h : w_X4_stands l1 M post) : MtI ω yX4_stands cX4_stands 2 (some .boolean) 1 [.ref (adr ω 52), .int l1] M post := by
  refine MtI.start (ty := .boolean) rfl (by decide +kernel) (own := RX4) rfl (Nat.le_of_ble_eq_true rfl) (fun ρ C R => ?_)
  show G ω ρ M 0 [(0, .ref (adr ω 52)), (1, .int l1)] []
  refine G_aload_n C dX4_stands_0 0 rfl ?_
  refine gf_X4_45 C dX4_stands_1 ?_
  refine gf_X4_57 C dX4_stands_4 ?_
  refine G_iconst (v := 4) C dX4_stands_7 (by decide) ?_
  obtain ⟨h1, h2⟩ := h
  refine G_icmp_ne (tgt := 17) C dX4_stands_8 (by decide) (fun c => ?_) (fun c => ?_)
  · have h := h1 c
    clear h1 h2
    refine G_aload_n C dX4_stands_17 0 rfl ?_
    refine gf_X4_45 C dX4_stands_18 ?_
    refine gf_X4_57 C dX4_stands_21 ?_
    refine G_iload_n C dX4_stands_24 1 rfl ?_
    obtain ⟨h1, h2⟩ := h
    refine G_icmp_eq (tgt := 36) C dX4_stands_25 (by decide) (fun c => ?_) (fun c => ?_)
    · have h := h1 c
      clear h1 h2
      refine G_sub [] (lv' := []) rfl ?_
      exact s_X4_stands_J36 C R  h
    · have h := h2 c
      clear h1 h2
      refine G_aload_n C dX4_stands_28 0 rfl ?_
      refine G_iconst (v := 2) C dX4_stands_29 (by decide) ?_
      refine G_callI (As := [.int 2]) (rest := []) C dX4_stands_30 lk_X4_67 (Nat.le_of_ble_eq_true rfl) (Nat.le_of_ble_eq_true rfl) q52 (by decide) rfl (Nat.le_of_ble_eq_true rfl) rfl (S_X4_wrong h) (fun r2 M1 h => ?_)
      obtain ⟨h1, h2⟩ := h
      refine G_if_eq (tgt := 40) C dX4_stands_33 (by decide) (fun c => ?_) (fun c => ?_)
      · have h := h1 c
        clear h1 h2
        refine G_iconst (v := 0) C dX4_stands_40 (by decide) ?_
        exact R 41 _ _ _ dX4_stands_41 rfl h
      · have h := h2 c
        clear h1 h2
        refine G_sub [] (lv' := []) rfl ?_
        exact s_X4_stands_J36 C R  h
  · have h := h2 c
    clear h1 h2
    refine G_aload_n C dX4_stands_11 0 rfl ?_
    refine G_iconst (v := 1) C dX4_stands_12 (by decide) ?_
    refine G_callI (As := [.int 1]) (rest := []) C dX4_stands_13 lk_X4_67 (Nat.le_of_ble_eq_true rfl) (Nat.le_of_ble_eq_true rfl) q52 (by decide) rfl (Nat.le_of_ble_eq_true rfl) rfl (S_X4_wrong h) (fun r4 M3 h => ?_)
    exact R 16 _ _ _ dX4_stands_16 h.1.1 h.2
theorem dX4_takes_0 : decode cX4_takes 0 = .ok (.aload_n 0, 1) := by decide +kernel
theorem dX4_takes_1 : decode cX4_takes 1 = .ok (.getfield 45, 3) := by decide +kernel
theorem dX4_takes_4 : decode cX4_takes 4 = .ok (.invokevirtual 52, 3) := by decide +kernel
theorem dX4_takes_7 : decode cX4_takes 7 = .ok (.aload_n 0, 1) := by decide +kernel
theorem dX4_takes_8 : decode cX4_takes 8 = .ok (.iload_n 1, 1) := by decide +kernel
theorem dX4_takes_9 : decode cX4_takes 9 = .ok (.invokevirtual 79, 3) := by decide +kernel
theorem dX4_takes_12 : decode cX4_takes 12 = .ok (.ireturn, 1) := by decide +kernel
theorem lk_X4_52 : LkV RX4 52 RX7 yX7_next cX7_next 1 none 0 := LkV.of 441 442 443 67 444 (by decide +kernel) (by decide +kernel) (by decide +kernel) (by decide +kernel) (by decide +kernel) (by decide +kernel)
theorem lk_X4_79 : LkV RX4 79 RX4 yX4_stands cX4_stands 2 (some .boolean) 1 := LkV.of 469 470 471 68 472 (by decide +kernel) (by decide +kernel) (by decide +kernel) (by decide +kernel) (by decide +kernel) (by decide +kernel)
def w_X4_takes (l1 : Int32) (M : Mem) (post : Int32 → Mem → Prop) : Prop := w_X7_next M (fun (M1 : Mem) => w_X4_stands l1 M1 (fun (r3 : Int32) (M2 : Mem) => zb r3 ∧ (post r3 M2)))
set_option maxRecDepth 100000 in
set_option maxHeartbeats 4000000 in
theorem S_X4_takes {ω : WD} {l1 : Int32} {M : Mem} {post : Int32 → Mem → Prop} (h : w_X4_takes l1 M post) : MtI ω yX4_takes cX4_takes 2 (some .boolean) 2 [.ref (adr ω 52), .int l1] M post := by
  refine MtI.start (ty := .boolean) rfl (by decide +kernel) (own := RX4) rfl (Nat.le_of_ble_eq_true rfl) (fun ρ C R => ?_)
  show G ω ρ M 0 [(0, .ref (adr ω 52)), (1, .int l1)] []
  refine G_aload_n C dX4_takes_0 0 rfl ?_
  refine gf_X4_45 C dX4_takes_1 ?_
  refine G_callV (As := []) (rest := []) C dX4_takes_4 lk_X4_52 (Nat.le_of_ble_eq_true rfl) (Nat.le_of_ble_eq_true rfl) q50 (by decide) rfl (Nat.le_of_ble_eq_true rfl) rfl (S_X7_next h) (fun M1 h => ?_)
  refine G_aload_n C dX4_takes_7 0 rfl ?_
  refine G_iload_n C dX4_takes_8 1 rfl ?_
  refine G_callI (As := [.int l1]) (rest := []) C dX4_takes_9 lk_X4_79 (Nat.le_of_ble_eq_true rfl) (Nat.le_of_ble_eq_true rfl) q52 (by decide) rfl (Nat.le_of_ble_eq_true rfl) rfl (S_X4_stands h) (fun r3 M2 h => ?_)
  exact R 12 _ _ _ dX4_takes_12 h.1.1 h.2
theorem dX4_readOne_0 : decode cX4_readOne 0 = .ok (.aload_n 0, 1) := by decide +kernel
theorem dX4_readOne_1 : decode cX4_readOne 1 = .ok (.getfield 12, 3) := by decide +kernel
theorem dX4_readOne_4 : decode cX4_readOne 4 = .ok (.getfield 115, 3) := by decide +kernel
theorem dX4_readOne_7 : decode cX4_readOne 7 = .ok (.bipush 6, 2) := by decide +kernel
theorem dX4_readOne_9 : decode cX4_readOne 9 = .ok (.if_icmp .lt 9, 3) := by decide +kernel
theorem dX4_readOne_12 : decode cX4_readOne 12 = .ok (.aload_n 0, 1) := by decide +kernel
theorem dX4_readOne_13 : decode cX4_readOne 13 = .ok (.iconst 5, 1) := by decide +kernel
theorem dX4_readOne_14 : decode cX4_readOne 14 = .ok (.invokevirtual 67, 3) := by decide +kernel
theorem dX4_readOne_17 : decode cX4_readOne 17 = .ok (.ireturn, 1) := by decide +kernel
theorem dX4_readOne_18 : decode cX4_readOne 18 = .ok (.aload_n 0, 1) := by decide +kernel
theorem dX4_readOne_19 : decode cX4_readOne 19 = .ok (.iconst 2, 1) := by decide +kernel
theorem dX4_readOne_20 : decode cX4_readOne 20 = .ok (.invokevirtual 118, 3) := by decide +kernel
theorem dX4_readOne_23 : decode cX4_readOne 23 = .ok (.ifCond .ne 5, 3) := by decide +kernel
theorem dX4_readOne_26 : decode cX4_readOne 26 = .ok (.iconst 0, 1) := by decide +kernel
theorem dX4_readOne_27 : decode cX4_readOne 27 = .ok (.ireturn, 1) := by decide +kernel
theorem dX4_readOne_28 : decode cX4_readOne 28 = .ok (.aload_n 0, 1) := by decide +kernel
theorem dX4_readOne_29 : decode cX4_readOne 29 = .ok (.getfield 45, 3) := by decide +kernel
theorem dX4_readOne_32 : decode cX4_readOne 32 = .ok (.getfield 82, 3) := by decide +kernel
theorem dX4_readOne_35 : decode cX4_readOne 35 = .ok (.invokestatic 121, 3) := by decide +kernel
theorem dX4_readOne_38 : decode cX4_readOne 38 = .ok (.ifCond .ne 9, 3) := by decide +kernel
theorem dX4_readOne_41 : decode cX4_readOne 41 = .ok (.aload_n 0, 1) := by decide +kernel
theorem dX4_readOne_42 : decode cX4_readOne 42 = .ok (.iconst 3, 1) := by decide +kernel
theorem dX4_readOne_43 : decode cX4_readOne 43 = .ok (.invokevirtual 67, 3) := by decide +kernel
theorem dX4_readOne_46 : decode cX4_readOne 46 = .ok (.ireturn, 1) := by decide +kernel
theorem dX4_readOne_47 : decode cX4_readOne 47 = .ok (.aload_n 0, 1) := by decide +kernel
theorem dX4_readOne_48 : decode cX4_readOne 48 = .ok (.getfield 12, 3) := by decide +kernel
theorem dX4_readOne_51 : decode cX4_readOne 51 = .ok (.aload_n 0, 1) := by decide +kernel
theorem dX4_readOne_52 : decode cX4_readOne 52 = .ok (.getfield 45, 3) := by decide +kernel
theorem dX4_readOne_55 : decode cX4_readOne 55 = .ok (.getfield 82, 3) := by decide +kernel
theorem dX4_readOne_58 : decode cX4_readOne 58 = .ok (.invokevirtual 124, 3) := by decide +kernel
theorem dX4_readOne_61 : decode cX4_readOne 61 = .ok (.bipush (-4), 2) := by decide +kernel
theorem dX4_readOne_63 : decode cX4_readOne 63 = .ok (.if_icmp .eq 9, 3) := by decide +kernel
theorem dX4_readOne_66 : decode cX4_readOne 66 = .ok (.aload_n 0, 1) := by decide +kernel
theorem dX4_readOne_67 : decode cX4_readOne 67 = .ok (.iconst 4, 1) := by decide +kernel
theorem dX4_readOne_68 : decode cX4_readOne 68 = .ok (.invokevirtual 67, 3) := by decide +kernel
theorem dX4_readOne_71 : decode cX4_readOne 71 = .ok (.ireturn, 1) := by decide +kernel
theorem dX4_readOne_72 : decode cX4_readOne 72 = .ok (.aload_n 0, 1) := by decide +kernel
theorem dX4_readOne_73 : decode cX4_readOne 73 = .ok (.getfield 12, 3) := by decide +kernel
theorem dX4_readOne_76 : decode cX4_readOne 76 = .ok (.aload_n 0, 1) := by decide +kernel
theorem dX4_readOne_77 : decode cX4_readOne 77 = .ok (.getfield 45, 3) := by decide +kernel
theorem dX4_readOne_80 : decode cX4_readOne 80 = .ok (.getfield 82, 3) := by decide +kernel
theorem dX4_readOne_83 : decode cX4_readOne 83 = .ok (.invokevirtual 128, 3) := by decide +kernel
theorem dX4_readOne_86 : decode cX4_readOne 86 = .ok (.aload_n 0, 1) := by decide +kernel
theorem dX4_readOne_87 : decode cX4_readOne 87 = .ok (.iconst 3, 1) := by decide +kernel
theorem dX4_readOne_88 : decode cX4_readOne 88 = .ok (.invokevirtual 118, 3) := by decide +kernel
theorem dX4_readOne_91 : decode cX4_readOne 91 = .ok (.ireturn, 1) := by decide +kernel
theorem gf_X4_115 {ω : WD} {ρ : FR} {M : Mem} {cc : ByteArray} {d n pc i : Nat} {lv : List (Nat × Value)} {rest : List Value} (C : Cx ω ρ cc RX4 d n) (hk : isK 1 i) (hd : decode cc pc = .ok (.getfield 115, 3)) (k : G ω ρ M (pc + 3) lv (.int (rd M i 0) :: rest)) : G ω ρ M pc lv (.ref (adr ω i) :: rest) := G_get (N := 8) (T := TX1) (C := RX1) (q := 0) C hk (by decide) rfl in_X1 (by decide) (tb_of 133 ⟨by decide +kernel, rfl⟩) rfl rfl hd k
theorem lk_X4_118 : LkV RX4 118 RX4 yX4_takes cX4_takes 2 (some .boolean) 1 := LkV.of 530 531 532 68 533 (by decide +kernel) (by decide +kernel) (by decide +kernel) (by decide +kernel) (by decide +kernel) (by decide +kernel)
theorem gf_X4_82 {ω : WD} {ρ : FR} {M : Mem} {cc : ByteArray} {d n pc : Nat} {lv : List (Nat × Value)} {rest : List Value} (C : Cx ω ρ cc RX4 d n) (hd : decode cc pc = .ok (.getfield 82, 3)) (k : G ω ρ M (pc + 3) lv (.int (rd M 50 5) :: rest)) : G ω ρ M pc lv (.ref (adr ω 50) :: rest) := G_get (N := 6) (T := TX7) (C := RX7) (q := 5) C (q50 : isK 7 50) (by decide) rfl in_X7 (by decide) (tb_of 271 ⟨by decide +kernel, rfl⟩) rfl rfl hd k
theorem lk_X4_124 : LkV RX4 124 RX1 yX1_owner cX1_owner 3 (some .int) 1 := LkV.of 537 538 539 62 540 (by decide +kernel) (by decide +kernel) (by decide +kernel) (by decide +kernel) (by decide +kernel) (by decide +kernel)
theorem lk_X4_128 : LkV RX4 128 RX1 yX1_addOne cX1_addOne 2 none 1 := LkV.of 541 542 543 62 544 (by decide +kernel) (by decide +kernel) (by decide +kernel) (by decide +kernel) (by decide +kernel) (by decide +kernel)
def w_X4_readOne (M : Mem) (post : Int32 → Mem → Prop) : Prop := (((rd M 53 0) < 6 → w_X4_takes 2 M (fun (r2 : Int32) (M1 : Mem) => ((¬ r2 = 0 → w_X9_isNumber (rd M1 50 5) M1 (fun (r4 : Int32) (M3 : Mem) => ((¬ r4 = 0 → w_X1_owner 53 (rd M3 50 5) M3 (fun (r6 : Int32) (M5 : Mem) => ((r6 = (-4) → w_X1_addOne 53 (rd M5 50 5) M5 (fun (M7 : Mem) => w_X4_takes 3 M7 (fun (r9 : Int32) (M8 : Mem) => zb r9 ∧ (post r9 M8)))) ∧ (¬ r6 = (-4) → w_X4_wrong 4 M5 (fun (r11 : Int32) (M10 : Mem) => zb r11 ∧ (post r11 M10)))))) ∧ (r4 = 0 → w_X4_wrong 3 M3 (fun (r13 : Int32) (M12 : Mem) => zb r13 ∧ (post r13 M12)))))) ∧ (r2 = 0 → post 0 M1)))) ∧ (¬ (rd M 53 0) < 6 → w_X4_wrong 5 M (fun (r15 : Int32) (M14 : Mem) => zb r15 ∧ (post r15 M14))))
set_option maxRecDepth 100000 in
set_option maxHeartbeats 4000000 in
theorem S_X4_readOne {ω : WD} {M : Mem} {post : Int32 → Mem → Prop} (h : w_X4_readOne M post) : MtI ω yX4_readOne cX4_readOne 1 (some .boolean) 3 [.ref (adr ω 52)] M post := by
  refine MtI.start (ty := .boolean) rfl (by decide +kernel) (own := RX4) rfl (Nat.le_of_ble_eq_true rfl) (fun ρ C R => ?_)
  show G ω ρ M 0 [(0, .ref (adr ω 52))] []
  refine G_aload_n C dX4_readOne_0 0 rfl ?_
  refine gf_X4_12 C dX4_readOne_1 ?_
  refine gf_X4_115 C q53 dX4_readOne_4 ?_
  refine G_bipush (v := 6) C dX4_readOne_7 (by decide) ?_
  obtain ⟨h1, h2⟩ := h
  refine G_icmp_lt (tgt := 18) C dX4_readOne_9 (by decide) (fun c => ?_) (fun c => ?_)
  · have h := h1 c
    clear h1 h2
    refine G_aload_n C dX4_readOne_18 0 rfl ?_
    refine G_iconst (v := 2) C dX4_readOne_19 (by decide) ?_
    refine G_callI (As := [.int 2]) (rest := []) C dX4_readOne_20 lk_X4_118 (Nat.le_of_ble_eq_true rfl) (Nat.le_of_ble_eq_true rfl) q52 (by decide) rfl (Nat.le_of_ble_eq_true rfl) rfl (S_X4_takes h) (fun r2 M1 h => ?_)
    obtain ⟨h1, h2⟩ := h
    refine G_if_ne (tgt := 28) C dX4_readOne_23 (by decide) (fun c => ?_) (fun c => ?_)
    · have h := h1 c
      clear h1 h2
      refine G_aload_n C dX4_readOne_28 0 rfl ?_
      refine gf_X4_45 C dX4_readOne_29 ?_
      refine gf_X4_82 C dX4_readOne_32 ?_
      refine G_nscallI (host := "StepCalls") (kn := 1) C dX4_readOne_35 (va_Nw.of rfl C.2.2.2.2.2.2.2.2.2.1.1) 535 61 536 (by decide +kernel) (by decide +kernel) (by decide +kernel) (by decide +kernel) (As := [.int (rd M1 50 5)]) (rest := []) rfl (Nat.le_of_ble_eq_true rfl) (Nat.le_of_ble_eq_true rfl) (Nat.le_of_ble_eq_true rfl) rfl (S_X9_isNumber h) (fun r4 M3 h => ?_)
      obtain ⟨h1, h2⟩ := h
      refine G_if_ne (tgt := 47) C dX4_readOne_38 (by decide) (fun c => ?_) (fun c => ?_)
      · have h := h1 c
        clear h1 h2
        refine G_aload_n C dX4_readOne_47 0 rfl ?_
        refine gf_X4_12 C dX4_readOne_48 ?_
        refine G_aload_n C dX4_readOne_51 0 rfl ?_
        refine gf_X4_45 C dX4_readOne_52 ?_
        refine gf_X4_82 C dX4_readOne_55 ?_
        refine G_callI (As := [.int (rd M3 50 5)]) (rest := []) C dX4_readOne_58 lk_X4_124 (Nat.le_of_ble_eq_true rfl) (Nat.le_of_ble_eq_true rfl) q53 (by decide) rfl (Nat.le_of_ble_eq_true rfl) rfl (S_X1_owner q53 h) (fun r6 M5 h => ?_)
        refine G_bipush (v := (-4)) C dX4_readOne_61 (by decide) ?_
        obtain ⟨h1, h2⟩ := h
        refine G_icmp_eq (tgt := 72) C dX4_readOne_63 (by decide) (fun c => ?_) (fun c => ?_)
        · have h := h1 c
          clear h1 h2
          refine G_aload_n C dX4_readOne_72 0 rfl ?_
          refine gf_X4_12 C dX4_readOne_73 ?_
          refine G_aload_n C dX4_readOne_76 0 rfl ?_
          refine gf_X4_45 C dX4_readOne_77 ?_
          refine gf_X4_82 C dX4_readOne_80 ?_
          refine G_callV (As := [.int (rd M5 50 5)]) (rest := []) C dX4_readOne_83 lk_X4_128 (Nat.le_of_ble_eq_true rfl) (Nat.le_of_ble_eq_true rfl) q53 (by decide) rfl (Nat.le_of_ble_eq_true rfl) rfl (S_X1_addOne q53 h) (fun M7 h => ?_)
          refine G_aload_n C dX4_readOne_86 0 rfl ?_
          refine G_iconst (v := 3) C dX4_readOne_87 (by decide) ?_
          refine G_callI (As := [.int 3]) (rest := []) C dX4_readOne_88 lk_X4_118 (Nat.le_of_ble_eq_true rfl) (Nat.le_of_ble_eq_true rfl) q52 (by decide) rfl (Nat.le_of_ble_eq_true rfl) rfl (S_X4_takes h) (fun r9 M8 h => ?_)
          exact R 91 _ _ _ dX4_readOne_91 h.1.1 h.2
        · have h := h2 c
          clear h1 h2
          refine G_aload_n C dX4_readOne_66 0 rfl ?_
          refine G_iconst (v := 4) C dX4_readOne_67 (by decide) ?_
          refine G_callI (As := [.int 4]) (rest := []) C dX4_readOne_68 lk_X4_67 (Nat.le_of_ble_eq_true rfl) (Nat.le_of_ble_eq_true rfl) q52 (by decide) rfl (Nat.le_of_ble_eq_true rfl) rfl (S_X4_wrong h) (fun r11 M10 h => ?_)
          exact R 71 _ _ _ dX4_readOne_71 h.1.1 h.2
      · have h := h2 c
        clear h1 h2
        refine G_aload_n C dX4_readOne_41 0 rfl ?_
        refine G_iconst (v := 3) C dX4_readOne_42 (by decide) ?_
        refine G_callI (As := [.int 3]) (rest := []) C dX4_readOne_43 lk_X4_67 (Nat.le_of_ble_eq_true rfl) (Nat.le_of_ble_eq_true rfl) q52 (by decide) rfl (Nat.le_of_ble_eq_true rfl) rfl (S_X4_wrong h) (fun r13 M12 h => ?_)
        exact R 46 _ _ _ dX4_readOne_46 h.1.1 h.2
    · have h := h2 c
      clear h1 h2
      refine G_iconst (v := 0) C dX4_readOne_26 (by decide) ?_
      exact R 27 _ _ _ dX4_readOne_27 rfl h
  · have h := h2 c
    clear h1 h2
    refine G_aload_n C dX4_readOne_12 0 rfl ?_
    refine G_iconst (v := 5) C dX4_readOne_13 (by decide) ?_
    refine G_callI (As := [.int 5]) (rest := []) C dX4_readOne_14 lk_X4_67 (Nat.le_of_ble_eq_true rfl) (Nat.le_of_ble_eq_true rfl) q52 (by decide) rfl (Nat.le_of_ble_eq_true rfl) rfl (S_X4_wrong h) (fun r15 M14 h => ?_)
    exact R 17 _ _ _ dX4_readOne_17 h.1.1 h.2
theorem dX4_takesNumber_0 : decode cX4_takesNumber 0 = .ok (.aload_n 0, 1) := by decide +kernel
theorem dX4_takesNumber_1 : decode cX4_takesNumber 1 = .ok (.getfield 45, 3) := by decide +kernel
theorem dX4_takesNumber_4 : decode cX4_takesNumber 4 = .ok (.invokevirtual 52, 3) := by decide +kernel
theorem dX4_takesNumber_7 : decode cX4_takesNumber 7 = .ok (.aload_n 0, 1) := by decide +kernel
theorem dX4_takesNumber_8 : decode cX4_takesNumber 8 = .ok (.iconst 2, 1) := by decide +kernel
theorem dX4_takesNumber_9 : decode cX4_takesNumber 9 = .ok (.invokevirtual 79, 3) := by decide +kernel
theorem dX4_takesNumber_12 : decode cX4_takesNumber 12 = .ok (.ifCond .ne 5, 3) := by decide +kernel
theorem dX4_takesNumber_15 : decode cX4_takesNumber 15 = .ok (.iconst 0, 1) := by decide +kernel
theorem dX4_takesNumber_16 : decode cX4_takesNumber 16 = .ok (.ireturn, 1) := by decide +kernel
theorem dX4_takesNumber_17 : decode cX4_takesNumber 17 = .ok (.aload_n 0, 1) := by decide +kernel
theorem dX4_takesNumber_18 : decode cX4_takesNumber 18 = .ok (.getfield 45, 3) := by decide +kernel
theorem dX4_takesNumber_21 : decode cX4_takesNumber 21 = .ok (.getfield 82, 3) := by decide +kernel
theorem dX4_takesNumber_24 : decode cX4_takesNumber 24 = .ok (.iload_n 1, 1) := by decide +kernel
theorem dX4_takesNumber_25 : decode cX4_takesNumber 25 = .ok (.if_icmp .lt 14, 3) := by decide +kernel
theorem dX4_takesNumber_28 : decode cX4_takesNumber 28 = .ok (.aload_n 0, 1) := by decide +kernel
theorem dX4_takesNumber_29 : decode cX4_takesNumber 29 = .ok (.getfield 45, 3) := by decide +kernel
theorem dX4_takesNumber_32 : decode cX4_takesNumber 32 = .ok (.getfield 82, 3) := by decide +kernel
theorem dX4_takesNumber_35 : decode cX4_takesNumber 35 = .ok (.iload_n 2, 1) := by decide +kernel
theorem dX4_takesNumber_36 : decode cX4_takesNumber 36 = .ok (.if_icmp .le 11, 3) := by decide +kernel
theorem dX4_takesNumber_39 : decode cX4_takesNumber 39 = .ok (.aload_n 0, 1) := by decide +kernel
theorem dX4_takesNumber_40 : decode cX4_takesNumber 40 = .ok (.iconst 3, 1) := by decide +kernel
theorem dX4_takesNumber_41 : decode cX4_takesNumber 41 = .ok (.invokevirtual 67, 3) := by decide +kernel
theorem dX4_takesNumber_44 : decode cX4_takesNumber 44 = .ok (.ifCond .eq 7, 3) := by decide +kernel
theorem dX4_takesNumber_47 : decode cX4_takesNumber 47 = .ok (.iconst 1, 1) := by decide +kernel
theorem dX4_takesNumber_48 : decode cX4_takesNumber 48 = .ok (.goto 4, 3) := by decide +kernel
theorem dX4_takesNumber_51 : decode cX4_takesNumber 51 = .ok (.iconst 0, 1) := by decide +kernel
theorem dX4_takesNumber_52 : decode cX4_takesNumber 52 = .ok (.ireturn, 1) := by decide +kernel
def w_X4_takesNumber_J47 (post : Int32 → Mem → Prop) (M : Mem) : Prop := post 1 M
set_option maxRecDepth 100000 in
set_option maxHeartbeats 4000000 in
theorem s_X4_takesNumber_J47 {ω : WD} {ρ : FR} {post : Int32 → Mem → Prop} (C : Cx ω ρ cX4_takesNumber RX4 2 3) (R : RtI ω ρ cX4_takesNumber .boolean post) {M : Mem} (h : w_X4_takesNumber_J47 post M) : G ω ρ M 47 [] [] := by
  refine G_iconst (v := 1) C dX4_takesNumber_47 (by decide) ?_
  refine G_goto (tgt := 52) C dX4_takesNumber_48 (by decide) ?_
  exact R 52 _ _ _ dX4_takesNumber_52 rfl h
def w_X4_takesNumber_J39 (post : Int32 → Mem → Prop) (M : Mem) : Prop := w_X4_wrong 3 M (fun (r2 : Int32) (M1 : Mem) => ((r2 = 0 → post 0 M1) ∧ (¬ r2 = 0 → w_X4_takesNumber_J47 post M1)))
set_option maxRecDepth 100000 in
set_option maxHeartbeats 4000000 in
theorem s_X4_takesNumber_J39 {ω : WD} {ρ : FR} {post : Int32 → Mem → Prop} (C : Cx ω ρ cX4_takesNumber RX4 2 3) (R : RtI ω ρ cX4_takesNumber .boolean post) {M : Mem} (h : w_X4_takesNumber_J39 post M) : G ω ρ M 39 [(0, .ref (adr ω 52))] [] := by
  refine G_aload_n C dX4_takesNumber_39 0 rfl ?_
  refine G_iconst (v := 3) C dX4_takesNumber_40 (by decide) ?_
  refine G_callI (As := [.int 3]) (rest := []) C dX4_takesNumber_41 lk_X4_67 (Nat.le_of_ble_eq_true rfl) (Nat.le_of_ble_eq_true rfl) q52 (by decide) rfl (Nat.le_of_ble_eq_true rfl) rfl (S_X4_wrong h) (fun r2 M1 h => ?_)
  obtain ⟨h1, h2⟩ := h
  refine G_if_eq (tgt := 51) C dX4_takesNumber_44 (by decide) (fun c => ?_) (fun c => ?_)
  · have h := h1 c
    clear h1 h2
    refine G_iconst (v := 0) C dX4_takesNumber_51 (by decide) ?_
    exact R 52 _ _ _ dX4_takesNumber_52 rfl h
  · have h := h2 c
    clear h1 h2
    refine G_sub [] (lv' := []) rfl ?_
    exact s_X4_takesNumber_J47 C R  h
def w_X4_takesNumber (l1 : Int32) (l2 : Int32) (M : Mem) (post : Int32 → Mem → Prop) : Prop := w_X7_next M (fun (M3 : Mem) => w_X4_stands 2 M3 (fun (r5 : Int32) (M4 : Mem) => ((¬ r5 = 0 → (((rd M4 50 5) < l1 → w_X4_takesNumber_J39 post M4) ∧ (¬ (rd M4 50 5) < l1 → (((rd M4 50 5) ≤ l2 → w_X4_takesNumber_J47 post M4) ∧ (¬ (rd M4 50 5) ≤ l2 → w_X4_takesNumber_J39 post M4))))) ∧ (r5 = 0 → post 0 M4))))
set_option maxRecDepth 100000 in
set_option maxHeartbeats 4000000 in
theorem S_X4_takesNumber {ω : WD} {l1 : Int32} {l2 : Int32} {M : Mem} {post : Int32 → Mem → Prop} (h : w_X4_takesNumber l1 l2 M post) : MtI ω yX4_takesNumber cX4_takesNumber 3 (some .boolean) 2 [.ref (adr ω 52), .int l1, .int l2] M post := by
  refine MtI.start (ty := .boolean) rfl (by decide +kernel) (own := RX4) rfl (Nat.le_of_ble_eq_true rfl) (fun ρ C R => ?_)
  show G ω ρ M 0 [(0, .ref (adr ω 52)), (1, .int l1), (2, .int l2)] []
  refine G_aload_n C dX4_takesNumber_0 0 rfl ?_
  refine gf_X4_45 C dX4_takesNumber_1 ?_
  refine G_callV (As := []) (rest := []) C dX4_takesNumber_4 lk_X4_52 (Nat.le_of_ble_eq_true rfl) (Nat.le_of_ble_eq_true rfl) q50 (by decide) rfl (Nat.le_of_ble_eq_true rfl) rfl (S_X7_next h) (fun M3 h => ?_)
  refine G_aload_n C dX4_takesNumber_7 0 rfl ?_
  refine G_iconst (v := 2) C dX4_takesNumber_8 (by decide) ?_
  refine G_callI (As := [.int 2]) (rest := []) C dX4_takesNumber_9 lk_X4_79 (Nat.le_of_ble_eq_true rfl) (Nat.le_of_ble_eq_true rfl) q52 (by decide) rfl (Nat.le_of_ble_eq_true rfl) rfl (S_X4_stands h) (fun r5 M4 h => ?_)
  obtain ⟨h1, h2⟩ := h
  refine G_if_ne (tgt := 17) C dX4_takesNumber_12 (by decide) (fun c => ?_) (fun c => ?_)
  · have h := h1 c
    clear h1 h2
    refine G_aload_n C dX4_takesNumber_17 0 rfl ?_
    refine gf_X4_45 C dX4_takesNumber_18 ?_
    refine gf_X4_82 C dX4_takesNumber_21 ?_
    refine G_iload_n C dX4_takesNumber_24 1 rfl ?_
    obtain ⟨h1, h2⟩ := h
    refine G_icmp_lt (tgt := 39) C dX4_takesNumber_25 (by decide) (fun c => ?_) (fun c => ?_)
    · have h := h1 c
      clear h1 h2
      refine G_sub [0] (lv' := [(0, .ref (adr ω 52))]) rfl ?_
      exact s_X4_takesNumber_J39 C R  h
    · have h := h2 c
      clear h1 h2
      refine G_aload_n C dX4_takesNumber_28 0 rfl ?_
      refine gf_X4_45 C dX4_takesNumber_29 ?_
      refine gf_X4_82 C dX4_takesNumber_32 ?_
      refine G_iload_n C dX4_takesNumber_35 2 rfl ?_
      obtain ⟨h1, h2⟩ := h
      refine G_icmp_le (tgt := 47) C dX4_takesNumber_36 (by decide) (fun c => ?_) (fun c => ?_)
      · have h := h1 c
        clear h1 h2
        refine G_sub [] (lv' := []) rfl ?_
        exact s_X4_takesNumber_J47 C R  h
      · have h := h2 c
        clear h1 h2
        refine G_sub [0] (lv' := [(0, .ref (adr ω 52))]) rfl ?_
        exact s_X4_takesNumber_J39 C R  h
  · have h := h2 c
    clear h1 h2
    refine G_iconst (v := 0) C dX4_takesNumber_15 (by decide) ?_
    exact R 16 _ _ _ dX4_takesNumber_16 rfl h
theorem dX4_readFinders_0 : decode cX4_readFinders 0 = .ok (.aload_n 0, 1) := by decide +kernel
theorem dX4_readFinders_1 : decode cX4_readFinders 1 = .ok (.getfield 35, 3) := by decide +kernel
theorem dX4_readFinders_4 : decode cX4_readFinders 4 = .ok (.ifCond .eq 9, 3) := by decide +kernel
theorem dX4_readFinders_7 : decode cX4_readFinders 7 = .ok (.aload_n 0, 1) := by decide +kernel
theorem dX4_readFinders_8 : decode cX4_readFinders 8 = .ok (.iconst 4, 1) := by decide +kernel
theorem dX4_readFinders_9 : decode cX4_readFinders 9 = .ok (.invokevirtual 67, 3) := by decide +kernel
theorem dX4_readFinders_12 : decode cX4_readFinders 12 = .ok (.ireturn, 1) := by decide +kernel
theorem dX4_readFinders_13 : decode cX4_readFinders 13 = .ok (.aload_n 0, 1) := by decide +kernel
theorem dX4_readFinders_14 : decode cX4_readFinders 14 = .ok (.iconst 1, 1) := by decide +kernel
theorem dX4_readFinders_15 : decode cX4_readFinders 15 = .ok (.putfield 35, 3) := by decide +kernel
theorem dX4_readFinders_18 : decode cX4_readFinders 18 = .ok (.aload_n 0, 1) := by decide +kernel
theorem dX4_readFinders_19 : decode cX4_readFinders 19 = .ok (.iconst 1, 1) := by decide +kernel
theorem dX4_readFinders_20 : decode cX4_readFinders 20 = .ok (.bipush 6, 2) := by decide +kernel
theorem dX4_readFinders_22 : decode cX4_readFinders 22 = .ok (.invokevirtual 132, 3) := by decide +kernel
theorem dX4_readFinders_25 : decode cX4_readFinders 25 = .ok (.ifCond .ne 5, 3) := by decide +kernel
theorem dX4_readFinders_28 : decode cX4_readFinders 28 = .ok (.iconst 0, 1) := by decide +kernel
theorem dX4_readFinders_29 : decode cX4_readFinders 29 = .ok (.ireturn, 1) := by decide +kernel
theorem dX4_readFinders_30 : decode cX4_readFinders 30 = .ok (.aload_n 0, 1) := by decide +kernel
theorem dX4_readFinders_31 : decode cX4_readFinders 31 = .ok (.getfield 12, 3) := by decide +kernel
theorem dX4_readFinders_34 : decode cX4_readFinders 34 = .ok (.aload_n 0, 1) := by decide +kernel
theorem dX4_readFinders_35 : decode cX4_readFinders 35 = .ok (.getfield 45, 3) := by decide +kernel
theorem dX4_readFinders_38 : decode cX4_readFinders 38 = .ok (.getfield 82, 3) := by decide +kernel
theorem dX4_readFinders_41 : decode cX4_readFinders 41 = .ok (.putfield 136, 3) := by decide +kernel
theorem dX4_readFinders_44 : decode cX4_readFinders 44 = .ok (.aload_n 0, 1) := by decide +kernel
theorem dX4_readFinders_45 : decode cX4_readFinders 45 = .ok (.iconst 3, 1) := by decide +kernel
theorem dX4_readFinders_46 : decode cX4_readFinders 46 = .ok (.invokevirtual 118, 3) := by decide +kernel
theorem dX4_readFinders_49 : decode cX4_readFinders 49 = .ok (.ireturn, 1) := by decide +kernel
theorem gf_X4_35 {ω : WD} {ρ : FR} {M : Mem} {cc : ByteArray} {d n pc : Nat} {lv : List (Nat × Value)} {rest : List Value} (C : Cx ω ρ cc RX4 d n) (hd : decode cc pc = .ok (.getfield 35, 3)) (k : G ω ρ M (pc + 3) lv (.int (rd M 52 6) :: rest)) : G ω ρ M pc lv (.ref (adr ω 52) :: rest) := G_get (N := 9) (T := TX4) (C := RX4) (q := 6) C (q52 : isK 4 52) (by decide) rfl in_X4 (by decide) (tb_of 306 ⟨by decide +kernel, rfl⟩) rfl rfl hd k
theorem lk_X4_132 : LkV RX4 132 RX4 yX4_takesNumber cX4_takesNumber 3 (some .boolean) 2 := LkV.of 554 555 556 68 557 (by decide +kernel) (by decide +kernel) (by decide +kernel) (by decide +kernel) (by decide +kernel) (by decide +kernel)
theorem pf_X4_136 {ω : WD} {ρ : FR} {M : Mem} {cc : ByteArray} {d n pc i : Nat} {lv : List (Nat × Value)} {rest : List Value} {v : Int32} (C : Cx ω ρ cc RX4 d n) (hk : isK 1 i) (hd : decode cc pc = .ok (.putfield 136, 3)) (k : ∀ M1, M1 = wr M i 1 v → G ω ρ M1 (pc + 3) lv rest) : G ω ρ M pc lv (.int v :: .ref (adr ω i) :: rest) := G_put (N := 8) (T := TX1) (C := RX1) (q := 1) (ty := .int) C hk (by decide) rfl in_X1 tyX1 tyX1_ok nmX1 (by decide) (tb_of 136 ⟨by decide +kernel, rfl⟩) rfl rfl (by decide +kernel) rfl rfl (fun _ _ => Nat.le_of_ble_eq_true rfl) (fun _ => rfl) hd (k _ rfl)
def w_X4_readFinders (M : Mem) (post : Int32 → Mem → Prop) : Prop := (((rd M 52 6) = 0 → ∀ M1 : Mem, M1 = wr M 52 6 1 → w_X4_takesNumber 1 6 M1 (fun (r3 : Int32) (M2 : Mem) => ((¬ r3 = 0 → ∀ M4 : Mem, M4 = wr M2 53 1 (rd M2 50 5) → w_X4_takes 3 M4 (fun (r6 : Int32) (M5 : Mem) => zb r6 ∧ (post r6 M5))) ∧ (r3 = 0 → post 0 M2)))) ∧ (¬ (rd M 52 6) = 0 → w_X4_wrong 4 M (fun (r8 : Int32) (M7 : Mem) => zb r8 ∧ (post r8 M7))))
set_option maxRecDepth 100000 in
set_option maxHeartbeats 4000000 in
theorem S_X4_readFinders {ω : WD} {M : Mem} {post : Int32 → Mem → Prop} (h : w_X4_readFinders M post) : MtI ω yX4_readFinders cX4_readFinders 1 (some .boolean) 3 [.ref (adr ω 52)] M post := by
  refine MtI.start (ty := .boolean) rfl (by decide +kernel) (own := RX4) rfl (Nat.le_of_ble_eq_true rfl) (fun ρ C R => ?_)
  show G ω ρ M 0 [(0, .ref (adr ω 52))] []
  refine G_aload_n C dX4_readFinders_0 0 rfl ?_
  refine gf_X4_35 C dX4_readFinders_1 ?_
  obtain ⟨h1, h2⟩ := h
  refine G_if_eq (tgt := 13) C dX4_readFinders_4 (by decide) (fun c => ?_) (fun c => ?_)
  · have h := h1 c
    clear h1 h2
    refine G_aload_n C dX4_readFinders_13 0 rfl ?_
    refine G_iconst (v := 1) C dX4_readFinders_14 (by decide) ?_
    refine pf_X4_35 C zb_1 dX4_readFinders_15 (fun M1 eM1 => ?_)
    replace h := h M1 eM1
    refine G_aload_n C dX4_readFinders_18 0 rfl ?_
    refine G_iconst (v := 1) C dX4_readFinders_19 (by decide) ?_
    refine G_bipush (v := 6) C dX4_readFinders_20 (by decide) ?_
    refine G_callI (As := [.int 1, .int 6]) (rest := []) C dX4_readFinders_22 lk_X4_132 (Nat.le_of_ble_eq_true rfl) (Nat.le_of_ble_eq_true rfl) q52 (by decide) rfl (Nat.le_of_ble_eq_true rfl) rfl (S_X4_takesNumber h) (fun r3 M2 h => ?_)
    obtain ⟨h1, h2⟩ := h
    refine G_if_ne (tgt := 30) C dX4_readFinders_25 (by decide) (fun c => ?_) (fun c => ?_)
    · have h := h1 c
      clear h1 h2
      refine G_aload_n C dX4_readFinders_30 0 rfl ?_
      refine gf_X4_12 C dX4_readFinders_31 ?_
      refine G_aload_n C dX4_readFinders_34 0 rfl ?_
      refine gf_X4_45 C dX4_readFinders_35 ?_
      refine gf_X4_82 C dX4_readFinders_38 ?_
      refine pf_X4_136 C q53 dX4_readFinders_41 (fun M4 eM4 => ?_)
      replace h := h M4 eM4
      refine G_aload_n C dX4_readFinders_44 0 rfl ?_
      refine G_iconst (v := 3) C dX4_readFinders_45 (by decide) ?_
      refine G_callI (As := [.int 3]) (rest := []) C dX4_readFinders_46 lk_X4_118 (Nat.le_of_ble_eq_true rfl) (Nat.le_of_ble_eq_true rfl) q52 (by decide) rfl (Nat.le_of_ble_eq_true rfl) rfl (S_X4_takes h) (fun r6 M5 h => ?_)
      exact R 49 _ _ _ dX4_readFinders_49 h.1.1 h.2
    · have h := h2 c
      clear h1 h2
      refine G_iconst (v := 0) C dX4_readFinders_28 (by decide) ?_
      exact R 29 _ _ _ dX4_readFinders_29 rfl h
  · have h := h2 c
    clear h1 h2
    refine G_aload_n C dX4_readFinders_7 0 rfl ?_
    refine G_iconst (v := 4) C dX4_readFinders_8 (by decide) ?_
    refine G_callI (As := [.int 4]) (rest := []) C dX4_readFinders_9 lk_X4_67 (Nat.le_of_ble_eq_true rfl) (Nat.le_of_ble_eq_true rfl) q52 (by decide) rfl (Nat.le_of_ble_eq_true rfl) rfl (S_X4_wrong h) (fun r8 M7 h => ?_)
    exact R 12 _ _ _ dX4_readFinders_12 h.1.1 h.2
theorem dX4_readGroup_0 : decode cX4_readGroup 0 = .ok (.aload_n 0, 1) := by decide +kernel
theorem dX4_readGroup_1 : decode cX4_readGroup 1 = .ok (.iconst 0, 1) := by decide +kernel
theorem dX4_readGroup_2 : decode cX4_readGroup 2 = .ok (.iconst 4, 1) := by decide +kernel
theorem dX4_readGroup_3 : decode cX4_readGroup 3 = .ok (.invokevirtual 132, 3) := by decide +kernel
theorem dX4_readGroup_6 : decode cX4_readGroup 6 = .ok (.ifCond .ne 5, 3) := by decide +kernel
theorem dX4_readGroup_9 : decode cX4_readGroup 9 = .ok (.iconst 0, 1) := by decide +kernel
theorem dX4_readGroup_10 : decode cX4_readGroup 10 = .ok (.ireturn, 1) := by decide +kernel
theorem dX4_readGroup_11 : decode cX4_readGroup 11 = .ok (.aload_n 0, 1) := by decide +kernel
theorem dX4_readGroup_12 : decode cX4_readGroup 12 = .ok (.getfield 45, 3) := by decide +kernel
theorem dX4_readGroup_15 : decode cX4_readGroup 15 = .ok (.getfield 82, 3) := by decide +kernel
theorem dX4_readGroup_18 : decode cX4_readGroup 18 = .ok (.istore_n 2, 1) := by decide +kernel
theorem dX4_readGroup_19 : decode cX4_readGroup 19 = .ok (.aload_n 0, 1) := by decide +kernel
theorem dX4_readGroup_20 : decode cX4_readGroup 20 = .ok (.getfield 42, 3) := by decide +kernel
theorem dX4_readGroup_23 : decode cX4_readGroup 23 = .ok (.iload_n 2, 1) := by decide +kernel
theorem dX4_readGroup_24 : decode cX4_readGroup 24 = .ok (.ishr, 1) := by decide +kernel
theorem dX4_readGroup_25 : decode cX4_readGroup 25 = .ok (.iconst 1, 1) := by decide +kernel
theorem dX4_readGroup_26 : decode cX4_readGroup 26 = .ok (.iand, 1) := by decide +kernel
theorem dX4_readGroup_27 : decode cX4_readGroup 27 = .ok (.ifCond .eq 9, 3) := by decide +kernel
theorem dX4_readGroup_30 : decode cX4_readGroup 30 = .ok (.aload_n 0, 1) := by decide +kernel
theorem dX4_readGroup_31 : decode cX4_readGroup 31 = .ok (.iconst 4, 1) := by decide +kernel
theorem dX4_readGroup_32 : decode cX4_readGroup 32 = .ok (.invokevirtual 67, 3) := by decide +kernel
theorem dX4_readGroup_35 : decode cX4_readGroup 35 = .ok (.ireturn, 1) := by decide +kernel
theorem dX4_readGroup_36 : decode cX4_readGroup 36 = .ok (.aload_n 0, 1) := by decide +kernel
theorem dX4_readGroup_37 : decode cX4_readGroup 37 = .ok (.dup, 1) := by decide +kernel
theorem dX4_readGroup_38 : decode cX4_readGroup 38 = .ok (.getfield 42, 3) := by decide +kernel
theorem dX4_readGroup_41 : decode cX4_readGroup 41 = .ok (.iconst 1, 1) := by decide +kernel
theorem dX4_readGroup_42 : decode cX4_readGroup 42 = .ok (.iload_n 2, 1) := by decide +kernel
theorem dX4_readGroup_43 : decode cX4_readGroup 43 = .ok (.ishl, 1) := by decide +kernel
theorem dX4_readGroup_44 : decode cX4_readGroup 44 = .ok (.ior, 1) := by decide +kernel
theorem dX4_readGroup_45 : decode cX4_readGroup 45 = .ok (.putfield 42, 3) := by decide +kernel
theorem dX4_readGroup_48 : decode cX4_readGroup 48 = .ok (.aload_n 0, 1) := by decide +kernel
theorem dX4_readGroup_49 : decode cX4_readGroup 49 = .ok (.iconst 0, 1) := by decide +kernel
theorem dX4_readGroup_50 : decode cX4_readGroup 50 = .ok (.iconst 4, 1) := by decide +kernel
theorem dX4_readGroup_51 : decode cX4_readGroup 51 = .ok (.invokevirtual 132, 3) := by decide +kernel
theorem dX4_readGroup_54 : decode cX4_readGroup 54 = .ok (.ifCond .ne 5, 3) := by decide +kernel
theorem dX4_readGroup_57 : decode cX4_readGroup 57 = .ok (.iconst 0, 1) := by decide +kernel
theorem dX4_readGroup_58 : decode cX4_readGroup 58 = .ok (.ireturn, 1) := by decide +kernel
theorem dX4_readGroup_59 : decode cX4_readGroup 59 = .ok (.aload_n 0, 1) := by decide +kernel
theorem dX4_readGroup_60 : decode cX4_readGroup 60 = .ok (.getfield 12, 3) := by decide +kernel
theorem dX4_readGroup_63 : decode cX4_readGroup 63 = .ok (.getfield 138, 3) := by decide +kernel
theorem dX4_readGroup_66 : decode cX4_readGroup 66 = .ok (.iload_n 2, 1) := by decide +kernel
theorem dX4_readGroup_67 : decode cX4_readGroup 67 = .ok (.aaload, 1) := by decide +kernel
theorem dX4_readGroup_68 : decode cX4_readGroup 68 = .ok (.iload_n 1, 1) := by decide +kernel
theorem dX4_readGroup_69 : decode cX4_readGroup 69 = .ok (.putfield 142, 3) := by decide +kernel
theorem dX4_readGroup_72 : decode cX4_readGroup 72 = .ok (.aload_n 0, 1) := by decide +kernel
theorem dX4_readGroup_73 : decode cX4_readGroup 73 = .ok (.getfield 12, 3) := by decide +kernel
theorem dX4_readGroup_76 : decode cX4_readGroup 76 = .ok (.getfield 138, 3) := by decide +kernel
theorem dX4_readGroup_79 : decode cX4_readGroup 79 = .ok (.iload_n 2, 1) := by decide +kernel
theorem dX4_readGroup_80 : decode cX4_readGroup 80 = .ok (.aaload, 1) := by decide +kernel
theorem dX4_readGroup_81 : decode cX4_readGroup 81 = .ok (.aload_n 0, 1) := by decide +kernel
theorem dX4_readGroup_82 : decode cX4_readGroup 82 = .ok (.getfield 45, 3) := by decide +kernel
theorem dX4_readGroup_85 : decode cX4_readGroup 85 = .ok (.getfield 82, 3) := by decide +kernel
theorem dX4_readGroup_88 : decode cX4_readGroup 88 = .ok (.invokevirtual 147, 3) := by decide +kernel
theorem dX4_readGroup_91 : decode cX4_readGroup 91 = .ok (.aload_n 0, 1) := by decide +kernel
theorem dX4_readGroup_92 : decode cX4_readGroup 92 = .ok (.iconst 3, 1) := by decide +kernel
theorem dX4_readGroup_93 : decode cX4_readGroup 93 = .ok (.invokevirtual 118, 3) := by decide +kernel
theorem dX4_readGroup_96 : decode cX4_readGroup 96 = .ok (.ireturn, 1) := by decide +kernel
theorem gf_X4_42 {ω : WD} {ρ : FR} {M : Mem} {cc : ByteArray} {d n pc : Nat} {lv : List (Nat × Value)} {rest : List Value} (C : Cx ω ρ cc RX4 d n) (hd : decode cc pc = .ok (.getfield 42, 3)) (k : G ω ρ M (pc + 3) lv (.int (rd M 52 8) :: rest)) : G ω ρ M pc lv (.ref (adr ω 52) :: rest) := G_get (N := 9) (T := TX4) (C := RX4) (q := 8) C (q52 : isK 4 52) (by decide) rfl in_X4 (by decide) (tb_of 308 ⟨by decide +kernel, rfl⟩) rfl rfl hd k
theorem gf_X4_138 {ω : WD} {ρ : FR} {M : Mem} {cc : ByteArray} {d n pc i : Nat} {lv : List (Nat × Value)} {rest : List Value} (C : Cx ω ρ cc RX4 d n) (hk : isK 1 i) (hd : decode cc pc = .ok (.getfield 138, 3)) (k : G ω ρ M (pc + 3) lv (.ref (adr ω (i + 5)) :: rest)) : G ω ρ M pc lv (.ref (adr ω i) :: rest) := G_get (N := 8) (T := TX1) (C := RX1) (q := 7) C hk (by decide) rfl in_X1 (by decide) (tb_of 150 ⟨by decide +kernel, rfl⟩) rfl rfl hd k
theorem pf_X4_142 {ω : WD} {ρ : FR} {M : Mem} {cc : ByteArray} {d n pc i : Nat} {lv : List (Nat × Value)} {rest : List Value} {v : Int32} (C : Cx ω ρ cc RX4 d n) (hk : isK 2 i) (hd : decode cc pc = .ok (.putfield 142, 3)) (k : ∀ M1, M1 = wr M i 0 v → G ω ρ M1 (pc + 3) lv rest) : G ω ρ M pc lv (.int v :: .ref (adr ω i) :: rest) := G_put (N := 6) (T := TX2) (C := RX2) (q := 0) (ty := .int) C hk (by decide) rfl in_X2 tyX2 tyX2_ok nmX2 (by decide) (tb_of 101 ⟨by decide +kernel, rfl⟩) rfl rfl (by decide +kernel) rfl rfl (fun _ _ => Nat.le_of_ble_eq_true rfl) (fun _ => rfl) hd (k _ rfl)
theorem lk_X4_147 : LkV RX4 147 RX2 yX2_resize cX2_resize 3 none 1 := LkV.of 563 564 565 63 566 (by decide +kernel) (by decide +kernel) (by decide +kernel) (by decide +kernel) (by decide +kernel) (by decide +kernel)
def w_X4_readGroup (l1 : Int32) (M : Mem) (post : Int32 → Mem → Prop) : Prop := w_X4_takesNumber 0 4 M (fun (r2 : Int32) (M1 : Mem) => ((¬ r2 = 0 → ∀ v3 : Int32, v3 = (rd M1 50 5) → ((((ishr (rd M1 52 8) v3) &&& 1) = 0 → ∀ M4 : Mem, M4 = wr M1 52 8 ((rd M1 52 8) ||| (ishl 1 v3)) → w_X4_takesNumber 0 4 M4 (fun (r6 : Int32) (M5 : Mem) => ((¬ r6 = 0 → vp_in v3 5 ∧ (∀ g7 : Nat, g7 = 58 + 1 + 2 * v3.toNatClampNeg → ∀ M8 : Mem, M8 = wr M5 g7 0 l1 → vp_in v3 5 ∧ (∀ g9 : Nat, g9 = 58 + 1 + 2 * v3.toNatClampNeg → w_X2_resize g9 (rd M8 50 5) M8 (fun (M10 : Mem) => w_X4_takes 3 M10 (fun (r12 : Int32) (M11 : Mem) => zb r12 ∧ (post r12 M11)))))) ∧ (r6 = 0 → post 0 M5)))) ∧ (¬ ((ishr (rd M1 52 8) v3) &&& 1) = 0 → w_X4_wrong 4 M1 (fun (r14 : Int32) (M13 : Mem) => zb r14 ∧ (post r14 M13))))) ∧ (r2 = 0 → post 0 M1)))
set_option maxRecDepth 100000 in
set_option maxHeartbeats 4000000 in
theorem S_X4_readGroup {ω : WD} {l1 : Int32} {M : Mem} {post : Int32 → Mem → Prop} (h : w_X4_readGroup l1 M post) : MtI ω yX4_readGroup cX4_readGroup 3 (some .boolean) 3 [.ref (adr ω 52), .int l1] M post := by
  refine MtI.start (ty := .boolean) rfl (by decide +kernel) (own := RX4) rfl (Nat.le_of_ble_eq_true rfl) (fun ρ C R => ?_)
  show G ω ρ M 0 [(0, .ref (adr ω 52)), (1, .int l1)] []
  refine G_aload_n C dX4_readGroup_0 0 rfl ?_
  refine G_iconst (v := 0) C dX4_readGroup_1 (by decide) ?_
  refine G_iconst (v := 4) C dX4_readGroup_2 (by decide) ?_
  refine G_callI (As := [.int 0, .int 4]) (rest := []) C dX4_readGroup_3 lk_X4_132 (Nat.le_of_ble_eq_true rfl) (Nat.le_of_ble_eq_true rfl) q52 (by decide) rfl (Nat.le_of_ble_eq_true rfl) rfl (S_X4_takesNumber h) (fun r2 M1 h => ?_)
  obtain ⟨h1, h2⟩ := h
  refine G_if_ne (tgt := 11) C dX4_readGroup_6 (by decide) (fun c => ?_) (fun c => ?_)
  · have h := h1 c
    clear h1 h2
    refine G_aload_n C dX4_readGroup_11 0 rfl ?_
    refine gf_X4_45 C dX4_readGroup_12 ?_
    refine gf_X4_82 C dX4_readGroup_15 ?_
    refine G_iname (fun v3 ev3 => ?_)
    replace h := h v3 ev3
    refine G_istore_n C dX4_readGroup_18 (by decide) (lv' := [(2, .int v3), (0, .ref (adr ω 52)), (1, .int l1)]) rfl ?_
    refine G_aload_n C dX4_readGroup_19 1 rfl ?_
    refine gf_X4_42 C dX4_readGroup_20 ?_
    refine G_iload_n C dX4_readGroup_23 0 rfl ?_
    refine G_ishr C dX4_readGroup_24 ?_
    refine G_iconst (v := 1) C dX4_readGroup_25 (by decide) ?_
    refine G_iand C dX4_readGroup_26 ?_
    obtain ⟨h1, h2⟩ := h
    refine G_if_eq (tgt := 36) C dX4_readGroup_27 (by decide) (fun c => ?_) (fun c => ?_)
    · have h := h1 c
      clear h1 h2
      refine G_aload_n C dX4_readGroup_36 1 rfl ?_
      refine G_dup C dX4_readGroup_37 rfl ?_
      refine gf_X4_42 C dX4_readGroup_38 ?_
      refine G_iconst (v := 1) C dX4_readGroup_41 (by decide) ?_
      refine G_iload_n C dX4_readGroup_42 0 rfl ?_
      refine G_ishl C dX4_readGroup_43 ?_
      refine G_ior C dX4_readGroup_44 ?_
      refine pf_X4_42 C dX4_readGroup_45 (fun M4 eM4 => ?_)
      replace h := h M4 eM4
      refine G_aload_n C dX4_readGroup_48 1 rfl ?_
      refine G_iconst (v := 0) C dX4_readGroup_49 (by decide) ?_
      refine G_iconst (v := 4) C dX4_readGroup_50 (by decide) ?_
      refine G_callI (As := [.int 0, .int 4]) (rest := []) C dX4_readGroup_51 lk_X4_132 (Nat.le_of_ble_eq_true rfl) (Nat.le_of_ble_eq_true rfl) q52 (by decide) rfl (Nat.le_of_ble_eq_true rfl) rfl (S_X4_takesNumber h) (fun r6 M5 h => ?_)
      obtain ⟨h1, h2⟩ := h
      refine G_if_ne (tgt := 59) C dX4_readGroup_54 (by decide) (fun c => ?_) (fun c => ?_)
      · have h := h1 c
        clear h1 h2
        refine G_aload_n C dX4_readGroup_59 1 rfl ?_
        refine gf_X4_12 C dX4_readGroup_60 ?_
        refine gf_X4_138 C q53 dX4_readGroup_63 ?_
        refine G_iload_n C dX4_readGroup_66 0 rfl ?_
        obtain ⟨hi, h⟩ := h
        refine G_aldGroup C q58 hi dX4_readGroup_67 (G_rname (fun g7 eg7 => ?_))
        replace h := h g7 eg7
        have hg7 := el_13 q58 hi eg7
        refine G_iload_n C dX4_readGroup_68 2 rfl ?_
        refine pf_X4_142 C hg7 dX4_readGroup_69 (fun M8 eM8 => ?_)
        replace h := h M8 eM8
        refine G_aload_n C dX4_readGroup_72 1 rfl ?_
        refine gf_X4_12 C dX4_readGroup_73 ?_
        refine gf_X4_138 C q53 dX4_readGroup_76 ?_
        refine G_iload_n C dX4_readGroup_79 0 rfl ?_
        obtain ⟨hi, h⟩ := h
        refine G_aldGroup C q58 hi dX4_readGroup_80 (G_rname (fun g9 eg9 => ?_))
        replace h := h g9 eg9
        have hg9 := el_13 q58 hi eg9
        refine G_aload_n C dX4_readGroup_81 1 rfl ?_
        refine gf_X4_45 C dX4_readGroup_82 ?_
        refine gf_X4_82 C dX4_readGroup_85 ?_
        refine G_callV (As := [.int (rd M8 50 5)]) (rest := []) C dX4_readGroup_88 lk_X4_147 (Nat.le_of_ble_eq_true rfl) (Nat.le_of_ble_eq_true rfl) hg9 (by decide) rfl (Nat.le_of_ble_eq_true rfl) rfl (S_X2_resize hg9 h) (fun M10 h => ?_)
        refine G_aload_n C dX4_readGroup_91 1 rfl ?_
        refine G_iconst (v := 3) C dX4_readGroup_92 (by decide) ?_
        refine G_callI (As := [.int 3]) (rest := []) C dX4_readGroup_93 lk_X4_118 (Nat.le_of_ble_eq_true rfl) (Nat.le_of_ble_eq_true rfl) q52 (by decide) rfl (Nat.le_of_ble_eq_true rfl) rfl (S_X4_takes h) (fun r12 M11 h => ?_)
        exact R 96 _ _ _ dX4_readGroup_96 h.1.1 h.2
      · have h := h2 c
        clear h1 h2
        refine G_iconst (v := 0) C dX4_readGroup_57 (by decide) ?_
        exact R 58 _ _ _ dX4_readGroup_58 rfl h
    · have h := h2 c
      clear h1 h2
      refine G_aload_n C dX4_readGroup_30 1 rfl ?_
      refine G_iconst (v := 4) C dX4_readGroup_31 (by decide) ?_
      refine G_callI (As := [.int 4]) (rest := []) C dX4_readGroup_32 lk_X4_67 (Nat.le_of_ble_eq_true rfl) (Nat.le_of_ble_eq_true rfl) q52 (by decide) rfl (Nat.le_of_ble_eq_true rfl) rfl (S_X4_wrong h) (fun r14 M13 h => ?_)
      exact R 35 _ _ _ dX4_readGroup_35 h.1.1 h.2
  · have h := h2 c
    clear h1 h2
    refine G_iconst (v := 0) C dX4_readGroup_9 (by decide) ?_
    exact R 10 _ _ _ dX4_readGroup_10 rfl h
theorem dX4_readPlan_0 : decode cX4_readPlan 0 = .ok (.aload_n 0, 1) := by decide +kernel
theorem dX4_readPlan_1 : decode cX4_readPlan 1 = .ok (.getfield 39, 3) := by decide +kernel
theorem dX4_readPlan_4 : decode cX4_readPlan 4 = .ok (.ifCond .eq 9, 3) := by decide +kernel
theorem dX4_readPlan_7 : decode cX4_readPlan 7 = .ok (.aload_n 0, 1) := by decide +kernel
theorem dX4_readPlan_8 : decode cX4_readPlan 8 = .ok (.iconst 4, 1) := by decide +kernel
theorem dX4_readPlan_9 : decode cX4_readPlan 9 = .ok (.invokevirtual 67, 3) := by decide +kernel
theorem dX4_readPlan_12 : decode cX4_readPlan 12 = .ok (.ireturn, 1) := by decide +kernel
theorem dX4_readPlan_13 : decode cX4_readPlan 13 = .ok (.aload_n 0, 1) := by decide +kernel
theorem dX4_readPlan_14 : decode cX4_readPlan 14 = .ok (.iconst 1, 1) := by decide +kernel
theorem dX4_readPlan_15 : decode cX4_readPlan 15 = .ok (.putfield 39, 3) := by decide +kernel
theorem dX4_readPlan_18 : decode cX4_readPlan 18 = .ok (.iconst 0, 1) := by decide +kernel
theorem dX4_readPlan_19 : decode cX4_readPlan 19 = .ok (.istore_n 1, 1) := by decide +kernel
theorem dX4_readPlan_20 : decode cX4_readPlan 20 = .ok (.iload_n 1, 1) := by decide +kernel
theorem dX4_readPlan_21 : decode cX4_readPlan 21 = .ok (.bipush 8, 2) := by decide +kernel
theorem dX4_readPlan_23 : decode cX4_readPlan 23 = .ok (.if_icmp .gt 121, 3) := by decide +kernel
theorem dX4_readPlan_26 : decode cX4_readPlan 26 = .ok (.aload_n 0, 1) := by decide +kernel
theorem dX4_readPlan_27 : decode cX4_readPlan 27 = .ok (.getfield 45, 3) := by decide +kernel
theorem dX4_readPlan_30 : decode cX4_readPlan 30 = .ok (.invokevirtual 52, 3) := by decide +kernel
theorem dX4_readPlan_33 : decode cX4_readPlan 33 = .ok (.aload_n 0, 1) := by decide +kernel
theorem dX4_readPlan_34 : decode cX4_readPlan 34 = .ok (.getfield 45, 3) := by decide +kernel
theorem dX4_readPlan_37 : decode cX4_readPlan 37 = .ok (.getfield 57, 3) := by decide +kernel
theorem dX4_readPlan_40 : decode cX4_readPlan 40 = .ok (.iconst 3, 1) := by decide +kernel
theorem dX4_readPlan_41 : decode cX4_readPlan 41 = .ok (.if_icmp .ne 5, 3) := by decide +kernel
theorem dX4_readPlan_44 : decode cX4_readPlan 44 = .ok (.iconst 1, 1) := by decide +kernel
theorem dX4_readPlan_45 : decode cX4_readPlan 45 = .ok (.ireturn, 1) := by decide +kernel
theorem dX4_readPlan_46 : decode cX4_readPlan 46 = .ok (.aload_n 0, 1) := by decide +kernel
theorem dX4_readPlan_47 : decode cX4_readPlan 47 = .ok (.iconst 2, 1) := by decide +kernel
theorem dX4_readPlan_48 : decode cX4_readPlan 48 = .ok (.invokevirtual 79, 3) := by decide +kernel
theorem dX4_readPlan_51 : decode cX4_readPlan 51 = .ok (.ifCond .ne 5, 3) := by decide +kernel
theorem dX4_readPlan_54 : decode cX4_readPlan 54 = .ok (.iconst 0, 1) := by decide +kernel
theorem dX4_readPlan_55 : decode cX4_readPlan 55 = .ok (.ireturn, 1) := by decide +kernel
theorem dX4_readPlan_56 : decode cX4_readPlan 56 = .ok (.aload_n 0, 1) := by decide +kernel
theorem dX4_readPlan_57 : decode cX4_readPlan 57 = .ok (.getfield 21, 3) := by decide +kernel
theorem dX4_readPlan_60 : decode cX4_readPlan 60 = .ok (.getfield 150, 3) := by decide +kernel
theorem dX4_readPlan_63 : decode cX4_readPlan 63 = .ok (.bipush 8, 2) := by decide +kernel
theorem dX4_readPlan_65 : decode cX4_readPlan 65 = .ok (.if_icmp .lt 9, 3) := by decide +kernel
theorem dX4_readPlan_68 : decode cX4_readPlan 68 = .ok (.aload_n 0, 1) := by decide +kernel
theorem dX4_readPlan_69 : decode cX4_readPlan 69 = .ok (.iconst 5, 1) := by decide +kernel
theorem dX4_readPlan_70 : decode cX4_readPlan 70 = .ok (.invokevirtual 67, 3) := by decide +kernel
theorem dX4_readPlan_73 : decode cX4_readPlan 73 = .ok (.ireturn, 1) := by decide +kernel
theorem dX4_readPlan_74 : decode cX4_readPlan 74 = .ok (.aload_n 0, 1) := by decide +kernel
theorem dX4_readPlan_75 : decode cX4_readPlan 75 = .ok (.getfield 45, 3) := by decide +kernel
theorem dX4_readPlan_78 : decode cX4_readPlan 78 = .ok (.getfield 82, 3) := by decide +kernel
theorem dX4_readPlan_81 : decode cX4_readPlan 81 = .ok (.istore_n 2, 1) := by decide +kernel
theorem dX4_readPlan_82 : decode cX4_readPlan 82 = .ok (.iload_n 2, 1) := by decide +kernel
theorem dX4_readPlan_83 : decode cX4_readPlan 83 = .ok (.bipush 6, 2) := by decide +kernel
theorem dX4_readPlan_85 : decode cX4_readPlan 85 = .ok (.if_icmp .lt 9, 3) := by decide +kernel
theorem dX4_readPlan_88 : decode cX4_readPlan 88 = .ok (.aload_n 0, 1) := by decide +kernel
theorem dX4_readPlan_89 : decode cX4_readPlan 89 = .ok (.iconst 3, 1) := by decide +kernel
theorem dX4_readPlan_90 : decode cX4_readPlan 90 = .ok (.invokevirtual 67, 3) := by decide +kernel
theorem dX4_readPlan_93 : decode cX4_readPlan 93 = .ok (.ireturn, 1) := by decide +kernel
theorem dX4_readPlan_94 : decode cX4_readPlan 94 = .ok (.aload_n 0, 1) := by decide +kernel
theorem dX4_readPlan_95 : decode cX4_readPlan 95 = .ok (.iconst 2, 1) := by decide +kernel
theorem dX4_readPlan_96 : decode cX4_readPlan 96 = .ok (.invokevirtual 118, 3) := by decide +kernel
theorem dX4_readPlan_99 : decode cX4_readPlan 99 = .ok (.ifCond .ne 5, 3) := by decide +kernel
theorem dX4_readPlan_102 : decode cX4_readPlan 102 = .ok (.iconst 0, 1) := by decide +kernel
theorem dX4_readPlan_103 : decode cX4_readPlan 103 = .ok (.ireturn, 1) := by decide +kernel
theorem dX4_readPlan_104 : decode cX4_readPlan 104 = .ok (.aload_n 0, 1) := by decide +kernel
theorem dX4_readPlan_105 : decode cX4_readPlan 105 = .ok (.getfield 45, 3) := by decide +kernel
theorem dX4_readPlan_108 : decode cX4_readPlan 108 = .ok (.getfield 82, 3) := by decide +kernel
theorem dX4_readPlan_111 : decode cX4_readPlan 111 = .ok (.invokestatic 153, 3) := by decide +kernel
theorem dX4_readPlan_114 : decode cX4_readPlan 114 = .ok (.ifCond .ne 9, 3) := by decide +kernel
theorem dX4_readPlan_117 : decode cX4_readPlan 117 = .ok (.aload_n 0, 1) := by decide +kernel
theorem dX4_readPlan_118 : decode cX4_readPlan 118 = .ok (.iconst 3, 1) := by decide +kernel
theorem dX4_readPlan_119 : decode cX4_readPlan 119 = .ok (.invokevirtual 67, 3) := by decide +kernel
theorem dX4_readPlan_122 : decode cX4_readPlan 122 = .ok (.ireturn, 1) := by decide +kernel
theorem dX4_readPlan_123 : decode cX4_readPlan 123 = .ok (.aload_n 0, 1) := by decide +kernel
theorem dX4_readPlan_124 : decode cX4_readPlan 124 = .ok (.getfield 21, 3) := by decide +kernel
theorem dX4_readPlan_127 : decode cX4_readPlan 127 = .ok (.iload_n 2, 1) := by decide +kernel
theorem dX4_readPlan_128 : decode cX4_readPlan 128 = .ok (.aload_n 0, 1) := by decide +kernel
theorem dX4_readPlan_129 : decode cX4_readPlan 129 = .ok (.getfield 45, 3) := by decide +kernel
theorem dX4_readPlan_132 : decode cX4_readPlan 132 = .ok (.getfield 82, 3) := by decide +kernel
theorem dX4_readPlan_135 : decode cX4_readPlan 135 = .ok (.invokevirtual 156, 3) := by decide +kernel
theorem dX4_readPlan_138 : decode cX4_readPlan 138 = .ok (.iinc 1 1, 3) := by decide +kernel
theorem dX4_readPlan_141 : decode cX4_readPlan 141 = .ok (.goto (-121), 3) := by decide +kernel
theorem dX4_readPlan_144 : decode cX4_readPlan 144 = .ok (.aload_n 0, 1) := by decide +kernel
theorem dX4_readPlan_145 : decode cX4_readPlan 145 = .ok (.iconst 5, 1) := by decide +kernel
theorem dX4_readPlan_146 : decode cX4_readPlan 146 = .ok (.invokevirtual 67, 3) := by decide +kernel
theorem dX4_readPlan_149 : decode cX4_readPlan 149 = .ok (.ireturn, 1) := by decide +kernel
theorem lk_X4_156 : LkV RX4 156 RX5 yX5_addAct cX5_addAct 3 none 2 := LkV.of 579 580 581 64 582 (by decide +kernel) (by decide +kernel) (by decide +kernel) (by decide +kernel) (by decide +kernel) (by decide +kernel)
theorem gf_X4_39 {ω : WD} {ρ : FR} {M : Mem} {cc : ByteArray} {d n pc : Nat} {lv : List (Nat × Value)} {rest : List Value} (C : Cx ω ρ cc RX4 d n) (hd : decode cc pc = .ok (.getfield 39, 3)) (k : G ω ρ M (pc + 3) lv (.int (rd M 52 7) :: rest)) : G ω ρ M pc lv (.ref (adr ω 52) :: rest) := G_get (N := 9) (T := TX4) (C := RX4) (q := 7) C (q52 : isK 4 52) (by decide) rfl in_X4 (by decide) (tb_of 307 ⟨by decide +kernel, rfl⟩) rfl rfl hd k
def w_X4_readPlan_L20 (post : Int32 → Mem → Prop) : Nat → Int32 → Mem → Prop
  | 0, _, _ => False
  | f + 1, l1, M => ((8 < l1 → w_X4_wrong 5 M (fun (r2 : Int32) (M1 : Mem) => zb r2 ∧ (post r2 M1))) ∧ (¬ 8 < l1 → w_X7_next M (fun (M3 : Mem) => ((¬ (rd M3 50 2) = 3 → w_X4_stands 2 M3 (fun (r5 : Int32) (M4 : Mem) => ((¬ r5 = 0 → (((rd M4 69 0) < 8 → ∀ v6 : Int32, v6 = (rd M4 50 5) → ((v6 < 6 → w_X4_takes 2 M4 (fun (r8 : Int32) (M7 : Mem) => ((¬ r8 = 0 → w_X9_isDialled (rd M7 50 5) M7 (fun (r10 : Int32) (M9 : Mem) => ((¬ r10 = 0 → w_X5_addAct 69 v6 (rd M9 50 5) M9 (fun (M11 : Mem) => ∀ v12 : Int32, v12 = (l1 + 1) → (w_X4_readPlan_L20 post f) v12 M11)) ∧ (r10 = 0 → w_X4_wrong 3 M9 (fun (r14 : Int32) (M13 : Mem) => zb r14 ∧ (post r14 M13)))))) ∧ (r8 = 0 → post 0 M7)))) ∧ (¬ v6 < 6 → w_X4_wrong 3 M4 (fun (r16 : Int32) (M15 : Mem) => zb r16 ∧ (post r16 M15))))) ∧ (¬ (rd M4 69 0) < 8 → w_X4_wrong 5 M4 (fun (r18 : Int32) (M17 : Mem) => zb r18 ∧ (post r18 M17))))) ∧ (r5 = 0 → post 0 M4)))) ∧ ((rd M3 50 2) = 3 → post 1 M3)))))
set_option maxRecDepth 100000 in
set_option maxHeartbeats 4000000 in
theorem s_X4_readPlan_L20 {ω : WD} {ρ : FR} {post : Int32 → Mem → Prop} (C : Cx ω ρ cX4_readPlan RX4 3 3) (R : RtI ω ρ cX4_readPlan .boolean post) : ∀ (f : Nat) (l1 : Int32) (M : Mem), w_X4_readPlan_L20 post f l1 M → G ω ρ M 20 [(0, .ref (adr ω 52)), (1, .int l1)] [] := by
  intro f
  induction f with
  | zero => intro l1 M h; exact False.elim h
  | succ f k20 =>
    intro l1 M h
    refine G_iload_n C dX4_readPlan_20 1 rfl ?_
    refine G_bipush (v := 8) C dX4_readPlan_21 (by decide) ?_
    obtain ⟨h1, h2⟩ := h
    refine G_icmp_gt (tgt := 144) C dX4_readPlan_23 (by decide) (fun c => ?_) (fun c => ?_)
    · have h := h1 c
      clear h1 h2
      refine G_aload_n C dX4_readPlan_144 0 rfl ?_
      refine G_iconst (v := 5) C dX4_readPlan_145 (by decide) ?_
      refine G_callI (As := [.int 5]) (rest := []) C dX4_readPlan_146 lk_X4_67 (Nat.le_of_ble_eq_true rfl) (Nat.le_of_ble_eq_true rfl) q52 (by decide) rfl (Nat.le_of_ble_eq_true rfl) rfl (S_X4_wrong h) (fun r2 M1 h => ?_)
      exact R 149 _ _ _ dX4_readPlan_149 h.1.1 h.2
    · have h := h2 c
      clear h1 h2
      refine G_aload_n C dX4_readPlan_26 0 rfl ?_
      refine gf_X4_45 C dX4_readPlan_27 ?_
      refine G_callV (As := []) (rest := []) C dX4_readPlan_30 lk_X4_52 (Nat.le_of_ble_eq_true rfl) (Nat.le_of_ble_eq_true rfl) q50 (by decide) rfl (Nat.le_of_ble_eq_true rfl) rfl (S_X7_next h) (fun M3 h => ?_)
      refine G_aload_n C dX4_readPlan_33 0 rfl ?_
      refine gf_X4_45 C dX4_readPlan_34 ?_
      refine gf_X4_57 C dX4_readPlan_37 ?_
      refine G_iconst (v := 3) C dX4_readPlan_40 (by decide) ?_
      obtain ⟨h1, h2⟩ := h
      refine G_icmp_ne (tgt := 46) C dX4_readPlan_41 (by decide) (fun c => ?_) (fun c => ?_)
      · have h := h1 c
        clear h1 h2
        refine G_aload_n C dX4_readPlan_46 0 rfl ?_
        refine G_iconst (v := 2) C dX4_readPlan_47 (by decide) ?_
        refine G_callI (As := [.int 2]) (rest := []) C dX4_readPlan_48 lk_X4_79 (Nat.le_of_ble_eq_true rfl) (Nat.le_of_ble_eq_true rfl) q52 (by decide) rfl (Nat.le_of_ble_eq_true rfl) rfl (S_X4_stands h) (fun r5 M4 h => ?_)
        obtain ⟨h1, h2⟩ := h
        refine G_if_ne (tgt := 56) C dX4_readPlan_51 (by decide) (fun c => ?_) (fun c => ?_)
        · have h := h1 c
          clear h1 h2
          refine G_aload_n C dX4_readPlan_56 0 rfl ?_
          refine gf_X4_21 C dX4_readPlan_57 ?_
          refine gf_X4_150 C q69 dX4_readPlan_60 ?_
          refine G_bipush (v := 8) C dX4_readPlan_63 (by decide) ?_
          obtain ⟨h1, h2⟩ := h
          refine G_icmp_lt (tgt := 74) C dX4_readPlan_65 (by decide) (fun c => ?_) (fun c => ?_)
          · have h := h1 c
            clear h1 h2
            refine G_aload_n C dX4_readPlan_74 0 rfl ?_
            refine gf_X4_45 C dX4_readPlan_75 ?_
            refine gf_X4_82 C dX4_readPlan_78 ?_
            refine G_iname (fun v6 ev6 => ?_)
            replace h := h v6 ev6
            refine G_istore_n C dX4_readPlan_81 (by decide) (lv' := [(2, .int v6), (0, .ref (adr ω 52)), (1, .int l1)]) rfl ?_
            refine G_iload_n C dX4_readPlan_82 0 rfl ?_
            refine G_bipush (v := 6) C dX4_readPlan_83 (by decide) ?_
            obtain ⟨h1, h2⟩ := h
            refine G_icmp_lt (tgt := 94) C dX4_readPlan_85 (by decide) (fun c => ?_) (fun c => ?_)
            · have h := h1 c
              clear h1 h2
              refine G_aload_n C dX4_readPlan_94 1 rfl ?_
              refine G_iconst (v := 2) C dX4_readPlan_95 (by decide) ?_
              refine G_callI (As := [.int 2]) (rest := []) C dX4_readPlan_96 lk_X4_118 (Nat.le_of_ble_eq_true rfl) (Nat.le_of_ble_eq_true rfl) q52 (by decide) rfl (Nat.le_of_ble_eq_true rfl) rfl (S_X4_takes h) (fun r8 M7 h => ?_)
              obtain ⟨h1, h2⟩ := h
              refine G_if_ne (tgt := 104) C dX4_readPlan_99 (by decide) (fun c => ?_) (fun c => ?_)
              · have h := h1 c
                clear h1 h2
                refine G_aload_n C dX4_readPlan_104 1 rfl ?_
                refine gf_X4_45 C dX4_readPlan_105 ?_
                refine gf_X4_82 C dX4_readPlan_108 ?_
                refine G_nscallI (host := "StepCalls") (kn := 1) C dX4_readPlan_111 (va_Nw.of rfl C.2.2.2.2.2.2.2.2.2.1.2.1) 576 61 577 (by decide +kernel) (by decide +kernel) (by decide +kernel) (by decide +kernel) (As := [.int (rd M7 50 5)]) (rest := []) rfl (Nat.le_of_ble_eq_true rfl) (Nat.le_of_ble_eq_true rfl) (Nat.le_of_ble_eq_true rfl) rfl (S_X9_isDialled h) (fun r10 M9 h => ?_)
                obtain ⟨h1, h2⟩ := h
                refine G_if_ne (tgt := 123) C dX4_readPlan_114 (by decide) (fun c => ?_) (fun c => ?_)
                · have h := h1 c
                  clear h1 h2
                  refine G_aload_n C dX4_readPlan_123 1 rfl ?_
                  refine gf_X4_21 C dX4_readPlan_124 ?_
                  refine G_iload_n C dX4_readPlan_127 0 rfl ?_
                  refine G_aload_n C dX4_readPlan_128 1 rfl ?_
                  refine gf_X4_45 C dX4_readPlan_129 ?_
                  refine gf_X4_82 C dX4_readPlan_132 ?_
                  refine G_callV (As := [.int v6, .int (rd M9 50 5)]) (rest := []) C dX4_readPlan_135 lk_X4_156 (Nat.le_of_ble_eq_true rfl) (Nat.le_of_ble_eq_true rfl) q69 (by decide) rfl (Nat.le_of_ble_eq_true rfl) rfl (S_X5_addAct q69 h) (fun M11 h => ?_)
                  obtain ⟨v12, ev12⟩ : ∃ y : Int32, y = (l1 + 1) := ⟨_, rfl⟩
                  replace h := h v12 ev12
                  refine G_iinc C dX4_readPlan_138 2 rfl (v := v12) (by rw [ev12]; rfl) (by decide) (lv' := [(1, .int v12), (2, .int v6), (0, .ref (adr ω 52))]) rfl ?_
                  refine G_goto (tgt := 20) C dX4_readPlan_141 (by decide) ?_
                  refine G_sub [2, 0] (lv' := [(0, .ref (adr ω 52)), (1, .int v12)]) rfl ?_
                  exact k20 _ _ h
                · have h := h2 c
                  clear h1 h2
                  refine G_aload_n C dX4_readPlan_117 1 rfl ?_
                  refine G_iconst (v := 3) C dX4_readPlan_118 (by decide) ?_
                  refine G_callI (As := [.int 3]) (rest := []) C dX4_readPlan_119 lk_X4_67 (Nat.le_of_ble_eq_true rfl) (Nat.le_of_ble_eq_true rfl) q52 (by decide) rfl (Nat.le_of_ble_eq_true rfl) rfl (S_X4_wrong h) (fun r14 M13 h => ?_)
                  exact R 122 _ _ _ dX4_readPlan_122 h.1.1 h.2
              · have h := h2 c
                clear h1 h2
                refine G_iconst (v := 0) C dX4_readPlan_102 (by decide) ?_
                exact R 103 _ _ _ dX4_readPlan_103 rfl h
            · have h := h2 c
              clear h1 h2
              refine G_aload_n C dX4_readPlan_88 1 rfl ?_
              refine G_iconst (v := 3) C dX4_readPlan_89 (by decide) ?_
              refine G_callI (As := [.int 3]) (rest := []) C dX4_readPlan_90 lk_X4_67 (Nat.le_of_ble_eq_true rfl) (Nat.le_of_ble_eq_true rfl) q52 (by decide) rfl (Nat.le_of_ble_eq_true rfl) rfl (S_X4_wrong h) (fun r16 M15 h => ?_)
              exact R 93 _ _ _ dX4_readPlan_93 h.1.1 h.2
          · have h := h2 c
            clear h1 h2
            refine G_aload_n C dX4_readPlan_68 0 rfl ?_
            refine G_iconst (v := 5) C dX4_readPlan_69 (by decide) ?_
            refine G_callI (As := [.int 5]) (rest := []) C dX4_readPlan_70 lk_X4_67 (Nat.le_of_ble_eq_true rfl) (Nat.le_of_ble_eq_true rfl) q52 (by decide) rfl (Nat.le_of_ble_eq_true rfl) rfl (S_X4_wrong h) (fun r18 M17 h => ?_)
            exact R 73 _ _ _ dX4_readPlan_73 h.1.1 h.2
        · have h := h2 c
          clear h1 h2
          refine G_iconst (v := 0) C dX4_readPlan_54 (by decide) ?_
          exact R 55 _ _ _ dX4_readPlan_55 rfl h
      · have h := h2 c
        clear h1 h2
        refine G_iconst (v := 1) C dX4_readPlan_44 (by decide) ?_
        exact R 45 _ _ _ dX4_readPlan_45 rfl h
def w_X4_readPlan (M : Mem) (post : Int32 → Mem → Prop) : Prop := (((rd M 52 7) = 0 → ∀ M19 : Mem, M19 = wr M 52 7 1 → ∃ g20 : Nat, w_X4_readPlan_L20 post g20 0 M19) ∧ (¬ (rd M 52 7) = 0 → w_X4_wrong 4 M (fun (r21 : Int32) (M20 : Mem) => zb r21 ∧ (post r21 M20))))
set_option maxRecDepth 100000 in
set_option maxHeartbeats 4000000 in
theorem S_X4_readPlan {ω : WD} {M : Mem} {post : Int32 → Mem → Prop} (h : w_X4_readPlan M post) : MtI ω yX4_readPlan cX4_readPlan 3 (some .boolean) 3 [.ref (adr ω 52)] M post := by
  refine MtI.start (ty := .boolean) rfl (by decide +kernel) (own := RX4) rfl (Nat.le_of_ble_eq_true rfl) (fun ρ C R => ?_)
  show G ω ρ M 0 [(0, .ref (adr ω 52))] []
  refine G_aload_n C dX4_readPlan_0 0 rfl ?_
  refine gf_X4_39 C dX4_readPlan_1 ?_
  obtain ⟨h1, h2⟩ := h
  refine G_if_eq (tgt := 13) C dX4_readPlan_4 (by decide) (fun c => ?_) (fun c => ?_)
  · have h := h1 c
    clear h1 h2
    refine G_aload_n C dX4_readPlan_13 0 rfl ?_
    refine G_iconst (v := 1) C dX4_readPlan_14 (by decide) ?_
    refine pf_X4_39 C zb_1 dX4_readPlan_15 (fun M19 eM19 => ?_)
    replace h := h M19 eM19
    refine G_iconst (v := 0) C dX4_readPlan_18 (by decide) ?_
    refine G_istore_n C dX4_readPlan_19 (by decide) (lv' := [(1, .int 0), (0, .ref (adr ω 52))]) rfl ?_
    refine G_sub [1, 0] (lv' := [(0, .ref (adr ω 52)), (1, .int 0)]) rfl ?_
    obtain ⟨f, h⟩ := h
    exact s_X4_readPlan_L20 C R  f _ _ h
  · have h := h2 c
    clear h1 h2
    refine G_aload_n C dX4_readPlan_7 0 rfl ?_
    refine G_iconst (v := 4) C dX4_readPlan_8 (by decide) ?_
    refine G_callI (As := [.int 4]) (rest := []) C dX4_readPlan_9 lk_X4_67 (Nat.le_of_ble_eq_true rfl) (Nat.le_of_ble_eq_true rfl) q52 (by decide) rfl (Nat.le_of_ble_eq_true rfl) rfl (S_X4_wrong h) (fun r21 M20 h => ?_)
    exact R 12 _ _ _ dX4_readPlan_12 h.1.1 h.2
theorem dX4_readLine_0 : decode cX4_readLine 0 = .ok (.aload_n 0, 1) := by decide +kernel
theorem dX4_readLine_1 : decode cX4_readLine 1 = .ok (.iconst 1, 1) := by decide +kernel
theorem dX4_readLine_2 : decode cX4_readLine 2 = .ok (.invokevirtual 79, 3) := by decide +kernel
theorem dX4_readLine_5 : decode cX4_readLine 5 = .ok (.ifCond .ne 5, 3) := by decide +kernel
theorem dX4_readLine_8 : decode cX4_readLine 8 = .ok (.iconst 0, 1) := by decide +kernel
theorem dX4_readLine_9 : decode cX4_readLine 9 = .ok (.ireturn, 1) := by decide +kernel
theorem dX4_readLine_10 : decode cX4_readLine 10 = .ok (.aload_n 0, 1) := by decide +kernel
theorem dX4_readLine_11 : decode cX4_readLine 11 = .ok (.getfield 45, 3) := by decide +kernel
theorem dX4_readLine_14 : decode cX4_readLine 14 = .ok (.ldc 85, 2) := by decide +kernel
theorem dX4_readLine_16 : decode cX4_readLine 16 = .ok (.invokevirtual 87, 3) := by decide +kernel
theorem dX4_readLine_19 : decode cX4_readLine 19 = .ok (.ifCond .eq 8, 3) := by decide +kernel
theorem dX4_readLine_22 : decode cX4_readLine 22 = .ok (.aload_n 0, 1) := by decide +kernel
theorem dX4_readLine_23 : decode cX4_readLine 23 = .ok (.invokevirtual 91, 3) := by decide +kernel
theorem dX4_readLine_26 : decode cX4_readLine 26 = .ok (.ireturn, 1) := by decide +kernel
theorem dX4_readLine_27 : decode cX4_readLine 27 = .ok (.aload_n 0, 1) := by decide +kernel
theorem dX4_readLine_28 : decode cX4_readLine 28 = .ok (.getfield 45, 3) := by decide +kernel
theorem dX4_readLine_31 : decode cX4_readLine 31 = .ok (.ldc 94, 2) := by decide +kernel
theorem dX4_readLine_33 : decode cX4_readLine 33 = .ok (.invokevirtual 87, 3) := by decide +kernel
theorem dX4_readLine_36 : decode cX4_readLine 36 = .ok (.ifCond .eq 8, 3) := by decide +kernel
theorem dX4_readLine_39 : decode cX4_readLine 39 = .ok (.aload_n 0, 1) := by decide +kernel
theorem dX4_readLine_40 : decode cX4_readLine 40 = .ok (.invokevirtual 96, 3) := by decide +kernel
theorem dX4_readLine_43 : decode cX4_readLine 43 = .ok (.ireturn, 1) := by decide +kernel
theorem dX4_readLine_44 : decode cX4_readLine 44 = .ok (.aload_n 0, 1) := by decide +kernel
theorem dX4_readLine_45 : decode cX4_readLine 45 = .ok (.getfield 45, 3) := by decide +kernel
theorem dX4_readLine_48 : decode cX4_readLine 48 = .ok (.ldc 99, 2) := by decide +kernel
theorem dX4_readLine_50 : decode cX4_readLine 50 = .ok (.invokevirtual 87, 3) := by decide +kernel
theorem dX4_readLine_53 : decode cX4_readLine 53 = .ok (.ifCond .eq 9, 3) := by decide +kernel
theorem dX4_readLine_56 : decode cX4_readLine 56 = .ok (.aload_n 0, 1) := by decide +kernel
theorem dX4_readLine_57 : decode cX4_readLine 57 = .ok (.iconst 0, 1) := by decide +kernel
theorem dX4_readLine_58 : decode cX4_readLine 58 = .ok (.invokevirtual 101, 3) := by decide +kernel
theorem dX4_readLine_61 : decode cX4_readLine 61 = .ok (.ireturn, 1) := by decide +kernel
theorem dX4_readLine_62 : decode cX4_readLine 62 = .ok (.aload_n 0, 1) := by decide +kernel
theorem dX4_readLine_63 : decode cX4_readLine 63 = .ok (.getfield 45, 3) := by decide +kernel
theorem dX4_readLine_66 : decode cX4_readLine 66 = .ok (.ldc 104, 2) := by decide +kernel
theorem dX4_readLine_68 : decode cX4_readLine 68 = .ok (.invokevirtual 87, 3) := by decide +kernel
theorem dX4_readLine_71 : decode cX4_readLine 71 = .ok (.ifCond .eq 9, 3) := by decide +kernel
theorem dX4_readLine_74 : decode cX4_readLine 74 = .ok (.aload_n 0, 1) := by decide +kernel
theorem dX4_readLine_75 : decode cX4_readLine 75 = .ok (.iconst 1, 1) := by decide +kernel
theorem dX4_readLine_76 : decode cX4_readLine 76 = .ok (.invokevirtual 101, 3) := by decide +kernel
theorem dX4_readLine_79 : decode cX4_readLine 79 = .ok (.ireturn, 1) := by decide +kernel
theorem dX4_readLine_80 : decode cX4_readLine 80 = .ok (.aload_n 0, 1) := by decide +kernel
theorem dX4_readLine_81 : decode cX4_readLine 81 = .ok (.getfield 45, 3) := by decide +kernel
theorem dX4_readLine_84 : decode cX4_readLine 84 = .ok (.ldc 106, 2) := by decide +kernel
theorem dX4_readLine_86 : decode cX4_readLine 86 = .ok (.invokevirtual 87, 3) := by decide +kernel
theorem dX4_readLine_89 : decode cX4_readLine 89 = .ok (.ifCond .eq 9, 3) := by decide +kernel
theorem dX4_readLine_92 : decode cX4_readLine 92 = .ok (.aload_n 0, 1) := by decide +kernel
theorem dX4_readLine_93 : decode cX4_readLine 93 = .ok (.iconst 2, 1) := by decide +kernel
theorem dX4_readLine_94 : decode cX4_readLine 94 = .ok (.invokevirtual 101, 3) := by decide +kernel
theorem dX4_readLine_97 : decode cX4_readLine 97 = .ok (.ireturn, 1) := by decide +kernel
theorem dX4_readLine_98 : decode cX4_readLine 98 = .ok (.aload_n 0, 1) := by decide +kernel
theorem dX4_readLine_99 : decode cX4_readLine 99 = .ok (.getfield 45, 3) := by decide +kernel
theorem dX4_readLine_102 : decode cX4_readLine 102 = .ok (.ldc 108, 2) := by decide +kernel
theorem dX4_readLine_104 : decode cX4_readLine 104 = .ok (.invokevirtual 87, 3) := by decide +kernel
theorem dX4_readLine_107 : decode cX4_readLine 107 = .ok (.ifCond .eq 9, 3) := by decide +kernel
theorem dX4_readLine_110 : decode cX4_readLine 110 = .ok (.aload_n 0, 1) := by decide +kernel
theorem dX4_readLine_111 : decode cX4_readLine 111 = .ok (.iconst 3, 1) := by decide +kernel
theorem dX4_readLine_112 : decode cX4_readLine 112 = .ok (.invokevirtual 101, 3) := by decide +kernel
theorem dX4_readLine_115 : decode cX4_readLine 115 = .ok (.ireturn, 1) := by decide +kernel
theorem dX4_readLine_116 : decode cX4_readLine 116 = .ok (.aload_n 0, 1) := by decide +kernel
theorem dX4_readLine_117 : decode cX4_readLine 117 = .ok (.getfield 45, 3) := by decide +kernel
theorem dX4_readLine_120 : decode cX4_readLine 120 = .ok (.ldc 110, 2) := by decide +kernel
theorem dX4_readLine_122 : decode cX4_readLine 122 = .ok (.invokevirtual 87, 3) := by decide +kernel
theorem dX4_readLine_125 : decode cX4_readLine 125 = .ok (.ifCond .eq 8, 3) := by decide +kernel
theorem dX4_readLine_128 : decode cX4_readLine 128 = .ok (.aload_n 0, 1) := by decide +kernel
theorem dX4_readLine_129 : decode cX4_readLine 129 = .ok (.invokevirtual 112, 3) := by decide +kernel
theorem dX4_readLine_132 : decode cX4_readLine 132 = .ok (.ireturn, 1) := by decide +kernel
theorem dX4_readLine_133 : decode cX4_readLine 133 = .ok (.aload_n 0, 1) := by decide +kernel
theorem dX4_readLine_134 : decode cX4_readLine 134 = .ok (.iconst 2, 1) := by decide +kernel
theorem dX4_readLine_135 : decode cX4_readLine 135 = .ok (.invokevirtual 67, 3) := by decide +kernel
theorem dX4_readLine_138 : decode cX4_readLine 138 = .ok (.ireturn, 1) := by decide +kernel
theorem lk_X4_87 : LkV RX4 87 RX7 yX7_spells cX7_spells 3 (some .boolean) 1 := LkV.of 474 475 476 67 477 (by decide +kernel) (by decide +kernel) (by decide +kernel) (by decide +kernel) (by decide +kernel) (by decide +kernel)
theorem lk_X4_112 : LkV RX4 112 RX4 yX4_readPlan cX4_readPlan 3 (some .boolean) 0 := LkV.of 571 572 573 68 574 (by decide +kernel) (by decide +kernel) (by decide +kernel) (by decide +kernel) (by decide +kernel) (by decide +kernel)
theorem lk_X4_101 : LkV RX4 101 RX4 yX4_readGroup cX4_readGroup 3 (some .boolean) 1 := LkV.of 559 560 561 68 562 (by decide +kernel) (by decide +kernel) (by decide +kernel) (by decide +kernel) (by decide +kernel) (by decide +kernel)
theorem lk_X4_96 : LkV RX4 96 RX4 yX4_readFinders cX4_readFinders 1 (some .boolean) 0 := LkV.of 550 551 552 68 553 (by decide +kernel) (by decide +kernel) (by decide +kernel) (by decide +kernel) (by decide +kernel) (by decide +kernel)
theorem lk_X4_91 : LkV RX4 91 RX4 yX4_readOne cX4_readOne 1 (some .boolean) 0 := LkV.of 526 527 528 68 529 (by decide +kernel) (by decide +kernel) (by decide +kernel) (by decide +kernel) (by decide +kernel) (by decide +kernel)
def w_X4_readLine (M : Mem) (post : Int32 → Mem → Prop) : Prop := w_X4_stands 1 M (fun (r2 : Int32) (M1 : Mem) => ((¬ r2 = 0 → w_X7_spells 0 M1 (fun (r4 : Int32) (M3 : Mem) => ((r4 = 0 → w_X7_spells 1 M3 (fun (r6 : Int32) (M5 : Mem) => ((r6 = 0 → w_X7_spells 2 M5 (fun (r8 : Int32) (M7 : Mem) => ((r8 = 0 → w_X7_spells 3 M7 (fun (r10 : Int32) (M9 : Mem) => ((r10 = 0 → w_X7_spells 4 M9 (fun (r12 : Int32) (M11 : Mem) => ((r12 = 0 → w_X7_spells 5 M11 (fun (r14 : Int32) (M13 : Mem) => ((r14 = 0 → w_X7_spells 6 M13 (fun (r16 : Int32) (M15 : Mem) => ((r16 = 0 → w_X4_wrong 2 M15 (fun (r18 : Int32) (M17 : Mem) => zb r18 ∧ (post r18 M17))) ∧ (¬ r16 = 0 → w_X4_readPlan M15 (fun (r20 : Int32) (M19 : Mem) => zb r20 ∧ (post r20 M19)))))) ∧ (¬ r14 = 0 → w_X4_readGroup 3 M13 (fun (r22 : Int32) (M21 : Mem) => zb r22 ∧ (post r22 M21)))))) ∧ (¬ r12 = 0 → w_X4_readGroup 2 M11 (fun (r24 : Int32) (M23 : Mem) => zb r24 ∧ (post r24 M23)))))) ∧ (¬ r10 = 0 → w_X4_readGroup 1 M9 (fun (r26 : Int32) (M25 : Mem) => zb r26 ∧ (post r26 M25)))))) ∧ (¬ r8 = 0 → w_X4_readGroup 0 M7 (fun (r28 : Int32) (M27 : Mem) => zb r28 ∧ (post r28 M27)))))) ∧ (¬ r6 = 0 → w_X4_readFinders M5 (fun (r30 : Int32) (M29 : Mem) => zb r30 ∧ (post r30 M29)))))) ∧ (¬ r4 = 0 → w_X4_readOne M3 (fun (r32 : Int32) (M31 : Mem) => zb r32 ∧ (post r32 M31)))))) ∧ (r2 = 0 → post 0 M1)))
set_option maxRecDepth 100000 in
set_option maxHeartbeats 4000000 in
theorem S_X4_readLine {ω : WD} {M : Mem} {post : Int32 → Mem → Prop} (h : w_X4_readLine M post) : MtI ω yX4_readLine cX4_readLine 1 (some .boolean) 5 [.ref (adr ω 52)] M post := by
  refine MtI.start (ty := .boolean) rfl (by decide +kernel) (own := RX4) rfl (Nat.le_of_ble_eq_true rfl) (fun ρ C R => ?_)
  show G ω ρ M 0 [(0, .ref (adr ω 52))] []
  refine G_aload_n C dX4_readLine_0 0 rfl ?_
  refine G_iconst (v := 1) C dX4_readLine_1 (by decide) ?_
  refine G_callI (As := [.int 1]) (rest := []) C dX4_readLine_2 lk_X4_79 (Nat.le_of_ble_eq_true rfl) (Nat.le_of_ble_eq_true rfl) q52 (by decide) rfl (Nat.le_of_ble_eq_true rfl) rfl (S_X4_stands h) (fun r2 M1 h => ?_)
  obtain ⟨h1, h2⟩ := h
  refine G_if_ne (tgt := 10) C dX4_readLine_5 (by decide) (fun c => ?_) (fun c => ?_)
  · have h := h1 c
    clear h1 h2
    refine G_aload_n C dX4_readLine_10 0 rfl ?_
    refine gf_X4_45 C dX4_readLine_11 ?_
    refine G_ldcS (j := 0) C rfl dX4_readLine_14 (by decide) rfl ?_
    refine G_callI (As := [.ref (ω.2.2.2.2.1 0)]) (rest := []) C dX4_readLine_16 lk_X4_87 (Nat.le_of_ble_eq_true rfl) (Nat.le_of_ble_eq_true rfl) q50 (by decide) rfl (Nat.le_of_ble_eq_true rfl) rfl (S_X7_spells (by decide) h) (fun r4 M3 h => ?_)
    obtain ⟨h1, h2⟩ := h
    refine G_if_eq (tgt := 27) C dX4_readLine_19 (by decide) (fun c => ?_) (fun c => ?_)
    · have h := h1 c
      clear h1 h2
      refine G_aload_n C dX4_readLine_27 0 rfl ?_
      refine gf_X4_45 C dX4_readLine_28 ?_
      refine G_ldcS (j := 1) C rfl dX4_readLine_31 (by decide) rfl ?_
      refine G_callI (As := [.ref (ω.2.2.2.2.1 1)]) (rest := []) C dX4_readLine_33 lk_X4_87 (Nat.le_of_ble_eq_true rfl) (Nat.le_of_ble_eq_true rfl) q50 (by decide) rfl (Nat.le_of_ble_eq_true rfl) rfl (S_X7_spells (by decide) h) (fun r6 M5 h => ?_)
      obtain ⟨h1, h2⟩ := h
      refine G_if_eq (tgt := 44) C dX4_readLine_36 (by decide) (fun c => ?_) (fun c => ?_)
      · have h := h1 c
        clear h1 h2
        refine G_aload_n C dX4_readLine_44 0 rfl ?_
        refine gf_X4_45 C dX4_readLine_45 ?_
        refine G_ldcS (j := 2) C rfl dX4_readLine_48 (by decide) rfl ?_
        refine G_callI (As := [.ref (ω.2.2.2.2.1 2)]) (rest := []) C dX4_readLine_50 lk_X4_87 (Nat.le_of_ble_eq_true rfl) (Nat.le_of_ble_eq_true rfl) q50 (by decide) rfl (Nat.le_of_ble_eq_true rfl) rfl (S_X7_spells (by decide) h) (fun r8 M7 h => ?_)
        obtain ⟨h1, h2⟩ := h
        refine G_if_eq (tgt := 62) C dX4_readLine_53 (by decide) (fun c => ?_) (fun c => ?_)
        · have h := h1 c
          clear h1 h2
          refine G_aload_n C dX4_readLine_62 0 rfl ?_
          refine gf_X4_45 C dX4_readLine_63 ?_
          refine G_ldcS (j := 3) C rfl dX4_readLine_66 (by decide) rfl ?_
          refine G_callI (As := [.ref (ω.2.2.2.2.1 3)]) (rest := []) C dX4_readLine_68 lk_X4_87 (Nat.le_of_ble_eq_true rfl) (Nat.le_of_ble_eq_true rfl) q50 (by decide) rfl (Nat.le_of_ble_eq_true rfl) rfl (S_X7_spells (by decide) h) (fun r10 M9 h => ?_)
          obtain ⟨h1, h2⟩ := h
          refine G_if_eq (tgt := 80) C dX4_readLine_71 (by decide) (fun c => ?_) (fun c => ?_)
          · have h := h1 c
            clear h1 h2
            refine G_aload_n C dX4_readLine_80 0 rfl ?_
            refine gf_X4_45 C dX4_readLine_81 ?_
            refine G_ldcS (j := 4) C rfl dX4_readLine_84 (by decide) rfl ?_
            refine G_callI (As := [.ref (ω.2.2.2.2.1 4)]) (rest := []) C dX4_readLine_86 lk_X4_87 (Nat.le_of_ble_eq_true rfl) (Nat.le_of_ble_eq_true rfl) q50 (by decide) rfl (Nat.le_of_ble_eq_true rfl) rfl (S_X7_spells (by decide) h) (fun r12 M11 h => ?_)
            obtain ⟨h1, h2⟩ := h
            refine G_if_eq (tgt := 98) C dX4_readLine_89 (by decide) (fun c => ?_) (fun c => ?_)
            · have h := h1 c
              clear h1 h2
              refine G_aload_n C dX4_readLine_98 0 rfl ?_
              refine gf_X4_45 C dX4_readLine_99 ?_
              refine G_ldcS (j := 5) C rfl dX4_readLine_102 (by decide) rfl ?_
              refine G_callI (As := [.ref (ω.2.2.2.2.1 5)]) (rest := []) C dX4_readLine_104 lk_X4_87 (Nat.le_of_ble_eq_true rfl) (Nat.le_of_ble_eq_true rfl) q50 (by decide) rfl (Nat.le_of_ble_eq_true rfl) rfl (S_X7_spells (by decide) h) (fun r14 M13 h => ?_)
              obtain ⟨h1, h2⟩ := h
              refine G_if_eq (tgt := 116) C dX4_readLine_107 (by decide) (fun c => ?_) (fun c => ?_)
              · have h := h1 c
                clear h1 h2
                refine G_aload_n C dX4_readLine_116 0 rfl ?_
                refine gf_X4_45 C dX4_readLine_117 ?_
                refine G_ldcS (j := 6) C rfl dX4_readLine_120 (by decide) rfl ?_
                refine G_callI (As := [.ref (ω.2.2.2.2.1 6)]) (rest := []) C dX4_readLine_122 lk_X4_87 (Nat.le_of_ble_eq_true rfl) (Nat.le_of_ble_eq_true rfl) q50 (by decide) rfl (Nat.le_of_ble_eq_true rfl) rfl (S_X7_spells (by decide) h) (fun r16 M15 h => ?_)
                obtain ⟨h1, h2⟩ := h
                refine G_if_eq (tgt := 133) C dX4_readLine_125 (by decide) (fun c => ?_) (fun c => ?_)
                · have h := h1 c
                  clear h1 h2
                  refine G_aload_n C dX4_readLine_133 0 rfl ?_
                  refine G_iconst (v := 2) C dX4_readLine_134 (by decide) ?_
                  refine G_callI (As := [.int 2]) (rest := []) C dX4_readLine_135 lk_X4_67 (Nat.le_of_ble_eq_true rfl) (Nat.le_of_ble_eq_true rfl) q52 (by decide) rfl (Nat.le_of_ble_eq_true rfl) rfl (S_X4_wrong h) (fun r18 M17 h => ?_)
                  exact R 138 _ _ _ dX4_readLine_138 h.1.1 h.2
                · have h := h2 c
                  clear h1 h2
                  refine G_aload_n C dX4_readLine_128 0 rfl ?_
                  refine G_callI (As := []) (rest := []) C dX4_readLine_129 lk_X4_112 (Nat.le_of_ble_eq_true rfl) (Nat.le_of_ble_eq_true rfl) q52 (by decide) rfl (Nat.le_of_ble_eq_true rfl) rfl (S_X4_readPlan h) (fun r20 M19 h => ?_)
                  exact R 132 _ _ _ dX4_readLine_132 h.1.1 h.2
              · have h := h2 c
                clear h1 h2
                refine G_aload_n C dX4_readLine_110 0 rfl ?_
                refine G_iconst (v := 3) C dX4_readLine_111 (by decide) ?_
                refine G_callI (As := [.int 3]) (rest := []) C dX4_readLine_112 lk_X4_101 (Nat.le_of_ble_eq_true rfl) (Nat.le_of_ble_eq_true rfl) q52 (by decide) rfl (Nat.le_of_ble_eq_true rfl) rfl (S_X4_readGroup h) (fun r22 M21 h => ?_)
                exact R 115 _ _ _ dX4_readLine_115 h.1.1 h.2
            · have h := h2 c
              clear h1 h2
              refine G_aload_n C dX4_readLine_92 0 rfl ?_
              refine G_iconst (v := 2) C dX4_readLine_93 (by decide) ?_
              refine G_callI (As := [.int 2]) (rest := []) C dX4_readLine_94 lk_X4_101 (Nat.le_of_ble_eq_true rfl) (Nat.le_of_ble_eq_true rfl) q52 (by decide) rfl (Nat.le_of_ble_eq_true rfl) rfl (S_X4_readGroup h) (fun r24 M23 h => ?_)
              exact R 97 _ _ _ dX4_readLine_97 h.1.1 h.2
          · have h := h2 c
            clear h1 h2
            refine G_aload_n C dX4_readLine_74 0 rfl ?_
            refine G_iconst (v := 1) C dX4_readLine_75 (by decide) ?_
            refine G_callI (As := [.int 1]) (rest := []) C dX4_readLine_76 lk_X4_101 (Nat.le_of_ble_eq_true rfl) (Nat.le_of_ble_eq_true rfl) q52 (by decide) rfl (Nat.le_of_ble_eq_true rfl) rfl (S_X4_readGroup h) (fun r26 M25 h => ?_)
            exact R 79 _ _ _ dX4_readLine_79 h.1.1 h.2
        · have h := h2 c
          clear h1 h2
          refine G_aload_n C dX4_readLine_56 0 rfl ?_
          refine G_iconst (v := 0) C dX4_readLine_57 (by decide) ?_
          refine G_callI (As := [.int 0]) (rest := []) C dX4_readLine_58 lk_X4_101 (Nat.le_of_ble_eq_true rfl) (Nat.le_of_ble_eq_true rfl) q52 (by decide) rfl (Nat.le_of_ble_eq_true rfl) rfl (S_X4_readGroup h) (fun r28 M27 h => ?_)
          exact R 61 _ _ _ dX4_readLine_61 h.1.1 h.2
      · have h := h2 c
        clear h1 h2
        refine G_aload_n C dX4_readLine_39 0 rfl ?_
        refine G_callI (As := []) (rest := []) C dX4_readLine_40 lk_X4_96 (Nat.le_of_ble_eq_true rfl) (Nat.le_of_ble_eq_true rfl) q52 (by decide) rfl (Nat.le_of_ble_eq_true rfl) rfl (S_X4_readFinders h) (fun r30 M29 h => ?_)
        exact R 43 _ _ _ dX4_readLine_43 h.1.1 h.2
    · have h := h2 c
      clear h1 h2
      refine G_aload_n C dX4_readLine_22 0 rfl ?_
      refine G_callI (As := []) (rest := []) C dX4_readLine_23 lk_X4_91 (Nat.le_of_ble_eq_true rfl) (Nat.le_of_ble_eq_true rfl) q52 (by decide) rfl (Nat.le_of_ble_eq_true rfl) rfl (S_X4_readOne h) (fun r32 M31 h => ?_)
      exact R 26 _ _ _ dX4_readLine_26 h.1.1 h.2
  · have h := h2 c
    clear h1 h2
    refine G_iconst (v := 0) C dX4_readLine_8 (by decide) ?_
    exact R 9 _ _ _ dX4_readLine_9 rfl h
theorem dX4_readAll_0 : decode cX4_readAll 0 = .ok (.aload_n 0, 1) := by decide +kernel
theorem dX4_readAll_1 : decode cX4_readAll 1 = .ok (.invokevirtual 49, 3) := by decide +kernel
theorem dX4_readAll_4 : decode cX4_readAll 4 = .ok (.iconst 0, 1) := by decide +kernel
theorem dX4_readAll_5 : decode cX4_readAll 5 = .ok (.istore_n 1, 1) := by decide +kernel
theorem dX4_readAll_6 : decode cX4_readAll 6 = .ok (.iload_n 1, 1) := by decide +kernel
theorem dX4_readAll_7 : decode cX4_readAll 7 = .ok (.sipush 160, 3) := by decide +kernel
theorem dX4_readAll_10 : decode cX4_readAll 10 = .ok (.if_icmp .gt 50, 3) := by decide +kernel
theorem dX4_readAll_13 : decode cX4_readAll 13 = .ok (.aload_n 0, 1) := by decide +kernel
theorem dX4_readAll_14 : decode cX4_readAll 14 = .ok (.getfield 45, 3) := by decide +kernel
theorem dX4_readAll_17 : decode cX4_readAll 17 = .ok (.invokevirtual 52, 3) := by decide +kernel
theorem dX4_readAll_20 : decode cX4_readAll 20 = .ok (.aload_n 0, 1) := by decide +kernel
theorem dX4_readAll_21 : decode cX4_readAll 21 = .ok (.getfield 45, 3) := by decide +kernel
theorem dX4_readAll_24 : decode cX4_readAll 24 = .ok (.getfield 57, 3) := by decide +kernel
theorem dX4_readAll_27 : decode cX4_readAll 27 = .ok (.ifCond .ne 8, 3) := by decide +kernel
theorem dX4_readAll_30 : decode cX4_readAll 30 = .ok (.aload_n 0, 1) := by decide +kernel
theorem dX4_readAll_31 : decode cX4_readAll 31 = .ok (.invokevirtual 60, 3) := by decide +kernel
theorem dX4_readAll_34 : decode cX4_readAll 34 = .ok (.ireturn, 1) := by decide +kernel
theorem dX4_readAll_35 : decode cX4_readAll 35 = .ok (.aload_n 0, 1) := by decide +kernel
theorem dX4_readAll_36 : decode cX4_readAll 36 = .ok (.invokevirtual 64, 3) := by decide +kernel
theorem dX4_readAll_39 : decode cX4_readAll 39 = .ok (.ifCond .ne 5, 3) := by decide +kernel
theorem dX4_readAll_42 : decode cX4_readAll 42 = .ok (.iconst 0, 1) := by decide +kernel
theorem dX4_readAll_43 : decode cX4_readAll 43 = .ok (.ireturn, 1) := by decide +kernel
theorem dX4_readAll_44 : decode cX4_readAll 44 = .ok (.aload_n 0, 1) := by decide +kernel
theorem dX4_readAll_45 : decode cX4_readAll 45 = .ok (.dup, 1) := by decide +kernel
theorem dX4_readAll_46 : decode cX4_readAll 46 = .ok (.getfield 25, 3) := by decide +kernel
theorem dX4_readAll_49 : decode cX4_readAll 49 = .ok (.iconst 1, 1) := by decide +kernel
theorem dX4_readAll_50 : decode cX4_readAll 50 = .ok (.iadd, 1) := by decide +kernel
theorem dX4_readAll_51 : decode cX4_readAll 51 = .ok (.putfield 25, 3) := by decide +kernel
theorem dX4_readAll_54 : decode cX4_readAll 54 = .ok (.iinc 1 1, 3) := by decide +kernel
theorem dX4_readAll_57 : decode cX4_readAll 57 = .ok (.goto (-51), 3) := by decide +kernel
theorem dX4_readAll_60 : decode cX4_readAll 60 = .ok (.aload_n 0, 1) := by decide +kernel
theorem dX4_readAll_61 : decode cX4_readAll 61 = .ok (.iconst 2, 1) := by decide +kernel
theorem dX4_readAll_62 : decode cX4_readAll 62 = .ok (.invokevirtual 67, 3) := by decide +kernel
theorem dX4_readAll_65 : decode cX4_readAll 65 = .ok (.ireturn, 1) := by decide +kernel
theorem lk_X4_64 : LkV RX4 64 RX4 yX4_readLine cX4_readLine 1 (some .boolean) 0 := LkV.of 465 466 467 68 468 (by decide +kernel) (by decide +kernel) (by decide +kernel) (by decide +kernel) (by decide +kernel) (by decide +kernel)
theorem gf_X4_25 {ω : WD} {ρ : FR} {M : Mem} {cc : ByteArray} {d n pc : Nat} {lv : List (Nat × Value)} {rest : List Value} (C : Cx ω ρ cc RX4 d n) (hd : decode cc pc = .ok (.getfield 25, 3)) (k : G ω ρ M (pc + 3) lv (.int (rd M 52 3) :: rest)) : G ω ρ M pc lv (.ref (adr ω 52) :: rest) := G_get (N := 9) (T := TX4) (C := RX4) (q := 3) C (q52 : isK 4 52) (by decide) rfl in_X4 (by decide) (tb_of 300 ⟨by decide +kernel, rfl⟩) rfl rfl hd k
theorem lk_X4_60 : LkV RX4 60 RX4 yX4_hasAllOnes cX4_hasAllOnes 2 (some .boolean) 0 := LkV.of 453 454 455 68 456 (by decide +kernel) (by decide +kernel) (by decide +kernel) (by decide +kernel) (by decide +kernel) (by decide +kernel)
theorem lk_X4_49 : LkV RX4 49 RX4 yX4_begin cX4_begin 1 none 0 := LkV.of 421 422 423 68 424 (by decide +kernel) (by decide +kernel) (by decide +kernel) (by decide +kernel) (by decide +kernel) (by decide +kernel)
def w_X4_readAll_L6 (post : Int32 → Mem → Prop) : Nat → Int32 → Mem → Prop
  | 0, _, _ => False
  | f + 1, l1, M => ((160 < l1 → w_X4_wrong 2 M (fun (r2 : Int32) (M1 : Mem) => zb r2 ∧ (post r2 M1))) ∧ (¬ 160 < l1 → w_X7_next M (fun (M3 : Mem) => ((¬ (rd M3 50 2) = 0 → w_X4_readLine M3 (fun (r5 : Int32) (M4 : Mem) => ((¬ r5 = 0 → ∀ M6 : Mem, M6 = wr M4 52 3 ((rd M4 52 3) + 1) → ∀ v7 : Int32, v7 = (l1 + 1) → (w_X4_readAll_L6 post f) v7 M6) ∧ (r5 = 0 → post 0 M4)))) ∧ ((rd M3 50 2) = 0 → w_X4_hasAllOnes M3 (fun (r9 : Int32) (M8 : Mem) => zb r9 ∧ (post r9 M8)))))))
set_option maxRecDepth 100000 in
set_option maxHeartbeats 4000000 in
theorem s_X4_readAll_L6 {ω : WD} {ρ : FR} {post : Int32 → Mem → Prop} (C : Cx ω ρ cX4_readAll RX4 6 2) (R : RtI ω ρ cX4_readAll .boolean post) : ∀ (f : Nat) (l1 : Int32) (M : Mem), w_X4_readAll_L6 post f l1 M → G ω ρ M 6 [(0, .ref (adr ω 52)), (1, .int l1)] [] := by
  intro f
  induction f with
  | zero => intro l1 M h; exact False.elim h
  | succ f k6 =>
    intro l1 M h
    refine G_iload_n C dX4_readAll_6 1 rfl ?_
    refine G_sipush (v := 160) C dX4_readAll_7 (by decide) ?_
    obtain ⟨h1, h2⟩ := h
    refine G_icmp_gt (tgt := 60) C dX4_readAll_10 (by decide) (fun c => ?_) (fun c => ?_)
    · have h := h1 c
      clear h1 h2
      refine G_aload_n C dX4_readAll_60 0 rfl ?_
      refine G_iconst (v := 2) C dX4_readAll_61 (by decide) ?_
      refine G_callI (As := [.int 2]) (rest := []) C dX4_readAll_62 lk_X4_67 (Nat.le_of_ble_eq_true rfl) (Nat.le_of_ble_eq_true rfl) q52 (by decide) rfl (Nat.le_of_ble_eq_true rfl) rfl (S_X4_wrong h) (fun r2 M1 h => ?_)
      exact R 65 _ _ _ dX4_readAll_65 h.1.1 h.2
    · have h := h2 c
      clear h1 h2
      refine G_aload_n C dX4_readAll_13 0 rfl ?_
      refine gf_X4_45 C dX4_readAll_14 ?_
      refine G_callV (As := []) (rest := []) C dX4_readAll_17 lk_X4_52 (Nat.le_of_ble_eq_true rfl) (Nat.le_of_ble_eq_true rfl) q50 (by decide) rfl (Nat.le_of_ble_eq_true rfl) rfl (S_X7_next h) (fun M3 h => ?_)
      refine G_aload_n C dX4_readAll_20 0 rfl ?_
      refine gf_X4_45 C dX4_readAll_21 ?_
      refine gf_X4_57 C dX4_readAll_24 ?_
      obtain ⟨h1, h2⟩ := h
      refine G_if_ne (tgt := 35) C dX4_readAll_27 (by decide) (fun c => ?_) (fun c => ?_)
      · have h := h1 c
        clear h1 h2
        refine G_aload_n C dX4_readAll_35 0 rfl ?_
        refine G_callI (As := []) (rest := []) C dX4_readAll_36 lk_X4_64 (Nat.le_of_ble_eq_true rfl) (Nat.le_of_ble_eq_true rfl) q52 (by decide) rfl (Nat.le_of_ble_eq_true rfl) rfl (S_X4_readLine h) (fun r5 M4 h => ?_)
        obtain ⟨h1, h2⟩ := h
        refine G_if_ne (tgt := 44) C dX4_readAll_39 (by decide) (fun c => ?_) (fun c => ?_)
        · have h := h1 c
          clear h1 h2
          refine G_aload_n C dX4_readAll_44 0 rfl ?_
          refine G_dup C dX4_readAll_45 rfl ?_
          refine gf_X4_25 C dX4_readAll_46 ?_
          refine G_iconst (v := 1) C dX4_readAll_49 (by decide) ?_
          refine G_iadd C dX4_readAll_50 ?_
          refine pf_X4_25 C dX4_readAll_51 (fun M6 eM6 => ?_)
          replace h := h M6 eM6
          obtain ⟨v7, ev7⟩ : ∃ y : Int32, y = (l1 + 1) := ⟨_, rfl⟩
          replace h := h v7 ev7
          refine G_iinc C dX4_readAll_54 1 rfl (v := v7) (by rw [ev7]; rfl) (by decide) (lv' := [(1, .int v7), (0, .ref (adr ω 52))]) rfl ?_
          refine G_goto (tgt := 6) C dX4_readAll_57 (by decide) ?_
          refine G_sub [1, 0] (lv' := [(0, .ref (adr ω 52)), (1, .int v7)]) rfl ?_
          exact k6 _ _ h
        · have h := h2 c
          clear h1 h2
          refine G_iconst (v := 0) C dX4_readAll_42 (by decide) ?_
          exact R 43 _ _ _ dX4_readAll_43 rfl h
      · have h := h2 c
        clear h1 h2
        refine G_aload_n C dX4_readAll_30 0 rfl ?_
        refine G_callI (As := []) (rest := []) C dX4_readAll_31 lk_X4_60 (Nat.le_of_ble_eq_true rfl) (Nat.le_of_ble_eq_true rfl) q52 (by decide) rfl (Nat.le_of_ble_eq_true rfl) rfl (S_X4_hasAllOnes h) (fun r9 M8 h => ?_)
        exact R 34 _ _ _ dX4_readAll_34 h.1.1 h.2
def w_X4_readAll (M : Mem) (post : Int32 → Mem → Prop) : Prop := w_X4_begin M (fun (M10 : Mem) => ∃ g6 : Nat, w_X4_readAll_L6 post g6 0 M10)
set_option maxRecDepth 100000 in
set_option maxHeartbeats 4000000 in
theorem S_X4_readAll {ω : WD} {M : Mem} {post : Int32 → Mem → Prop} (h : w_X4_readAll M post) : MtI ω yX4_readAll cX4_readAll 2 (some .boolean) 6 [.ref (adr ω 52)] M post := by
  refine MtI.start (ty := .boolean) rfl (by decide +kernel) (own := RX4) rfl (Nat.le_of_ble_eq_true rfl) (fun ρ C R => ?_)
  show G ω ρ M 0 [(0, .ref (adr ω 52))] []
  refine G_aload_n C dX4_readAll_0 0 rfl ?_
  refine G_callV (As := []) (rest := []) C dX4_readAll_1 lk_X4_49 (Nat.le_of_ble_eq_true rfl) (Nat.le_of_ble_eq_true rfl) q52 (by decide) rfl (Nat.le_of_ble_eq_true rfl) rfl (S_X4_begin h) (fun M10 h => ?_)
  refine G_iconst (v := 0) C dX4_readAll_4 (by decide) ?_
  refine G_istore_n C dX4_readAll_5 (by decide) (lv' := [(1, .int 0), (0, .ref (adr ω 52))]) rfl ?_
  refine G_sub [1, 0] (lv' := [(0, .ref (adr ω 52)), (1, .int 0)]) rfl ?_
  obtain ⟨f, h⟩ := h
  exact s_X4_readAll_L6 C R  f _ _ h
end
