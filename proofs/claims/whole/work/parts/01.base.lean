-- ===== PART A: goes FIRST, ahead of the names: the tables' words, and 'selects' of the private methods out of them =====
/-- a private method of a class that the tables say can be made, by its rows of tables_1 -/
def lw_okq (q : MethodName × Nat) : Prop := (q.1.cls ≠ "java/lang/invoke/MethodHandle" ∧ q.1.cls ≠ "java/lang/invoke/VarHandle") ∧ Cond.instantiable q.1.cls q.2 ∈ tables_1 ∧ Cond.privateMethod q.1 ∈ tables_1 ∧ Cond.instanceMethod q.1 ∈ tables_1
theorem lw_p0 : lw_okq (⟨"StepCalls", "isWay", "(II)Z"⟩, 11) := ⟨⟨by decide +kernel, by decide +kernel⟩, List.mem_of_getElem? (i := 19) (by decide +kernel), List.mem_of_getElem? (i := 582) (by decide +kernel), List.mem_of_getElem? (i := 583) (by decide +kernel)⟩
theorem lw_p1 : lw_okq (⟨"StepCalls", "isAct", "(I)Z"⟩, 11) := ⟨⟨by decide +kernel, by decide +kernel⟩, List.mem_of_getElem? (i := 19) (by decide +kernel), List.mem_of_getElem? (i := 590) (by decide +kernel), List.mem_of_getElem? (i := 591) (by decide +kernel)⟩
theorem lw_p2 : lw_okq (⟨"StepCalls", "followAsIs", "()V"⟩, 11) := ⟨⟨by decide +kernel, by decide +kernel⟩, List.mem_of_getElem? (i := 19) (by decide +kernel), List.mem_of_getElem? (i := 670) (by decide +kernel), List.mem_of_getElem? (i := 671) (by decide +kernel)⟩
theorem lw_p3 : lw_okq (⟨"StepCalls", "followWithHunt", "(II)V"⟩, 11) := ⟨⟨by decide +kernel, by decide +kernel⟩, List.mem_of_getElem? (i := 19) (by decide +kernel), List.mem_of_getElem? (i := 723) (by decide +kernel), List.mem_of_getElem? (i := 724) (by decide +kernel)⟩
theorem lw_p4 : lw_okq (⟨"StepCalls", "followWithSwap", "(II)V"⟩, 11) := ⟨⟨by decide +kernel, by decide +kernel⟩, List.mem_of_getElem? (i := 19) (by decide +kernel), List.mem_of_getElem? (i := 739) (by decide +kernel), List.mem_of_getElem? (i := 740) (by decide +kernel)⟩
theorem lw_p5 : lw_okq (⟨"StepCalls", "weighed", "(III)J"⟩, 11) := ⟨⟨by decide +kernel, by decide +kernel⟩, List.mem_of_getElem? (i := 19) (by decide +kernel), List.mem_of_getElem? (i := 759) (by decide +kernel), List.mem_of_getElem? (i := 760) (by decide +kernel)⟩
theorem lw_p6 : lw_okq (⟨"StepCalls", "broughtBy", "(II)I"⟩, 11) := ⟨⟨by decide +kernel, by decide +kernel⟩, List.mem_of_getElem? (i := 19) (by decide +kernel), List.mem_of_getElem? (i := 776) (by decide +kernel), List.mem_of_getElem? (i := 777) (by decide +kernel)⟩
theorem lw_p7 : lw_okq (⟨"StepCalls", "followWithDead", "(II)V"⟩, 11) := ⟨⟨by decide +kernel, by decide +kernel⟩, List.mem_of_getElem? (i := 19) (by decide +kernel), List.mem_of_getElem? (i := 810) (by decide +kernel), List.mem_of_getElem? (i := 811) (by decide +kernel)⟩
theorem lw_p8 : lw_okq (⟨"StepCalls", "clearTally", "()V"⟩, 11) := ⟨⟨by decide +kernel, by decide +kernel⟩, List.mem_of_getElem? (i := 19) (by decide +kernel), List.mem_of_getElem? (i := 818) (by decide +kernel), List.mem_of_getElem? (i := 819) (by decide +kernel)⟩
theorem lw_p9 : lw_okq (⟨"StepCalls", "tallyFates", "()V"⟩, 11) := ⟨⟨by decide +kernel, by decide +kernel⟩, List.mem_of_getElem? (i := 19) (by decide +kernel), List.mem_of_getElem? (i := 822) (by decide +kernel), List.mem_of_getElem? (i := 823) (by decide +kernel)⟩
theorem lw_p10 : lw_okq (⟨"StepCalls", "mostTallied", "(I)I"⟩, 11) := ⟨⟨by decide +kernel, by decide +kernel⟩, List.mem_of_getElem? (i := 19) (by decide +kernel), List.mem_of_getElem? (i := 826) (by decide +kernel), List.mem_of_getElem? (i := 827) (by decide +kernel)⟩
theorem lw_p11 : lw_okq (⟨"StepCalls", "isRefused", "(II)Z"⟩, 11) := ⟨⟨by decide +kernel, by decide +kernel⟩, List.mem_of_getElem? (i := 19) (by decide +kernel), List.mem_of_getElem? (i := 878) (by decide +kernel), List.mem_of_getElem? (i := 879) (by decide +kernel)⟩
theorem lw_p12 : lw_okq (⟨"StepCalls", "countImages", "()I"⟩, 11) := ⟨⟨by decide +kernel, by decide +kernel⟩, List.mem_of_getElem? (i := 19) (by decide +kernel), List.mem_of_getElem? (i := 890) (by decide +kernel), List.mem_of_getElem? (i := 891) (by decide +kernel)⟩
theorem lw_p13 : lw_okq (⟨"StepCallsModel", "firstDraft", "()V"⟩, 28) := ⟨⟨by decide +kernel, by decide +kernel⟩, List.mem_of_getElem? (i := 903) (by decide +kernel), List.mem_of_getElem? (i := 909) (by decide +kernel), List.mem_of_getElem? (i := 910) (by decide +kernel)⟩
theorem lw_p14 : lw_okq (⟨"StepCallsModel", "keepDraft", "()V"⟩, 28) := ⟨⟨by decide +kernel, by decide +kernel⟩, List.mem_of_getElem? (i := 903) (by decide +kernel), List.mem_of_getElem? (i := 913) (by decide +kernel), List.mem_of_getElem? (i := 914) (by decide +kernel)⟩
theorem lw_p15 : lw_okq (⟨"StepCallsModel", "takes", "()V"⟩, 28) := ⟨⟨by decide +kernel, by decide +kernel⟩, List.mem_of_getElem? (i := 903) (by decide +kernel), List.mem_of_getElem? (i := 1019) (by decide +kernel), List.mem_of_getElem? (i := 1020) (by decide +kernel)⟩
def lw_privs_1 : List (MethodName × Nat) := [(⟨"StepCalls", "isWay", "(II)Z"⟩, 11), (⟨"StepCalls", "isAct", "(I)Z"⟩, 11), (⟨"StepCalls", "followAsIs", "()V"⟩, 11), (⟨"StepCalls", "followWithHunt", "(II)V"⟩, 11), (⟨"StepCalls", "followWithSwap", "(II)V"⟩, 11), (⟨"StepCalls", "weighed", "(III)J"⟩, 11), (⟨"StepCalls", "broughtBy", "(II)I"⟩, 11), (⟨"StepCalls", "followWithDead", "(II)V"⟩, 11), (⟨"StepCalls", "clearTally", "()V"⟩, 11), (⟨"StepCalls", "tallyFates", "()V"⟩, 11), (⟨"StepCalls", "mostTallied", "(I)I"⟩, 11), (⟨"StepCalls", "isRefused", "(II)Z"⟩, 11), (⟨"StepCalls", "countImages", "()I"⟩, 11), (⟨"StepCallsModel", "firstDraft", "()V"⟩, 28), (⟨"StepCallsModel", "keepDraft", "()V"⟩, 28), (⟨"StepCallsModel", "takes", "()V"⟩, 28)]
theorem lw_r1 : ∀ q ∈ lw_privs_1, lw_okq q := List.forall_mem_cons.mpr ⟨lw_p0, List.forall_mem_cons.mpr ⟨lw_p1, List.forall_mem_cons.mpr ⟨lw_p2, List.forall_mem_cons.mpr ⟨lw_p3, List.forall_mem_cons.mpr ⟨lw_p4, List.forall_mem_cons.mpr ⟨lw_p5, List.forall_mem_cons.mpr ⟨lw_p6, List.forall_mem_cons.mpr ⟨lw_p7, List.forall_mem_cons.mpr ⟨lw_p8, List.forall_mem_cons.mpr ⟨lw_p9, List.forall_mem_cons.mpr ⟨lw_p10, List.forall_mem_cons.mpr ⟨lw_p11, List.forall_mem_cons.mpr ⟨lw_p12, List.forall_mem_cons.mpr ⟨lw_p13, List.forall_mem_cons.mpr ⟨lw_p14, List.forall_mem_cons.mpr ⟨lw_p15, fun _ h => absurd h List.not_mem_nil⟩⟩⟩⟩⟩⟩⟩⟩⟩⟩⟩⟩⟩⟩⟩⟩
theorem lw_p16 : lw_okq (⟨"StepCallsModel", "byteAt", "(I)I"⟩, 28) := ⟨⟨by decide +kernel, by decide +kernel⟩, List.mem_of_getElem? (i := 903) (by decide +kernel), List.mem_of_getElem? (i := 1023) (by decide +kernel), List.mem_of_getElem? (i := 1024) (by decide +kernel)⟩
theorem lw_p17 : lw_okq (⟨"StepCallsModel", "needs", "(ZI)V"⟩, 28) := ⟨⟨by decide +kernel, by decide +kernel⟩, List.mem_of_getElem? (i := 903) (by decide +kernel), List.mem_of_getElem? (i := 1031) (by decide +kernel), List.mem_of_getElem? (i := 1032) (by decide +kernel)⟩
theorem lw_p18 : lw_okq (⟨"StepCallsModel", "readLine", "()V"⟩, 28) := ⟨⟨by decide +kernel, by decide +kernel⟩, List.mem_of_getElem? (i := 903) (by decide +kernel), List.mem_of_getElem? (i := 1035) (by decide +kernel), List.mem_of_getElem? (i := 1036) (by decide +kernel)⟩
theorem lw_p19 : lw_okq (⟨"StepCallsModel", "lineNow", "()I"⟩, 28) := ⟨⟨by decide +kernel, by decide +kernel⟩, List.mem_of_getElem? (i := 903) (by decide +kernel), List.mem_of_getElem? (i := 1039) (by decide +kernel), List.mem_of_getElem? (i := 1040) (by decide +kernel)⟩
theorem lw_p20 : lw_okq (⟨"StepCallsModel", "is", "(III)Z"⟩, 28) := ⟨⟨by decide +kernel, by decide +kernel⟩, List.mem_of_getElem? (i := 903) (by decide +kernel), List.mem_of_getElem? (i := 1043) (by decide +kernel), List.mem_of_getElem? (i := 1044) (by decide +kernel)⟩
theorem lw_p21 : lw_okq (⟨"StepCallsModel", "ends", "(II)Z"⟩, 28) := ⟨⟨by decide +kernel, by decide +kernel⟩, List.mem_of_getElem? (i := 903) (by decide +kernel), List.mem_of_getElem? (i := 1047) (by decide +kernel), List.mem_of_getElem? (i := 1048) (by decide +kernel)⟩
theorem lw_p22 : lw_okq (⟨"StepCallsModel", "goesOn", "(III)Z"⟩, 28) := ⟨⟨by decide +kernel, by decide +kernel⟩, List.mem_of_getElem? (i := 903) (by decide +kernel), List.mem_of_getElem? (i := 1051) (by decide +kernel), List.mem_of_getElem? (i := 1052) (by decide +kernel)⟩
theorem lw_p23 : lw_okq (⟨"StepCallsModel", "readLineOf", "(I)V"⟩, 28) := ⟨⟨by decide +kernel, by decide +kernel⟩, List.mem_of_getElem? (i := 903) (by decide +kernel), List.mem_of_getElem? (i := 1055) (by decide +kernel), List.mem_of_getElem? (i := 1056) (by decide +kernel)⟩
theorem lw_p24 : lw_okq (⟨"StepCallsModel", "readSubscriber", "()V"⟩, 28) := ⟨⟨by decide +kernel, by decide +kernel⟩, List.mem_of_getElem? (i := 903) (by decide +kernel), List.mem_of_getElem? (i := 1059) (by decide +kernel), List.mem_of_getElem? (i := 1060) (by decide +kernel)⟩
theorem lw_p25 : lw_okq (⟨"StepCallsModel", "looked", "(II)I"⟩, 28) := ⟨⟨by decide +kernel, by decide +kernel⟩, List.mem_of_getElem? (i := 903) (by decide +kernel), List.mem_of_getElem? (i := 1063) (by decide +kernel), List.mem_of_getElem? (i := 1064) (by decide +kernel)⟩
theorem lw_p26 : lw_okq (⟨"StepCallsModel", "readWorth", "(II)I"⟩, 28) := ⟨⟨by decide +kernel, by decide +kernel⟩, List.mem_of_getElem? (i := 903) (by decide +kernel), List.mem_of_getElem? (i := 1071) (by decide +kernel), List.mem_of_getElem? (i := 1072) (by decide +kernel)⟩
theorem lw_p27 : lw_okq (⟨"StepCallsModel", "readPlan", "()V"⟩, 28) := ⟨⟨by decide +kernel, by decide +kernel⟩, List.mem_of_getElem? (i := 903) (by decide +kernel), List.mem_of_getElem? (i := 1075) (by decide +kernel), List.mem_of_getElem? (i := 1076) (by decide +kernel)⟩
theorem lw_p28 : lw_okq (⟨"StepCallsModel", "readGroup", "(I)V"⟩, 28) := ⟨⟨by decide +kernel, by decide +kernel⟩, List.mem_of_getElem? (i := 903) (by decide +kernel), List.mem_of_getElem? (i := 1082) (by decide +kernel), List.mem_of_getElem? (i := 1083) (by decide +kernel)⟩
theorem lw_p29 : lw_okq (⟨"StepCallsModel", "starts", "()V"⟩, 28) := ⟨⟨by decide +kernel, by decide +kernel⟩, List.mem_of_getElem? (i := 903) (by decide +kernel), List.mem_of_getElem? (i := 1094) (by decide +kernel), List.mem_of_getElem? (i := 1095) (by decide +kernel)⟩
theorem lw_p30 : lw_okq (⟨"StepCallsModel", "of", "(II)I"⟩, 28) := ⟨⟨by decide +kernel, by decide +kernel⟩, List.mem_of_getElem? (i := 903) (by decide +kernel), List.mem_of_getElem? (i := 1098) (by decide +kernel), List.mem_of_getElem? (i := 1099) (by decide +kernel)⟩
theorem lw_p31 : lw_okq (⟨"StepCallsModel", "callsNow", "()I"⟩, 28) := ⟨⟨by decide +kernel, by decide +kernel⟩, List.mem_of_getElem? (i := 903) (by decide +kernel), List.mem_of_getElem? (i := 1105) (by decide +kernel), List.mem_of_getElem? (i := 1106) (by decide +kernel)⟩
def lw_privs_2 : List (MethodName × Nat) := [(⟨"StepCallsModel", "byteAt", "(I)I"⟩, 28), (⟨"StepCallsModel", "needs", "(ZI)V"⟩, 28), (⟨"StepCallsModel", "readLine", "()V"⟩, 28), (⟨"StepCallsModel", "lineNow", "()I"⟩, 28), (⟨"StepCallsModel", "is", "(III)Z"⟩, 28), (⟨"StepCallsModel", "ends", "(II)Z"⟩, 28), (⟨"StepCallsModel", "goesOn", "(III)Z"⟩, 28), (⟨"StepCallsModel", "readLineOf", "(I)V"⟩, 28), (⟨"StepCallsModel", "readSubscriber", "()V"⟩, 28), (⟨"StepCallsModel", "looked", "(II)I"⟩, 28), (⟨"StepCallsModel", "readWorth", "(II)I"⟩, 28), (⟨"StepCallsModel", "readPlan", "()V"⟩, 28), (⟨"StepCallsModel", "readGroup", "(I)V"⟩, 28), (⟨"StepCallsModel", "starts", "()V"⟩, 28), (⟨"StepCallsModel", "of", "(II)I"⟩, 28), (⟨"StepCallsModel", "callsNow", "()I"⟩, 28)]
theorem lw_r2 : ∀ q ∈ lw_privs_2, lw_okq q := List.forall_mem_cons.mpr ⟨lw_p16, List.forall_mem_cons.mpr ⟨lw_p17, List.forall_mem_cons.mpr ⟨lw_p18, List.forall_mem_cons.mpr ⟨lw_p19, List.forall_mem_cons.mpr ⟨lw_p20, List.forall_mem_cons.mpr ⟨lw_p21, List.forall_mem_cons.mpr ⟨lw_p22, List.forall_mem_cons.mpr ⟨lw_p23, List.forall_mem_cons.mpr ⟨lw_p24, List.forall_mem_cons.mpr ⟨lw_p25, List.forall_mem_cons.mpr ⟨lw_p26, List.forall_mem_cons.mpr ⟨lw_p27, List.forall_mem_cons.mpr ⟨lw_p28, List.forall_mem_cons.mpr ⟨lw_p29, List.forall_mem_cons.mpr ⟨lw_p30, List.forall_mem_cons.mpr ⟨lw_p31, fun _ h => absurd h List.not_mem_nil⟩⟩⟩⟩⟩⟩⟩⟩⟩⟩⟩⟩⟩⟩⟩⟩
theorem lw_p32 : lw_okq (⟨"StepCallsModel", "allUses", "()I"⟩, 28) := ⟨⟨by decide +kernel, by decide +kernel⟩, List.mem_of_getElem? (i := 903) (by decide +kernel), List.mem_of_getElem? (i := 1109) (by decide +kernel), List.mem_of_getElem? (i := 1110) (by decide +kernel)⟩
theorem lw_p33 : lw_okq (⟨"StepCallsModel", "isOne", "(I)Z"⟩, 28) := ⟨⟨by decide +kernel, by decide +kernel⟩, List.mem_of_getElem? (i := 903) (by decide +kernel), List.mem_of_getElem? (i := 1117) (by decide +kernel), List.mem_of_getElem? (i := 1118) (by decide +kernel)⟩
theorem lw_p34 : lw_okq (⟨"StepCallsModel", "ofGroup", "(II)I"⟩, 28) := ⟨⟨by decide +kernel, by decide +kernel⟩, List.mem_of_getElem? (i := 903) (by decide +kernel), List.mem_of_getElem? (i := 1129) (by decide +kernel), List.mem_of_getElem? (i := 1130) (by decide +kernel)⟩
theorem lw_p35 : lw_okq (⟨"StepCallsModel", "held", "(I)I"⟩, 28) := ⟨⟨by decide +kernel, by decide +kernel⟩, List.mem_of_getElem? (i := 903) (by decide +kernel), List.mem_of_getElem? (i := 1133) (by decide +kernel), List.mem_of_getElem? (i := 1134) (by decide +kernel)⟩
theorem lw_p36 : lw_okq (⟨"StepCallsModel", "taken", "(I)I"⟩, 28) := ⟨⟨by decide +kernel, by decide +kernel⟩, List.mem_of_getElem? (i := 903) (by decide +kernel), List.mem_of_getElem? (i := 1137) (by decide +kernel), List.mem_of_getElem? (i := 1138) (by decide +kernel)⟩
theorem lw_p37 : lw_okq (⟨"StepCallsModel", "usesOf", "(II)I"⟩, 28) := ⟨⟨by decide +kernel, by decide +kernel⟩, List.mem_of_getElem? (i := 903) (by decide +kernel), List.mem_of_getElem? (i := 1141) (by decide +kernel), List.mem_of_getElem? (i := 1142) (by decide +kernel)⟩
theorem lw_p38 : lw_okq (⟨"StepCallsModel", "isWay", "(II)Z"⟩, 28) := ⟨⟨by decide +kernel, by decide +kernel⟩, List.mem_of_getElem? (i := 903) (by decide +kernel), List.mem_of_getElem? (i := 1149) (by decide +kernel), List.mem_of_getElem? (i := 1150) (by decide +kernel)⟩
theorem lw_p39 : lw_okq (⟨"StepCallsModel", "whoHas", "(I)I"⟩, 28) := ⟨⟨by decide +kernel, by decide +kernel⟩, List.mem_of_getElem? (i := 903) (by decide +kernel), List.mem_of_getElem? (i := 1164) (by decide +kernel), List.mem_of_getElem? (i := 1165) (by decide +kernel)⟩
theorem lw_p40 : lw_okq (⟨"StepCallsModel", "becomes", "(II)I"⟩, 28) := ⟨⟨by decide +kernel, by decide +kernel⟩, List.mem_of_getElem? (i := 903) (by decide +kernel), List.mem_of_getElem? (i := 1168) (by decide +kernel), List.mem_of_getElem? (i := 1169) (by decide +kernel)⟩
theorem lw_p41 : lw_okq (⟨"StepCallsModel", "hasWays", "(II)V"⟩, 28) := ⟨⟨by decide +kernel, by decide +kernel⟩, List.mem_of_getElem? (i := 903) (by decide +kernel), List.mem_of_getElem? (i := 1185) (by decide +kernel), List.mem_of_getElem? (i := 1186) (by decide +kernel)⟩
theorem lw_p42 : lw_okq (⟨"StepCallsModel", "becomesOfGroup", "(III)V"⟩, 28) := ⟨⟨by decide +kernel, by decide +kernel⟩, List.mem_of_getElem? (i := 903) (by decide +kernel), List.mem_of_getElem? (i := 1189) (by decide +kernel), List.mem_of_getElem? (i := 1190) (by decide +kernel)⟩
theorem lw_p43 : lw_okq (⟨"StepCallsModel", "settles", "()V"⟩, 28) := ⟨⟨by decide +kernel, by decide +kernel⟩, List.mem_of_getElem? (i := 903) (by decide +kernel), List.mem_of_getElem? (i := 1193) (by decide +kernel), List.mem_of_getElem? (i := 1194) (by decide +kernel)⟩
theorem lw_p44 : lw_okq (⟨"StepCallsModel", "dials", "(II)I"⟩, 28) := ⟨⟨by decide +kernel, by decide +kernel⟩, List.mem_of_getElem? (i := 903) (by decide +kernel), List.mem_of_getElem? (i := 1213) (by decide +kernel), List.mem_of_getElem? (i := 1214) (by decide +kernel)⟩
theorem lw_p45 : lw_okq (⟨"StepCallsModel", "connects", "(III)V"⟩, 28) := ⟨⟨by decide +kernel, by decide +kernel⟩, List.mem_of_getElem? (i := 903) (by decide +kernel), List.mem_of_getElem? (i := 1217) (by decide +kernel), List.mem_of_getElem? (i := 1218) (by decide +kernel)⟩
theorem lw_p46 : lw_okq (⟨"StepCallsModel", "becomesOf", "(III)V"⟩, 28) := ⟨⟨by decide +kernel, by decide +kernel⟩, List.mem_of_getElem? (i := 903) (by decide +kernel), List.mem_of_getElem? (i := 1221) (by decide +kernel), List.mem_of_getElem? (i := 1222) (by decide +kernel)⟩
theorem lw_p47 : lw_okq (⟨"StepCallsModel", "hangsUp", "(I)V"⟩, 28) := ⟨⟨by decide +kernel, by decide +kernel⟩, List.mem_of_getElem? (i := 903) (by decide +kernel), List.mem_of_getElem? (i := 1229) (by decide +kernel), List.mem_of_getElem? (i := 1230) (by decide +kernel)⟩
def lw_privs_3 : List (MethodName × Nat) := [(⟨"StepCallsModel", "allUses", "()I"⟩, 28), (⟨"StepCallsModel", "isOne", "(I)Z"⟩, 28), (⟨"StepCallsModel", "ofGroup", "(II)I"⟩, 28), (⟨"StepCallsModel", "held", "(I)I"⟩, 28), (⟨"StepCallsModel", "taken", "(I)I"⟩, 28), (⟨"StepCallsModel", "usesOf", "(II)I"⟩, 28), (⟨"StepCallsModel", "isWay", "(II)Z"⟩, 28), (⟨"StepCallsModel", "whoHas", "(I)I"⟩, 28), (⟨"StepCallsModel", "becomes", "(II)I"⟩, 28), (⟨"StepCallsModel", "hasWays", "(II)V"⟩, 28), (⟨"StepCallsModel", "becomesOfGroup", "(III)V"⟩, 28), (⟨"StepCallsModel", "settles", "()V"⟩, 28), (⟨"StepCallsModel", "dials", "(II)I"⟩, 28), (⟨"StepCallsModel", "connects", "(III)V"⟩, 28), (⟨"StepCallsModel", "becomesOf", "(III)V"⟩, 28), (⟨"StepCallsModel", "hangsUp", "(I)V"⟩, 28)]
theorem lw_r3 : ∀ q ∈ lw_privs_3, lw_okq q := List.forall_mem_cons.mpr ⟨lw_p32, List.forall_mem_cons.mpr ⟨lw_p33, List.forall_mem_cons.mpr ⟨lw_p34, List.forall_mem_cons.mpr ⟨lw_p35, List.forall_mem_cons.mpr ⟨lw_p36, List.forall_mem_cons.mpr ⟨lw_p37, List.forall_mem_cons.mpr ⟨lw_p38, List.forall_mem_cons.mpr ⟨lw_p39, List.forall_mem_cons.mpr ⟨lw_p40, List.forall_mem_cons.mpr ⟨lw_p41, List.forall_mem_cons.mpr ⟨lw_p42, List.forall_mem_cons.mpr ⟨lw_p43, List.forall_mem_cons.mpr ⟨lw_p44, List.forall_mem_cons.mpr ⟨lw_p45, List.forall_mem_cons.mpr ⟨lw_p46, List.forall_mem_cons.mpr ⟨lw_p47, fun _ h => absurd h List.not_mem_nil⟩⟩⟩⟩⟩⟩⟩⟩⟩⟩⟩⟩⟩⟩⟩⟩
theorem lw_p48 : lw_okq (⟨"StepCallsModel", "leaves", "(I)V"⟩, 28) := ⟨⟨by decide +kernel, by decide +kernel⟩, List.mem_of_getElem? (i := 903) (by decide +kernel), List.mem_of_getElem? (i := 1233) (by decide +kernel), List.mem_of_getElem? (i := 1234) (by decide +kernel)⟩
theorem lw_p49 : lw_okq (⟨"StepCallsModel", "planGoes", "(I)V"⟩, 28) := ⟨⟨by decide +kernel, by decide +kernel⟩, List.mem_of_getElem? (i := 903) (by decide +kernel), List.mem_of_getElem? (i := 1241) (by decide +kernel), List.mem_of_getElem? (i := 1242) (by decide +kernel)⟩
theorem lw_p50 : lw_okq (⟨"StepCallsModel", "acts", "(II)I"⟩, 28) := ⟨⟨by decide +kernel, by decide +kernel⟩, List.mem_of_getElem? (i := 903) (by decide +kernel), List.mem_of_getElem? (i := 1245) (by decide +kernel), List.mem_of_getElem? (i := 1246) (by decide +kernel)⟩
theorem lw_p51 : lw_okq (⟨"StepCallsModel", "lostMany", "()I"⟩, 28) := ⟨⟨by decide +kernel, by decide +kernel⟩, List.mem_of_getElem? (i := 903) (by decide +kernel), List.mem_of_getElem? (i := 1253) (by decide +kernel), List.mem_of_getElem? (i := 1254) (by decide +kernel)⟩
theorem lw_p52 : lw_okq (⟨"StepCallsModel", "isLostBy", "(II)Z"⟩, 28) := ⟨⟨by decide +kernel, by decide +kernel⟩, List.mem_of_getElem? (i := 903) (by decide +kernel), List.mem_of_getElem? (i := 1269) (by decide +kernel), List.mem_of_getElem? (i := 1270) (by decide +kernel)⟩
theorem lw_p53 : lw_okq (⟨"StepCallsModel", "startsJudging", "()V"⟩, 28) := ⟨⟨by decide +kernel, by decide +kernel⟩, List.mem_of_getElem? (i := 903) (by decide +kernel), List.mem_of_getElem? (i := 1281) (by decide +kernel), List.mem_of_getElem? (i := 1282) (by decide +kernel)⟩
theorem lw_p54 : lw_okq (⟨"StepCallsModel", "judges", "(II)V"⟩, 28) := ⟨⟨by decide +kernel, by decide +kernel⟩, List.mem_of_getElem? (i := 903) (by decide +kernel), List.mem_of_getElem? (i := 1285) (by decide +kernel), List.mem_of_getElem? (i := 1286) (by decide +kernel)⟩
theorem lw_p55 : lw_okq (⟨"StepCallsModel", "judged", "(I)I"⟩, 28) := ⟨⟨by decide +kernel, by decide +kernel⟩, List.mem_of_getElem? (i := 903) (by decide +kernel), List.mem_of_getElem? (i := 1289) (by decide +kernel), List.mem_of_getElem? (i := 1290) (by decide +kernel)⟩
theorem lw_p56 : lw_okq (⟨"StepCallsModel", "findOdds", "(III)V"⟩, 28) := ⟨⟨by decide +kernel, by decide +kernel⟩, List.mem_of_getElem? (i := 903) (by decide +kernel), List.mem_of_getElem? (i := 1311) (by decide +kernel), List.mem_of_getElem? (i := 1312) (by decide +kernel)⟩
theorem lw_p57 : lw_okq (⟨"StepCallsModel", "isSoWith", "(III)Z"⟩, 28) := ⟨⟨by decide +kernel, by decide +kernel⟩, List.mem_of_getElem? (i := 903) (by decide +kernel), List.mem_of_getElem? (i := 1338) (by decide +kernel), List.mem_of_getElem? (i := 1339) (by decide +kernel)⟩
theorem lw_p58 : lw_okq (⟨"StepCallsModel", "setsOf", "(I)I"⟩, 28) := ⟨⟨by decide +kernel, by decide +kernel⟩, List.mem_of_getElem? (i := 903) (by decide +kernel), List.mem_of_getElem? (i := 1346) (by decide +kernel), List.mem_of_getElem? (i := 1347) (by decide +kernel)⟩
theorem lw_p59 : lw_okq (⟨"StepCallsModel", "copies", "(II)V"⟩, 28) := ⟨⟨by decide +kernel, by decide +kernel⟩, List.mem_of_getElem? (i := 903) (by decide +kernel), List.mem_of_getElem? (i := 1364) (by decide +kernel), List.mem_of_getElem? (i := 1365) (by decide +kernel)⟩
def lw_privs_4 : List (MethodName × Nat) := [(⟨"StepCallsModel", "leaves", "(I)V"⟩, 28), (⟨"StepCallsModel", "planGoes", "(I)V"⟩, 28), (⟨"StepCallsModel", "acts", "(II)I"⟩, 28), (⟨"StepCallsModel", "lostMany", "()I"⟩, 28), (⟨"StepCallsModel", "isLostBy", "(II)Z"⟩, 28), (⟨"StepCallsModel", "startsJudging", "()V"⟩, 28), (⟨"StepCallsModel", "judges", "(II)V"⟩, 28), (⟨"StepCallsModel", "judged", "(I)I"⟩, 28), (⟨"StepCallsModel", "findOdds", "(III)V"⟩, 28), (⟨"StepCallsModel", "isSoWith", "(III)Z"⟩, 28), (⟨"StepCallsModel", "setsOf", "(I)I"⟩, 28), (⟨"StepCallsModel", "copies", "(II)V"⟩, 28)]
theorem lw_r4 : ∀ q ∈ lw_privs_4, lw_okq q := List.forall_mem_cons.mpr ⟨lw_p48, List.forall_mem_cons.mpr ⟨lw_p49, List.forall_mem_cons.mpr ⟨lw_p50, List.forall_mem_cons.mpr ⟨lw_p51, List.forall_mem_cons.mpr ⟨lw_p52, List.forall_mem_cons.mpr ⟨lw_p53, List.forall_mem_cons.mpr ⟨lw_p54, List.forall_mem_cons.mpr ⟨lw_p55, List.forall_mem_cons.mpr ⟨lw_p56, List.forall_mem_cons.mpr ⟨lw_p57, List.forall_mem_cons.mpr ⟨lw_p58, List.forall_mem_cons.mpr ⟨lw_p59, fun _ h => absurd h List.not_mem_nil⟩⟩⟩⟩⟩⟩⟩⟩⟩⟩⟩⟩
def lw_privs : List (MethodName × Nat) := lw_privs_1 ++ (lw_privs_2 ++ (lw_privs_3 ++ (lw_privs_4)))
def lw_tbl : List Cond := k2_sels lw_privs ++ tables_1
theorem lw_privs_ok : ∀ q ∈ lw_privs, lw_okq q := by
  show ∀ q ∈ lw_privs_1 ++ (lw_privs_2 ++ (lw_privs_3 ++ (lw_privs_4))), lw_okq q
  exact List.forall_mem_append.mpr ⟨lw_r1, List.forall_mem_append.mpr ⟨lw_r2, List.forall_mem_append.mpr ⟨lw_r3, lw_r4⟩⟩⟩
def RX0 : String := "StepCalls$Best"
def TX0 : u_T := fun k => match k with
  | 0 => ("StepCalls$Best", "which", "I", false)
  | _ => ("StepCalls$Best", "least", "I", false)
def tyX0 : Nat → FieldType := fun k => match k with
  | 0 => .int
  | _ => .int
theorem nmX0 : ∀ a, a < 2 → ∀ b, b < 2 → a ≠ b → (TX0 a).2.1 ≠ (TX0 b).2.1 := by decide +kernel
theorem tyX0_ok : ∀ k, k < 2 → parseFieldDescriptor (TX0 k).2.2.1 = some (tyX0 k) := by decide +kernel
abbrev cX0_init : ByteArray := prog_2_method_1_code
def yX0_init : MethodName := ⟨RX0, "<init>", "()V"⟩
abbrev cX0_begin : ByteArray := prog_2_method_2_code
def yX0_begin : MethodName := ⟨RX0, "begin", "(I)V"⟩
abbrev cX0_offer : ByteArray := prog_2_method_3_code
def yX0_offer : MethodName := ⟨RX0, "offer", "(II)V"⟩
abbrev cX0_told : ByteArray := prog_2_method_4_code
def yX0_told : MethodName := ⟨RX0, "told", "(I)I"⟩
def RX1 : String := "StepCalls$Exchange"
def TX1 : u_T := fun k => match k with
  | 0 => ("StepCalls$Exchange", "ones", "I", false)
  | 1 => ("StepCalls$Exchange", "finders", "I", false)
  | 2 => ("StepCalls$Exchange", "calls", "I", false)
  | 3 => ("StepCalls$Exchange", "numbers", "[I", true)
  | 4 => ("StepCalls$Exchange", "partners", "[I", true)
  | 5 => ("StepCalls$Exchange", "roles", "[I", true)
  | 6 => ("StepCalls$Exchange", "holds", "[I", true)
  | _ => ("StepCalls$Exchange", "groups", "[LStepCalls$Group;", true)
def tyX1 : Nat → FieldType := fun k => match k with
  | 0 => .int
  | 1 => .int
  | 2 => .int
  | 3 => .array .int
  | 4 => .array .int
  | 5 => .array .int
  | 6 => .array .int
  | _ => .array (.object "StepCalls$Group")
theorem nmX1 : ∀ a, a < 8 → ∀ b, b < 8 → a ≠ b → (TX1 a).2.1 ≠ (TX1 b).2.1 := by decide +kernel
theorem tyX1_ok : ∀ k, k < 8 → parseFieldDescriptor (TX1 k).2.2.1 = some (tyX1 k) := by decide +kernel
abbrev cX1_init : ByteArray := prog_3_method_1_code
def yX1_init : MethodName := ⟨RX1, "<init>", "()V"⟩
abbrev cX1_clear : ByteArray := prog_3_method_2_code
def yX1_clear : MethodName := ⟨RX1, "clear", "()V"⟩
abbrev cX1_copyFrom : ByteArray := prog_3_method_3_code
def yX1_copyFrom : MethodName := ⟨RX1, "copyFrom", "(LStepCalls$Exchange;)V"⟩
abbrev cX1_has : ByteArray := prog_3_method_4_code
def yX1_has : MethodName := ⟨RX1, "has", "(I)Z"⟩
abbrev cX1_addOne : ByteArray := prog_3_method_5_code
def yX1_addOne : MethodName := ⟨RX1, "addOne", "(I)V"⟩
abbrev cX1_owner : ByteArray := prog_3_method_6_code
def yX1_owner : MethodName := ⟨RX1, "owner", "(I)I"⟩
abbrev cX1_ring : ByteArray := prog_3_method_7_code
def yX1_ring : MethodName := ⟨RX1, "ring", "(II)I"⟩
abbrev cX1_join : ByteArray := prog_3_method_8_code
def yX1_join : MethodName := ⟨RX1, "join", "(III)V"⟩
abbrev cX1_part : ByteArray := prog_3_method_9_code
def yX1_part : MethodName := ⟨RX1, "part", "(I)I"⟩
abbrev cX1_release : ByteArray := prog_3_method_10_code
def yX1_release : MethodName := ⟨RX1, "release", "(I)V"⟩
abbrev cX1_inCalls : ByteArray := prog_3_method_11_code
def yX1_inCalls : MethodName := ⟨RX1, "inCalls", "()I"⟩
abbrev cX1_allUses : ByteArray := prog_3_method_12_code
def yX1_allUses : MethodName := ⟨RX1, "allUses", "()I"⟩
abbrev cX1_allWays : ByteArray := prog_3_method_13_code
def yX1_allWays : MethodName := ⟨RX1, "allWays", "()I"⟩
abbrev cX1_allDead : ByteArray := prog_3_method_14_code
def yX1_allDead : MethodName := ⟨RX1, "allDead", "()I"⟩
def RX2 : String := "StepCalls$Group"
def TX2 : u_T := fun k => match k with
  | 0 => ("StepCalls$Group", "kind", "I", false)
  | 1 => ("StepCalls$Group", "size", "I", false)
  | 2 => ("StepCalls$Group", "deadSet", "I", false)
  | 3 => ("StepCalls$Group", "heldSet", "I", false)
  | 4 => ("StepCalls$Group", "latest", "I", false)
  | _ => ("StepCalls$Group", "used", "[I", true)
def tyX2 : Nat → FieldType := fun k => match k with
  | 0 => .int
  | 1 => .int
  | 2 => .int
  | 3 => .int
  | 4 => .int
  | _ => .array .int
theorem nmX2 : ∀ a, a < 6 → ∀ b, b < 6 → a ≠ b → (TX2 a).2.1 ≠ (TX2 b).2.1 := by decide +kernel
theorem tyX2_ok : ∀ k, k < 6 → parseFieldDescriptor (TX2 k).2.2.1 = some (tyX2 k) := by decide +kernel
abbrev cX2_init : ByteArray := prog_4_method_1_code
def yX2_init : MethodName := ⟨RX2, "<init>", "()V"⟩
abbrev cX2_clear : ByteArray := prog_4_method_2_code
def yX2_clear : MethodName := ⟨RX2, "clear", "()V"⟩
abbrev cX2_copyFrom : ByteArray := prog_4_method_3_code
def yX2_copyFrom : MethodName := ⟨RX2, "copyFrom", "(LStepCalls$Group;)V"⟩
abbrev cX2_isFreeFrom : ByteArray := prog_4_method_4_code
def yX2_isFreeFrom : MethodName := ⟨RX2, "isFreeFrom", "(I)Z"⟩
abbrev cX2_resize : ByteArray := prog_4_method_5_code
def yX2_resize : MethodName := ⟨RX2, "resize", "(I)V"⟩
abbrev cX2_isDead : ByteArray := prog_4_method_6_code
def yX2_isDead : MethodName := ⟨RX2, "isDead", "(I)Z"⟩
abbrev cX2_isFree : ByteArray := prog_4_method_7_code
def yX2_isFree : MethodName := ⟨RX2, "isFree", "(I)Z"⟩
abbrev cX2_pick : ByteArray := prog_4_method_8_code
def yX2_pick : MethodName := ⟨RX2, "pick", "()I"⟩
abbrev cX2_inTurn : ByteArray := prog_4_method_9_code
def yX2_inTurn : MethodName := ⟨RX2, "inTurn", "(I)I"⟩
def RX3 : String := "StepCalls$Image"
def TX3 : u_T := fun k => match k with
  | 0 => ("StepCalls$Image", "there", "Z", false)
  | 1 => ("StepCalls$Image", "exchange", "LStepCalls$Exchange;", true)
  | _ => ("StepCalls$Image", "script", "LStepCalls$Script;", true)
def tyX3 : Nat → FieldType := fun k => match k with
  | 0 => .boolean
  | 1 => .object "StepCalls$Exchange"
  | _ => .object "StepCalls$Script"
theorem nmX3 : ∀ a, a < 3 → ∀ b, b < 3 → a ≠ b → (TX3 a).2.1 ≠ (TX3 b).2.1 := by decide +kernel
theorem tyX3_ok : ∀ k, k < 3 → parseFieldDescriptor (TX3 k).2.2.1 = some (tyX3 k) := by decide +kernel
abbrev cX3_init : ByteArray := prog_5_method_1_code
def yX3_init : MethodName := ⟨RX3, "<init>", "()V"⟩
def RX4 : String := "StepCalls$Reader"
def TX4 : u_T := fun k => match k with
  | 0 => ("StepCalls$Reader", "tape", "LStepCalls$Tape;", true)
  | 1 => ("StepCalls$Reader", "exchange", "LStepCalls$Exchange;", true)
  | 2 => ("StepCalls$Reader", "script", "LStepCalls$Script;", true)
  | 3 => ("StepCalls$Reader", "lines", "I", false)
  | 4 => ("StepCalls$Reader", "fault", "I", false)
  | 5 => ("StepCalls$Reader", "place", "I", false)
  | 6 => ("StepCalls$Reader", "findersTold", "Z", false)
  | 7 => ("StepCalls$Reader", "planTold", "Z", false)
  | _ => ("StepCalls$Reader", "groupsTold", "I", false)
def tyX4 : Nat → FieldType := fun k => match k with
  | 0 => .object "StepCalls$Tape"
  | 1 => .object "StepCalls$Exchange"
  | 2 => .object "StepCalls$Script"
  | 3 => .int
  | 4 => .int
  | 5 => .int
  | 6 => .boolean
  | 7 => .boolean
  | _ => .int
theorem nmX4 : ∀ a, a < 9 → ∀ b, b < 9 → a ≠ b → (TX4 a).2.1 ≠ (TX4 b).2.1 := by decide +kernel
theorem tyX4_ok : ∀ k, k < 9 → parseFieldDescriptor (TX4 k).2.2.1 = some (tyX4 k) := by decide +kernel
abbrev cX4_init : ByteArray := prog_6_method_1_code
def yX4_init : MethodName := ⟨RX4, "<init>", "()V"⟩
abbrev cX4_readAll : ByteArray := prog_6_method_2_code
def yX4_readAll : MethodName := ⟨RX4, "readAll", "()Z"⟩
abbrev cX4_begin : ByteArray := prog_6_method_3_code
def yX4_begin : MethodName := ⟨RX4, "begin", "()V"⟩
abbrev cX4_wrong : ByteArray := prog_6_method_4_code
def yX4_wrong : MethodName := ⟨RX4, "wrong", "(I)Z"⟩
abbrev cX4_stands : ByteArray := prog_6_method_5_code
def yX4_stands : MethodName := ⟨RX4, "stands", "(I)Z"⟩
abbrev cX4_takes : ByteArray := prog_6_method_6_code
def yX4_takes : MethodName := ⟨RX4, "takes", "(I)Z"⟩
abbrev cX4_takesNumber : ByteArray := prog_6_method_7_code
def yX4_takesNumber : MethodName := ⟨RX4, "takesNumber", "(II)Z"⟩
abbrev cX4_readLine : ByteArray := prog_6_method_8_code
def yX4_readLine : MethodName := ⟨RX4, "readLine", "()Z"⟩
abbrev cX4_readOne : ByteArray := prog_6_method_9_code
def yX4_readOne : MethodName := ⟨RX4, "readOne", "()Z"⟩
abbrev cX4_readFinders : ByteArray := prog_6_method_10_code
def yX4_readFinders : MethodName := ⟨RX4, "readFinders", "()Z"⟩
abbrev cX4_readGroup : ByteArray := prog_6_method_11_code
def yX4_readGroup : MethodName := ⟨RX4, "readGroup", "(I)Z"⟩
abbrev cX4_readPlan : ByteArray := prog_6_method_12_code
def yX4_readPlan : MethodName := ⟨RX4, "readPlan", "()Z"⟩
abbrev cX4_hasAllOnes : ByteArray := prog_6_method_13_code
def yX4_hasAllOnes : MethodName := ⟨RX4, "hasAllOnes", "()Z"⟩
def RX5 : String := "StepCalls$Script"
def TX5 : u_T := fun k => match k with
  | 0 => ("StepCalls$Script", "acts", "I", false)
  | 1 => ("StepCalls$Script", "seen", "I", false)
  | 2 => ("StepCalls$Script", "who", "[I", true)
  | 3 => ("StepCalls$Script", "dialled", "[I", true)
  | 4 => ("StepCalls$Script", "seenActs", "[I", true)
  | _ => ("StepCalls$Script", "seenFates", "[I", true)
def tyX5 : Nat → FieldType := fun k => match k with
  | 0 => .int
  | 1 => .int
  | 2 => .array .int
  | 3 => .array .int
  | 4 => .array .int
  | _ => .array .int
theorem nmX5 : ∀ a, a < 6 → ∀ b, b < 6 → a ≠ b → (TX5 a).2.1 ≠ (TX5 b).2.1 := by decide +kernel
theorem tyX5_ok : ∀ k, k < 6 → parseFieldDescriptor (TX5 k).2.2.1 = some (tyX5 k) := by decide +kernel
abbrev cX5_init : ByteArray := prog_7_method_1_code
def yX5_init : MethodName := ⟨RX5, "<init>", "()V"⟩
abbrev cX5_clear : ByteArray := prog_7_method_2_code
def yX5_clear : MethodName := ⟨RX5, "clear", "()V"⟩
abbrev cX5_copyFrom : ByteArray := prog_7_method_3_code
def yX5_copyFrom : MethodName := ⟨RX5, "copyFrom", "(LStepCalls$Script;)V"⟩
abbrev cX5_addAct : ByteArray := prog_7_method_4_code
def yX5_addAct : MethodName := ⟨RX5, "addAct", "(II)V"⟩
abbrev cX5_dials : ByteArray := prog_7_method_5_code
def yX5_dials : MethodName := ⟨RX5, "dials", "()I"⟩
def RX6 : String := "StepCalls$Sheet"
def TX6 : u_T := fun k => match k with
  | 0 => ("StepCalls$Sheet", "lane", "I", false)
  | 1 => ("StepCalls$Sheet", "length", "I", false)
  | _ => ("StepCalls$Sheet", "cells", "[I", true)
def tyX6 : Nat → FieldType := fun k => match k with
  | 0 => .int
  | 1 => .int
  | _ => .array .int
theorem nmX6 : ∀ a, a < 3 → ∀ b, b < 3 → a ≠ b → (TX6 a).2.1 ≠ (TX6 b).2.1 := by decide +kernel
theorem tyX6_ok : ∀ k, k < 3 → parseFieldDescriptor (TX6 k).2.2.1 = some (tyX6 k) := by decide +kernel
abbrev cX6_init : ByteArray := prog_8_method_1_code
def yX6_init : MethodName := ⟨RX6, "<init>", "()V"⟩
abbrev cX6_renew : ByteArray := prog_8_method_2_code
def yX6_renew : MethodName := ⟨RX6, "renew", "(II)V"⟩
abbrev cX6_has : ByteArray := prog_8_method_3_code
def yX6_has : MethodName := ⟨RX6, "has", "(J)Z"⟩
abbrev cX6_faultAs : ByteArray := prog_8_method_4_code
def yX6_faultAs : MethodName := ⟨RX6, "faultAs", "(I)I"⟩
abbrev cX6_narrowed : ByteArray := prog_8_method_5_code
def yX6_narrowed : MethodName := ⟨RX6, "narrowed", "(I)I"⟩
def RX7 : String := "StepCalls$Tape"
def TX7 : u_T := fun k => match k with
  | 0 => ("StepCalls$Tape", "bytes", "[I", true)
  | 1 => ("StepCalls$Tape", "length", "I", false)
  | 2 => ("StepCalls$Tape", "token", "I", false)
  | 3 => ("StepCalls$Tape", "place", "I", false)
  | 4 => ("StepCalls$Tape", "behind", "I", false)
  | _ => ("StepCalls$Tape", "value", "I", false)
def tyX7 : Nat → FieldType := fun k => match k with
  | 0 => .array .int
  | 1 => .int
  | 2 => .int
  | 3 => .int
  | 4 => .int
  | _ => .int
theorem nmX7 : ∀ a, a < 6 → ∀ b, b < 6 → a ≠ b → (TX7 a).2.1 ≠ (TX7 b).2.1 := by decide +kernel
theorem tyX7_ok : ∀ k, k < 6 → parseFieldDescriptor (TX7 k).2.2.1 = some (tyX7 k) := by decide +kernel
abbrev cX7_init : ByteArray := prog_9_method_1_code
def yX7_init : MethodName := ⟨RX7, "<init>", "()V"⟩
abbrev cX7_rewind : ByteArray := prog_9_method_2_code
def yX7_rewind : MethodName := ⟨RX7, "rewind", "()V"⟩
abbrev cX7_next : ByteArray := prog_9_method_3_code
def yX7_next : MethodName := ⟨RX7, "next", "()V"⟩
abbrev cX7_kindAt : ByteArray := prog_9_method_4_code
def yX7_kindAt : MethodName := ⟨RX7, "kindAt", "(I)I"⟩
abbrev cX7_measure : ByteArray := prog_9_method_5_code
def yX7_measure : MethodName := ⟨RX7, "measure", "()V"⟩
abbrev cX7_spells : ByteArray := prog_9_method_6_code
def yX7_spells : MethodName := ⟨RX7, "spells", "(Ljava/lang/String;)Z"⟩
def RX8 : String := "StepCalls$Trial"
def TX8 : u_T := fun k => match k with
  | 0 => ("StepCalls$Trial", "exchange", "LStepCalls$Exchange;", true)
  | 1 => ("StepCalls$Trial", "fates", "[I", true)
  | 2 => ("StepCalls$Trial", "connected", "I", false)
  | 3 => ("StepCalls$Trial", "lost", "I", false)
  | 4 => ("StepCalls$Trial", "firstLost", "I", false)
  | _ => ("StepCalls$Trial", "passed", "I", false)
def tyX8 : Nat → FieldType := fun k => match k with
  | 0 => .object "StepCalls$Exchange"
  | 1 => .array .int
  | 2 => .int
  | 3 => .int
  | 4 => .int
  | _ => .int
theorem nmX8 : ∀ a, a < 6 → ∀ b, b < 6 → a ≠ b → (TX8 a).2.1 ≠ (TX8 b).2.1 := by decide +kernel
theorem tyX8_ok : ∀ k, k < 6 → parseFieldDescriptor (TX8 k).2.2.1 = some (tyX8 k) := by decide +kernel
abbrev cX8_init : ByteArray := prog_10_method_1_code
def yX8_init : MethodName := ⟨RX8, "<init>", "()V"⟩
abbrev cX8_follow : ByteArray := prog_10_method_2_code
def yX8_follow : MethodName := ⟨RX8, "follow", "(LStepCalls$Script;I)V"⟩
abbrev cX8_fateOf : ByteArray := prog_10_method_3_code
def yX8_fateOf : MethodName := ⟨RX8, "fateOf", "(II)I"⟩
abbrev cX8_note : ByteArray := prog_10_method_4_code
def yX8_note : MethodName := ⟨RX8, "note", "(IZ)V"⟩
abbrev cX8_wantedWayOf : ByteArray := prog_10_method_5_code
def yX8_wantedWayOf : MethodName := ⟨RX8, "wantedWayOf", "(LStepCalls$Script;I)Z"⟩
abbrev cX8_wantedFinder : ByteArray := prog_10_method_6_code
def yX8_wantedFinder : MethodName := ⟨RX8, "wantedFinder", "(LStepCalls$Script;)Z"⟩
abbrev cX8_isAsSeen : ByteArray := prog_10_method_7_code
def yX8_isAsSeen : MethodName := ⟨RX8, "isAsSeen", "(LStepCalls$Script;)Z"⟩
def RX9 : String := "StepCalls"
def TX9 : u_T := fun k => match k with
  | 0 => ("StepCalls", "now", "LStepCalls$Exchange;", true)
  | 1 => ("StepCalls", "script", "LStepCalls$Script;", true)
  | 2 => ("StepCalls", "trial", "LStepCalls$Trial;", true)
  | 3 => ("StepCalls", "best", "LStepCalls$Best;", true)
  | 4 => ("StepCalls", "tally", "[[I", true)
  | 5 => ("StepCalls", "reader", "LStepCalls$Reader;", true)
  | 6 => ("StepCalls", "tape", "LStepCalls$Tape;", true)
  | 7 => ("StepCalls", "images", "[LStepCalls$Image;", true)
  | 8 => ("StepCalls", "sheets", "[LStepCalls$Sheet;", true)
  | 9 => ("StepCalls", "textFault", "I", false)
  | _ => ("StepCalls", "readFault", "I", false)
def tyX9 : Nat → FieldType := fun k => match k with
  | 0 => .object "StepCalls$Exchange"
  | 1 => .object "StepCalls$Script"
  | 2 => .object "StepCalls$Trial"
  | 3 => .object "StepCalls$Best"
  | 4 => .array (.array .int)
  | 5 => .object "StepCalls$Reader"
  | 6 => .object "StepCalls$Tape"
  | 7 => .array (.object "StepCalls$Image")
  | 8 => .array (.object "StepCalls$Sheet")
  | 9 => .int
  | _ => .int
theorem nmX9 : ∀ a, a < 11 → ∀ b, b < 11 → a ≠ b → (TX9 a).2.1 ≠ (TX9 b).2.1 := by decide +kernel
theorem tyX9_ok : ∀ k, k < 11 → parseFieldDescriptor (TX9 k).2.2.1 = some (tyX9 k) := by decide +kernel
abbrev cX9_init : ByteArray := prog_1_method_1_code
def yX9_init : MethodName := ⟨RX9, "<init>", "()V"⟩
abbrev cX9_feed : ByteArray := prog_1_method_2_code
def yX9_feed : MethodName := ⟨RX9, "feed", "(I)I"⟩
abbrev cX9_end : ByteArray := prog_1_method_3_code
def yX9_end : MethodName := ⟨RX9, "end", "(I)I"⟩
abbrev cX9_text : ByteArray := prog_1_method_4_code
def yX9_text : MethodName := ⟨RX9, "text", "()I"⟩
abbrev cX9_fault : ByteArray := prog_1_method_5_code
def yX9_fault : MethodName := ⟨RX9, "fault", "()I"⟩
abbrev cX9_rule : ByteArray := prog_1_method_6_code
def yX9_rule : MethodName := ⟨RX9, "rule", "(I)I"⟩
abbrev cX9_one : ByteArray := prog_1_method_7_code
def yX9_one : MethodName := ⟨RX9, "one", "(II)I"⟩
abbrev cX9_group : ByteArray := prog_1_method_8_code
def yX9_group : MethodName := ⟨RX9, "group", "(II)I"⟩
abbrev cX9_uses : ByteArray := prog_1_method_9_code
def yX9_uses : MethodName := ⟨RX9, "uses", "(II)I"⟩
abbrev cX9_act : ByteArray := prog_1_method_10_code
def yX9_act : MethodName := ⟨RX9, "act", "(II)I"⟩
abbrev cX9_number : ByteArray := prog_1_method_11_code
def yX9_number : MethodName := ⟨RX9, "number", "(II)I"⟩
abbrev cX9_finders : ByteArray := prog_1_method_12_code
def yX9_finders : MethodName := ⟨RX9, "finders", "(I)I"⟩
abbrev cX9_hunt : ByteArray := prog_1_method_13_code
def yX9_hunt : MethodName := ⟨RX9, "hunt", "(II)I"⟩
abbrev cX9_ways : ByteArray := prog_1_method_14_code
def yX9_ways : MethodName := ⟨RX9, "ways", "(II)I"⟩
abbrev cX9_dead : ByteArray := prog_1_method_15_code
def yX9_dead : MethodName := ⟨RX9, "dead", "(IIZ)I"⟩
abbrev cX9_plan : ByteArray := prog_1_method_16_code
def yX9_plan : MethodName := ⟨RX9, "plan", "(II)I"⟩
abbrev cX9_cut : ByteArray := prog_1_method_17_code
def yX9_cut : MethodName := ⟨RX9, "cut", "(I)I"⟩
abbrev cX9_dial : ByteArray := prog_1_method_18_code
def yX9_dial : MethodName := ⟨RX9, "dial", "(II)I"⟩
abbrev cX9_hang : ByteArray := prog_1_method_19_code
def yX9_hang : MethodName := ⟨RX9, "hang", "(I)I"⟩
abbrev cX9_runs : ByteArray := prog_1_method_20_code
def yX9_runs : MethodName := ⟨RX9, "runs", "(I)I"⟩
abbrev cX9_fate : ByteArray := prog_1_method_21_code
def yX9_fate : MethodName := ⟨RX9, "fate", "(I)I"⟩
abbrev cX9_ahead : ByteArray := prog_1_method_22_code
def yX9_ahead : MethodName := ⟨RX9, "ahead", "(I)I"⟩
abbrev cX9_need : ByteArray := prog_1_method_23_code
def yX9_need : MethodName := ⟨RX9, "need", "(I)I"⟩
abbrev cX9_few : ByteArray := prog_1_method_24_code
def yX9_few : MethodName := ⟨RX9, "few", "()I"⟩
abbrev cX9_grade : ByteArray := prog_1_method_25_code
def yX9_grade : MethodName := ⟨RX9, "grade", "(II)I"⟩
abbrev cX9_swap : ByteArray := prog_1_method_26_code
def yX9_swap : MethodName := ⟨RX9, "swap", "(I)I"⟩
abbrev cX9_leave : ByteArray := prog_1_method_27_code
def yX9_leave : MethodName := ⟨RX9, "leave", "(I)I"⟩
abbrev cX9_more : ByteArray := prog_1_method_28_code
def yX9_more : MethodName := ⟨RX9, "more", "(I)I"⟩
abbrev cX9_luck : ByteArray := prog_1_method_29_code
def yX9_luck : MethodName := ⟨RX9, "luck", "(IIII)J"⟩
abbrev cX9_mean : ByteArray := prog_1_method_30_code
def yX9_mean : MethodName := ⟨RX9, "mean", "(II)J"⟩
abbrev cX9_see : ByteArray := prog_1_method_31_code
def yX9_see : MethodName := ⟨RX9, "see", "(II)I"⟩
abbrev cX9_forget : ByteArray := prog_1_method_32_code
def yX9_forget : MethodName := ⟨RX9, "forget", "(I)I"⟩
abbrev cX9_hunts : ByteArray := prog_1_method_33_code
def yX9_hunts : MethodName := ⟨RX9, "hunts", "(I)I"⟩
abbrev cX9_deads : ByteArray := prog_1_method_34_code
def yX9_deads : MethodName := ⟨RX9, "deads", "(I)I"⟩
abbrev cX9_ask : ByteArray := prog_1_method_35_code
def yX9_ask : MethodName := ⟨RX9, "ask", "(II)I"⟩
abbrev cX9_drift : ByteArray := prog_1_method_36_code
def yX9_drift : MethodName := ⟨RX9, "drift", "(III)I"⟩
abbrev cX9_keep : ByteArray := prog_1_method_37_code
def yX9_keep : MethodName := ⟨RX9, "keep", "(I)I"⟩
abbrev cX9_back : ByteArray := prog_1_method_38_code
def yX9_back : MethodName := ⟨RX9, "back", "(I)I"⟩
abbrev cX9_sheet : ByteArray := prog_1_method_39_code
def yX9_sheet : MethodName := ⟨RX9, "sheet", "(III)I"⟩
abbrev cX9_lay : ByteArray := prog_1_method_40_code
def yX9_lay : MethodName := ⟨RX9, "lay", "(III)I"⟩
abbrev cX9_read : ByteArray := prog_1_method_41_code
def yX9_read : MethodName := ⟨RX9, "read", "(IIII)I"⟩
abbrev cX9_torn : ByteArray := prog_1_method_42_code
def yX9_torn : MethodName := ⟨RX9, "torn", "()I"⟩
abbrev cX9_count : ByteArray := prog_1_method_43_code
def yX9_count : MethodName := ⟨RX9, "count", "(I)I"⟩
abbrev cX9_isNumber : ByteArray := prog_1_method_44_code
def yX9_isNumber : MethodName := ⟨RX9, "isNumber", "(I)Z"⟩
abbrev cX9_isDialled : ByteArray := prog_1_method_45_code
def yX9_isDialled : MethodName := ⟨RX9, "isDialled", "(I)Z"⟩
abbrev cX9_isGroup : ByteArray := prog_1_method_46_code
def yX9_isGroup : MethodName := ⟨RX9, "isGroup", "(I)Z"⟩
abbrev cX9_isWay : ByteArray := prog_1_method_47_code
def yX9_isWay : MethodName := ⟨RX9, "isWay", "(II)Z"⟩
abbrev cX9_isAct : ByteArray := prog_1_method_48_code
def yX9_isAct : MethodName := ⟨RX9, "isAct", "(I)Z"⟩
abbrev cX9_isBit : ByteArray := prog_1_method_49_code
def yX9_isBit : MethodName := ⟨RX9, "isBit", "(I)Z"⟩
abbrev cX9_isOdds : ByteArray := prog_1_method_50_code
def yX9_isOdds : MethodName := ⟨RX9, "isOdds", "(I)Z"⟩
abbrev cX9_isSheet : ByteArray := prog_1_method_51_code
def yX9_isSheet : MethodName := ⟨RX9, "isSheet", "(I)Z"⟩
abbrev cX9_isLane : ByteArray := prog_1_method_52_code
def yX9_isLane : MethodName := ⟨RX9, "isLane", "(I)Z"⟩
abbrev cX9_dialIn : ByteArray := prog_1_method_53_code
def yX9_dialIn : MethodName := ⟨RX9, "dialIn", "(LStepCalls$Exchange;II)I"⟩
abbrev cX9_hangIn : ByteArray := prog_1_method_54_code
def yX9_hangIn : MethodName := ⟨RX9, "hangIn", "(LStepCalls$Exchange;I)I"⟩
abbrev cX9_isRefused : ByteArray := prog_1_method_55_code
def yX9_isRefused : MethodName := ⟨RX9, "isRefused", "(II)Z"⟩
abbrev cX9_followAsIs : ByteArray := prog_1_method_56_code
def yX9_followAsIs : MethodName := ⟨RX9, "followAsIs", "()V"⟩
abbrev cX9_followWithHunt : ByteArray := prog_1_method_57_code
def yX9_followWithHunt : MethodName := ⟨RX9, "followWithHunt", "(II)V"⟩
abbrev cX9_followWithDead : ByteArray := prog_1_method_58_code
def yX9_followWithDead : MethodName := ⟨RX9, "followWithDead", "(II)V"⟩
abbrev cX9_followWithSwap : ByteArray := prog_1_method_59_code
def yX9_followWithSwap : MethodName := ⟨RX9, "followWithSwap", "(II)V"⟩
abbrev cX9_clearTally : ByteArray := prog_1_method_60_code
def yX9_clearTally : MethodName := ⟨RX9, "clearTally", "()V"⟩
abbrev cX9_tallyFates : ByteArray := prog_1_method_61_code
def yX9_tallyFates : MethodName := ⟨RX9, "tallyFates", "()V"⟩
abbrev cX9_mostTallied : ByteArray := prog_1_method_62_code
def yX9_mostTallied : MethodName := ⟨RX9, "mostTallied", "(I)I"⟩
abbrev cX9_weighed : ByteArray := prog_1_method_63_code
def yX9_weighed : MethodName := ⟨RX9, "weighed", "(III)J"⟩
abbrev cX9_broughtBy : ByteArray := prog_1_method_64_code
def yX9_broughtBy : MethodName := ⟨RX9, "broughtBy", "(II)I"⟩
abbrev cX9_power : ByteArray := prog_1_method_65_code
def yX9_power : MethodName := ⟨RX9, "power", "(II)J"⟩
abbrev cX9_fraction : ByteArray := prog_1_method_66_code
def yX9_fraction : MethodName := ⟨RX9, "fraction", "(JJI)J"⟩
abbrev cX9_divisor : ByteArray := prog_1_method_67_code
def yX9_divisor : MethodName := ⟨RX9, "divisor", "(JJ)J"⟩
abbrev cX9_countImages : ByteArray := prog_1_method_68_code
def yX9_countImages : MethodName := ⟨RX9, "countImages", "()I"⟩
def RX10 : String := "StepCallsModel"
def TX10 : u_T := fun k => match k with
  | 0 => ("StepCallsModel", "st", "[I", true)
  | 1 => ("StepCallsModel", "now", "[I", true)
  | 2 => ("StepCallsModel", "isKept", "[Z", true)
  | 3 => ("StepCallsModel", "draft", "[I", true)
  | 4 => ("StepCallsModel", "hasFinders", "Z", false)
  | 5 => ("StepCallsModel", "hasPlan", "Z", false)
  | 6 => ("StepCallsModel", "toldGroups", "I", false)
  | 7 => ("StepCallsModel", "highest", "I", false)
  | 8 => ("StepCallsModel", "tape", "[I", true)
  | 9 => ("StepCallsModel", "taped", "I", false)
  | 10 => ("StepCallsModel", "pos", "I", false)
  | 11 => ("StepCallsModel", "begun", "I", false)
  | 12 => ("StepCallsModel", "sort", "I", false)
  | 13 => ("StepCallsModel", "value", "I", false)
  | 14 => ("StepCallsModel", "fault", "I", false)
  | 15 => ("StepCallsModel", "wrongAt", "I", false)
  | 16 => ("StepCallsModel", "fates", "[I", true)
  | 17 => ("StepCallsModel", "bestCode", "I", false)
  | 18 => ("StepCallsModel", "fewestLost", "I", false)
  | 19 => ("StepCallsModel", "mateSum", "J", false)
  | 20 => ("StepCallsModel", "lostSum", "J", false)
  | 21 => ("StepCallsModel", "allWays", "J", false)
  | 22 => ("StepCallsModel", "byFate", "[I", true)
  | 23 => ("StepCallsModel", "lanes", "[I", true)
  | 24 => ("StepCallsModel", "sizes", "[I", true)
  | 25 => ("StepCallsModel", "cells", "[I", true)
  | 26 => ("StepCallsModel", "torn", "I", false)
  | _ => ("StepCallsModel", "before", "[I", true)
def tyX10 : Nat → FieldType := fun k => match k with
  | 0 => .array .int
  | 1 => .array .int
  | 2 => .array .boolean
  | 3 => .array .int
  | 4 => .boolean
  | 5 => .boolean
  | 6 => .int
  | 7 => .int
  | 8 => .array .int
  | 9 => .int
  | 10 => .int
  | 11 => .int
  | 12 => .int
  | 13 => .int
  | 14 => .int
  | 15 => .int
  | 16 => .array .int
  | 17 => .int
  | 18 => .int
  | 19 => .long
  | 20 => .long
  | 21 => .long
  | 22 => .array .int
  | 23 => .array .int
  | 24 => .array .int
  | 25 => .array .int
  | 26 => .int
  | _ => .array .int
theorem nmX10 : ∀ a, a < 28 → ∀ b, b < 28 → a ≠ b → (TX10 a).2.1 ≠ (TX10 b).2.1 := by decide +kernel
theorem tyX10_ok : ∀ k, k < 28 → parseFieldDescriptor (TX10 k).2.2.1 = some (tyX10 k) := by decide +kernel
abbrev cX10_init : ByteArray := prog_12_method_1_code
def yX10_init : MethodName := ⟨RX10, "<init>", "()V"⟩
abbrev cX10_in : ByteArray := prog_12_method_3_code
def yX10_in : MethodName := ⟨RX10, "in", "(JJJ)Z"⟩
abbrev cX10_flag : ByteArray := prog_12_method_4_code
def yX10_flag : MethodName := ⟨RX10, "flag", "(Z)I"⟩
abbrev cX10_isNumber : ByteArray := prog_12_method_5_code
def yX10_isNumber : MethodName := ⟨RX10, "isNumber", "(I)Z"⟩
abbrev cX10_isDialled : ByteArray := prog_12_method_6_code
def yX10_isDialled : MethodName := ⟨RX10, "isDialled", "(I)Z"⟩
abbrev cX10_firstDraft : ByteArray := prog_12_method_7_code
def yX10_firstDraft : MethodName := ⟨RX10, "firstDraft", "()V"⟩
abbrev cX10_keepDraft : ByteArray := prog_12_method_8_code
def yX10_keepDraft : MethodName := ⟨RX10, "keepDraft", "()V"⟩
abbrev cX10_feed : ByteArray := prog_12_method_9_code
def yX10_feed : MethodName := ⟨RX10, "feed", "(I)I"⟩
abbrev cX10_end : ByteArray := prog_12_method_10_code
def yX10_end : MethodName := ⟨RX10, "end", "(I)I"⟩
abbrev cX10_needs : ByteArray := prog_12_method_11_code
def yX10_needs : MethodName := ⟨RX10, "needs", "(ZI)V"⟩
abbrev cX10_byteAt : ByteArray := prog_12_method_12_code
def yX10_byteAt : MethodName := ⟨RX10, "byteAt", "(I)I"⟩
abbrev cX10_is : ByteArray := prog_12_method_13_code
def yX10_is : MethodName := ⟨RX10, "is", "(III)Z"⟩
abbrev cX10_ends : ByteArray := prog_12_method_14_code
def yX10_ends : MethodName := ⟨RX10, "ends", "(II)Z"⟩
abbrev cX10_goesOn : ByteArray := prog_12_method_15_code
def yX10_goesOn : MethodName := ⟨RX10, "goesOn", "(III)Z"⟩
abbrev cX10_lineNow : ByteArray := prog_12_method_16_code
def yX10_lineNow : MethodName := ⟨RX10, "lineNow", "()I"⟩
abbrev cX10_takes : ByteArray := prog_12_method_17_code
def yX10_takes : MethodName := ⟨RX10, "takes", "()V"⟩
abbrev cX10_looked : ByteArray := prog_12_method_18_code
def yX10_looked : MethodName := ⟨RX10, "looked", "(II)I"⟩
abbrev cX10_readWorth : ByteArray := prog_12_method_19_code
def yX10_readWorth : MethodName := ⟨RX10, "readWorth", "(II)I"⟩
abbrev cX10_readSubscriber : ByteArray := prog_12_method_20_code
def yX10_readSubscriber : MethodName := ⟨RX10, "readSubscriber", "()V"⟩
abbrev cX10_readGroup : ByteArray := prog_12_method_21_code
def yX10_readGroup : MethodName := ⟨RX10, "readGroup", "(I)V"⟩
abbrev cX10_readPlan : ByteArray := prog_12_method_22_code
def yX10_readPlan : MethodName := ⟨RX10, "readPlan", "()V"⟩
abbrev cX10_readLineOf : ByteArray := prog_12_method_23_code
def yX10_readLineOf : MethodName := ⟨RX10, "readLineOf", "(I)V"⟩
abbrev cX10_readLine : ByteArray := prog_12_method_24_code
def yX10_readLine : MethodName := ⟨RX10, "readLine", "()V"⟩
abbrev cX10_text : ByteArray := prog_12_method_25_code
def yX10_text : MethodName := ⟨RX10, "text", "()I"⟩
abbrev cX10_fault : ByteArray := prog_12_method_26_code
def yX10_fault : MethodName := ⟨RX10, "fault", "()I"⟩
abbrev cX10_isOne : ByteArray := prog_12_method_27_code
def yX10_isOne : MethodName := ⟨RX10, "isOne", "(I)Z"⟩
abbrev cX10_isGroup : ByteArray := prog_12_method_28_code
def yX10_isGroup : MethodName := ⟨RX10, "isGroup", "(I)Z"⟩
abbrev cX10_isPart : ByteArray := prog_12_method_29_code
def yX10_isPart : MethodName := ⟨RX10, "isPart", "(I)Z"⟩
abbrev cX10_starts : ByteArray := prog_12_method_30_code
def yX10_starts : MethodName := ⟨RX10, "starts", "()V"⟩
abbrev cX10_settles : ByteArray := prog_12_method_31_code
def yX10_settles : MethodName := ⟨RX10, "settles", "()V"⟩
abbrev cX10_of : ByteArray := prog_12_method_32_code
def yX10_of : MethodName := ⟨RX10, "of", "(II)I"⟩
abbrev cX10_becomesOf : ByteArray := prog_12_method_33_code
def yX10_becomesOf : MethodName := ⟨RX10, "becomesOf", "(III)V"⟩
abbrev cX10_ofGroup : ByteArray := prog_12_method_34_code
def yX10_ofGroup : MethodName := ⟨RX10, "ofGroup", "(II)I"⟩
abbrev cX10_becomesOfGroup : ByteArray := prog_12_method_35_code
def yX10_becomesOfGroup : MethodName := ⟨RX10, "becomesOfGroup", "(III)V"⟩
abbrev cX10_usesOf : ByteArray := prog_12_method_36_code
def yX10_usesOf : MethodName := ⟨RX10, "usesOf", "(II)I"⟩
abbrev cX10_callsNow : ByteArray := prog_12_method_37_code
def yX10_callsNow : MethodName := ⟨RX10, "callsNow", "()I"⟩
abbrev cX10_held : ByteArray := prog_12_method_38_code
def yX10_held : MethodName := ⟨RX10, "held", "(I)I"⟩
abbrev cX10_taken : ByteArray := prog_12_method_39_code
def yX10_taken : MethodName := ⟨RX10, "taken", "(I)I"⟩
abbrev cX10_whoHas : ByteArray := prog_12_method_40_code
def yX10_whoHas : MethodName := ⟨RX10, "whoHas", "(I)I"⟩
abbrev cX10_connects : ByteArray := prog_12_method_41_code
def yX10_connects : MethodName := ⟨RX10, "connects", "(III)V"⟩
abbrev cX10_dials : ByteArray := prog_12_method_42_code
def yX10_dials : MethodName := ⟨RX10, "dials", "(II)I"⟩
abbrev cX10_leaves : ByteArray := prog_12_method_43_code
def yX10_leaves : MethodName := ⟨RX10, "leaves", "(I)V"⟩
abbrev cX10_hangsUp : ByteArray := prog_12_method_44_code
def yX10_hangsUp : MethodName := ⟨RX10, "hangsUp", "(I)V"⟩
abbrev cX10_acts : ByteArray := prog_12_method_45_code
def yX10_acts : MethodName := ⟨RX10, "acts", "(II)I"⟩
abbrev cX10_planGoes : ByteArray := prog_12_method_46_code
def yX10_planGoes : MethodName := ⟨RX10, "planGoes", "(I)V"⟩
abbrev cX10_isLost : ByteArray := prog_12_method_47_code
def yX10_isLost : MethodName := ⟨RX10, "isLost", "(I)Z"⟩
abbrev cX10_lostMany : ByteArray := prog_12_method_48_code
def yX10_lostMany : MethodName := ⟨RX10, "lostMany", "()I"⟩
abbrev cX10_allUses : ByteArray := prog_12_method_49_code
def yX10_allUses : MethodName := ⟨RX10, "allUses", "()I"⟩
abbrev cX10_rule : ByteArray := prog_12_method_50_code
def yX10_rule : MethodName := ⟨RX10, "rule", "(I)I"⟩
abbrev cX10_one : ByteArray := prog_12_method_51_code
def yX10_one : MethodName := ⟨RX10, "one", "(II)I"⟩
abbrev cX10_group : ByteArray := prog_12_method_52_code
def yX10_group : MethodName := ⟨RX10, "group", "(II)I"⟩
abbrev cX10_isWay : ByteArray := prog_12_method_53_code
def yX10_isWay : MethodName := ⟨RX10, "isWay", "(II)Z"⟩
abbrev cX10_uses : ByteArray := prog_12_method_54_code
def yX10_uses : MethodName := ⟨RX10, "uses", "(II)I"⟩
abbrev cX10_act : ByteArray := prog_12_method_55_code
def yX10_act : MethodName := ⟨RX10, "act", "(II)I"⟩
abbrev cX10_becomes : ByteArray := prog_12_method_56_code
def yX10_becomes : MethodName := ⟨RX10, "becomes", "(II)I"⟩
abbrev cX10_number : ByteArray := prog_12_method_57_code
def yX10_number : MethodName := ⟨RX10, "number", "(II)I"⟩
abbrev cX10_finders : ByteArray := prog_12_method_58_code
def yX10_finders : MethodName := ⟨RX10, "finders", "(I)I"⟩
abbrev cX10_hunt : ByteArray := prog_12_method_59_code
def yX10_hunt : MethodName := ⟨RX10, "hunt", "(II)I"⟩
abbrev cX10_hasWays : ByteArray := prog_12_method_60_code
def yX10_hasWays : MethodName := ⟨RX10, "hasWays", "(II)V"⟩
abbrev cX10_ways : ByteArray := prog_12_method_61_code
def yX10_ways : MethodName := ⟨RX10, "ways", "(II)I"⟩
abbrev cX10_dead : ByteArray := prog_12_method_62_code
def yX10_dead : MethodName := ⟨RX10, "dead", "(IIZ)I"⟩
abbrev cX10_plan : ByteArray := prog_12_method_63_code
def yX10_plan : MethodName := ⟨RX10, "plan", "(II)I"⟩
abbrev cX10_cut : ByteArray := prog_12_method_64_code
def yX10_cut : MethodName := ⟨RX10, "cut", "(I)I"⟩
abbrev cX10_dial : ByteArray := prog_12_method_65_code
def yX10_dial : MethodName := ⟨RX10, "dial", "(II)I"⟩
abbrev cX10_hang : ByteArray := prog_12_method_66_code
def yX10_hang : MethodName := ⟨RX10, "hang", "(I)I"⟩
abbrev cX10_runs : ByteArray := prog_12_method_67_code
def yX10_runs : MethodName := ⟨RX10, "runs", "(I)I"⟩
abbrev cX10_fate : ByteArray := prog_12_method_68_code
def yX10_fate : MethodName := ⟨RX10, "fate", "(I)I"⟩
abbrev cX10_ahead : ByteArray := prog_12_method_69_code
def yX10_ahead : MethodName := ⟨RX10, "ahead", "(I)I"⟩
abbrev cX10_isLostBy : ByteArray := prog_12_method_70_code
def yX10_isLostBy : MethodName := ⟨RX10, "isLostBy", "(II)Z"⟩
abbrev cX10_need : ByteArray := prog_12_method_71_code
def yX10_need : MethodName := ⟨RX10, "need", "(I)I"⟩
abbrev cX10_few : ByteArray := prog_12_method_72_code
def yX10_few : MethodName := ⟨RX10, "few", "()I"⟩
abbrev cX10_startsJudging : ByteArray := prog_12_method_73_code
def yX10_startsJudging : MethodName := ⟨RX10, "startsJudging", "()V"⟩
abbrev cX10_judges : ByteArray := prog_12_method_74_code
def yX10_judges : MethodName := ⟨RX10, "judges", "(II)V"⟩
abbrev cX10_judged : ByteArray := prog_12_method_75_code
def yX10_judged : MethodName := ⟨RX10, "judged", "(I)I"⟩
abbrev cX10_grade : ByteArray := prog_12_method_76_code
def yX10_grade : MethodName := ⟨RX10, "grade", "(II)I"⟩
abbrev cX10_swap : ByteArray := prog_12_method_77_code
def yX10_swap : MethodName := ⟨RX10, "swap", "(I)I"⟩
abbrev cX10_leave : ByteArray := prog_12_method_78_code
def yX10_leave : MethodName := ⟨RX10, "leave", "(I)I"⟩
abbrev cX10_more : ByteArray := prog_12_method_79_code
def yX10_more : MethodName := ⟨RX10, "more", "(I)I"⟩
abbrev cX10_common : ByteArray := prog_12_method_80_code
def yX10_common : MethodName := ⟨RX10, "common", "(JJ)J"⟩
abbrev cX10_told : ByteArray := prog_12_method_81_code
def yX10_told : MethodName := ⟨RX10, "told", "(JJI)J"⟩
abbrev cX10_findOdds : ByteArray := prog_12_method_82_code
def yX10_findOdds : MethodName := ⟨RX10, "findOdds", "(III)V"⟩
abbrev cX10_luck : ByteArray := prog_12_method_83_code
def yX10_luck : MethodName := ⟨RX10, "luck", "(IIII)J"⟩
abbrev cX10_mean : ByteArray := prog_12_method_84_code
def yX10_mean : MethodName := ⟨RX10, "mean", "(II)J"⟩
abbrev cX10_see : ByteArray := prog_12_method_85_code
def yX10_see : MethodName := ⟨RX10, "see", "(II)I"⟩
abbrev cX10_forget : ByteArray := prog_12_method_86_code
def yX10_forget : MethodName := ⟨RX10, "forget", "(I)I"⟩
abbrev cX10_isSoWith : ByteArray := prog_12_method_87_code
def yX10_isSoWith : MethodName := ⟨RX10, "isSoWith", "(III)Z"⟩
abbrev cX10_hunts : ByteArray := prog_12_method_88_code
def yX10_hunts : MethodName := ⟨RX10, "hunts", "(I)I"⟩
abbrev cX10_setsOf : ByteArray := prog_12_method_89_code
def yX10_setsOf : MethodName := ⟨RX10, "setsOf", "(I)I"⟩
abbrev cX10_deads : ByteArray := prog_12_method_90_code
def yX10_deads : MethodName := ⟨RX10, "deads", "(I)I"⟩
abbrev cX10_ask : ByteArray := prog_12_method_91_code
def yX10_ask : MethodName := ⟨RX10, "ask", "(II)I"⟩
abbrev cX10_drift : ByteArray := prog_12_method_92_code
def yX10_drift : MethodName := ⟨RX10, "drift", "(III)I"⟩
abbrev cX10_copies : ByteArray := prog_12_method_93_code
def yX10_copies : MethodName := ⟨RX10, "copies", "(II)V"⟩
abbrev cX10_keep : ByteArray := prog_12_method_94_code
def yX10_keep : MethodName := ⟨RX10, "keep", "(I)I"⟩
abbrev cX10_back : ByteArray := prog_12_method_95_code
def yX10_back : MethodName := ⟨RX10, "back", "(I)I"⟩
abbrev cX10_isSheet : ByteArray := prog_12_method_96_code
def yX10_isSheet : MethodName := ⟨RX10, "isSheet", "(II)Z"⟩
abbrev cX10_sheet : ByteArray := prog_12_method_97_code
def yX10_sheet : MethodName := ⟨RX10, "sheet", "(III)I"⟩
abbrev cX10_lay : ByteArray := prog_12_method_98_code
def yX10_lay : MethodName := ⟨RX10, "lay", "(III)I"⟩
abbrev cX10_read : ByteArray := prog_12_method_99_code
def yX10_read : MethodName := ⟨RX10, "read", "(IIII)I"⟩
abbrev cX10_torn : ByteArray := prog_12_method_100_code
def yX10_torn : MethodName := ⟨RX10, "torn", "()I"⟩
abbrev cX10_count : ByteArray := prog_12_method_101_code
def yX10_count : MethodName := ⟨RX10, "count", "(I)I"⟩
def RJ6 : String := "java/lang/Integer"
def TJ6 : u_T := fun k => match k with
  | _ => ("", "", "", false)
def tyJ6 : Nat → FieldType := fun k => match k with
  | _ => .int
theorem nmJ6 : ∀ a, a < 0 → ∀ b, b < 0 → a ≠ b → (TJ6 a).2.1 ≠ (TJ6 b).2.1 := by decide +kernel
theorem tyJ6_ok : ∀ k, k < 0 → parseFieldDescriptor (TJ6 k).2.2.1 = some (tyJ6 k) := by decide +kernel
abbrev cJ6_bitCount_0f7a4 : ByteArray := prog_13_method_49_code
def yJ6_bitCount_0f7a4 : MethodName := ⟨RJ6, "bitCount", "(I)I"⟩
def RJ9 : String := "java/lang/Math"
def TJ9 : u_T := fun k => match k with
  | _ => ("", "", "", false)
def tyJ9 : Nat → FieldType := fun k => match k with
  | _ => .int
theorem nmJ9 : ∀ a, a < 0 → ∀ b, b < 0 → a ≠ b → (TJ9 a).2.1 ≠ (TJ9 b).2.1 := by decide +kernel
theorem tyJ9_ok : ∀ k, k < 0 → parseFieldDescriptor (TJ9 k).2.2.1 = some (tyJ9 k) := by decide +kernel
abbrev cJ9_max_7cf53 : ByteArray := prog_14_method_65_code
def yJ9_max_7cf53 : MethodName := ⟨RJ9, "max", "(II)I"⟩
def RJ0 : String := "java/lang/String"
def TJ0 : u_T := fun k => match k with
  | _ => ("", "", "", false)
def tyJ0 : Nat → FieldType := fun k => match k with
  | _ => .int
theorem nmJ0 : ∀ a, a < 0 → ∀ b, b < 0 → a ≠ b → (TJ0 a).2.1 ≠ (TJ0 b).2.1 := by decide +kernel
theorem tyJ0_ok : ∀ k, k < 0 → parseFieldDescriptor (TJ0 k).2.2.1 = some (tyJ0 k) := by decide +kernel
abbrev cJ0_length_8abf5 : ByteArray := prog_15_method_54_code
def yJ0_length_8abf5 : MethodName := ⟨RJ0, "length", "()I"⟩
abbrev cJ0_charAt_5068e : ByteArray := prog_15_method_56_code
def yJ0_charAt_5068e : MethodName := ⟨RJ0, "charAt", "(I)C"⟩
abbrev cJ0_coder_7d493 : ByteArray := prog_15_method_152_code
def yJ0_coder_7d493 : MethodName := ⟨RJ0, "coder", "()B"⟩
abbrev cJ0_isLatin1_aae02 : ByteArray := prog_15_method_154_code
def yJ0_isLatin1_aae02 : MethodName := ⟨RJ0, "isLatin1", "()Z"⟩
abbrev cJ0_checkIndex_df160 : ByteArray := prog_15_method_155_code
def yJ0_checkIndex_df160 : MethodName := ⟨RJ0, "checkIndex", "(II)V"⟩
def RJ1 : String := "java/lang/StringLatin1"
def TJ1 : u_T := fun k => match k with
  | _ => ("", "", "", false)
def tyJ1 : Nat → FieldType := fun k => match k with
  | _ => .int
theorem nmJ1 : ∀ a, a < 0 → ∀ b, b < 0 → a ≠ b → (TJ1 a).2.1 ≠ (TJ1 b).2.1 := by decide +kernel
theorem tyJ1_ok : ∀ k, k < 0 → parseFieldDescriptor (TJ1 k).2.2.1 = some (tyJ1 k) := by decide +kernel
abbrev cJ1_charAt_3b067 : ByteArray := prog_16_method_2_code
def yJ1_charAt_3b067 : MethodName := ⟨RJ1, "charAt", "([BI)C"⟩
def RJ2 : String := "java/lang/StringUTF16"
def TJ2 : u_T := fun k => match k with
  | _ => ("", "", "", false)
def tyJ2 : Nat → FieldType := fun k => match k with
  | _ => .int
theorem nmJ2 : ∀ a, a < 0 → ∀ b, b < 0 → a ≠ b → (TJ2 a).2.1 ≠ (TJ2 b).2.1 := by decide +kernel
theorem tyJ2_ok : ∀ k, k < 0 → parseFieldDescriptor (TJ2 k).2.2.1 = some (tyJ2 k) := by decide +kernel
abbrev cJ2_getChar_3b067 : ByteArray := prog_17_method_5_code
def yJ2_getChar_3b067 : MethodName := ⟨RJ2, "getChar", "([BI)C"⟩
abbrev cJ2_length_9d52b : ByteArray := prog_17_method_6_code
def yJ2_length_9d52b : MethodName := ⟨RJ2, "length", "([B)I"⟩
abbrev cJ2_charAt_3b067 : ByteArray := prog_17_method_83_code
def yJ2_charAt_3b067 : MethodName := ⟨RJ2, "charAt", "([BI)C"⟩
abbrev cJ2_checkIndex_2214a : ByteArray := prog_17_method_91_code
def yJ2_checkIndex_2214a : MethodName := ⟨RJ2, "checkIndex", "(I[B)V"⟩
def RJ3 : String := "jdk/internal/util/Preconditions"
def TJ3 : u_T := fun k => match k with
  | _ => ("", "", "", false)
def tyJ3 : Nat → FieldType := fun k => match k with
  | _ => .int
theorem nmJ3 : ∀ a, a < 0 → ∀ b, b < 0 → a ≠ b → (TJ3 a).2.1 ≠ (TJ3 b).2.1 := by decide +kernel
theorem tyJ3_ok : ∀ k, k < 0 → parseFieldDescriptor (TJ3 k).2.2.1 = some (tyJ3 k) := by decide +kernel
abbrev cJ3_checkIndex_8e157 : ByteArray := prog_18_method_11_code
def yJ3_checkIndex_8e157 : MethodName := ⟨RJ3, "checkIndex", "(IILjava/util/function/BiFunction;)I"⟩
def RL : String := "StepCallsLaw"
abbrev cL_law : ByteArray := code
def yL_law : MethodName := ⟨RL, "law", "([I)Z"⟩
abbrev vwCl : List vw_C := [(RX0, TX0, 2), (RX1, TX1, 8), (RX2, TX2, 6), (RX3, TX3, 3), (RX4, TX4, 9), (RX5, TX5, 6), (RX6, TX6, 3), (RX7, TX7, 6), (RX8, TX8, 6), (RX9, TX9, 11), (RX10, TX10, 28)]

/-- the words of the tables that every method's contract carries -/
def TB : List Cond := lw_tbl.filter goodWord
theorem tb_of {w : Cond} (i : Nat) (h : lw_tbl[i]? = some w ∧ goodWord w = true) : w ∈ TB := List.mem_filter.mpr ⟨List.mem_of_getElem? h.1, h.2⟩
theorem tb_good {w : Cond} (h : w ∈ TB) : (w.onTables && w.keeps) = true ∨ ∃ ty, w = .arrayClass ty := good_of_word (List.mem_filter.mp h).2
theorem tb_all {ws : List Cond} (h : ∀ w ∈ ws, w ∈ TB) : GoodIn TB ws := fun w hw => ⟨h w hw, tb_good (h w hw)⟩
theorem tb_big {ws : List Cond} {a : Array Value} {s : State} (h : ∀ w ∈ lw_tbl, w.before a s = true) : ∀ w ∈ TB, w.before a s = true := fun w hw => h w (List.mem_filter.mp hw).1
