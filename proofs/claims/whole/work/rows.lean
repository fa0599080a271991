section
-- ===== PART A: goes FIRST, ahead of the names: the tables' words, and 'selects' of the private methods out of them =====
/-- a private method of a class that the tables say can be made, by its rows of tables_1 -/
def lw_okq (q : MethodName × Nat) : Prop := (q.1.cls ≠ "java/lang/invoke/MethodHandle" ∧ q.1.cls ≠ "java/lang/invoke/VarHandle") ∧ Cond.instantiable q.1.cls q.2 ∈ tables_1 ∧ Cond.privateMethod q.1 ∈ tables_1 ∧ Cond.instanceMethod q.1 ∈ tables_1
theorem lw_p0 : lw_okq (⟨"EventVault", "forgetWhatDoesNotLast", "()V"⟩, 7) := ⟨⟨by decide +kernel, by decide +kernel⟩, List.mem_of_getElem? (i := 23) (by decide +kernel), List.mem_of_getElem? (i := 328) (by decide +kernel), List.mem_of_getElem? (i := 329) (by decide +kernel)⟩
theorem lw_p1 : lw_okq (⟨"java/lang/Throwable", "fillInStackTrace", "(I)Ljava/lang/Throwable;"⟩, 6) := ⟨⟨by decide +kernel, by decide +kernel⟩, List.mem_of_getElem? (i := 403) (by decide +kernel), List.mem_of_getElem? (i := 401) (by decide +kernel), List.mem_of_getElem? (i := 402) (by decide +kernel)⟩
theorem lw_p2 : lw_okq (⟨"EventVault", "requireOn", "()V"⟩, 7) := ⟨⟨by decide +kernel, by decide +kernel⟩, List.mem_of_getElem? (i := 23) (by decide +kernel), List.mem_of_getElem? (i := 483) (by decide +kernel), List.mem_of_getElem? (i := 484) (by decide +kernel)⟩
theorem lw_p3 : lw_okq (⟨"EventVault$Events", "standsFrom", "(LEventVault$Draft;I)Z"⟩, 9) := ⟨⟨by decide +kernel, by decide +kernel⟩, List.mem_of_getElem? (i := 100) (by decide +kernel), List.mem_of_getElem? (i := 513) (by decide +kernel), List.mem_of_getElem? (i := 514) (by decide +kernel)⟩
theorem lw_p4 : lw_okq (⟨"EventVault$Disk", "outlastsPower", "(I)Z"⟩, 4) := ⟨⟨by decide +kernel, by decide +kernel⟩, List.mem_of_getElem? (i := 31) (by decide +kernel), List.mem_of_getElem? (i := 531) (by decide +kernel), List.mem_of_getElem? (i := 532) (by decide +kernel)⟩
theorem lw_p5 : lw_okq (⟨"EventVault$Events", "add", "(IIIJ)V"⟩, 9) := ⟨⟨by decide +kernel, by decide +kernel⟩, List.mem_of_getElem? (i := 100) (by decide +kernel), List.mem_of_getElem? (i := 539) (by decide +kernel), List.mem_of_getElem? (i := 540) (by decide +kernel)⟩
theorem lw_p6 : lw_okq (⟨"EventVault", "throwIfPowerFailed", "()V"⟩, 7) := ⟨⟨by decide +kernel, by decide +kernel⟩, List.mem_of_getElem? (i := 23) (by decide +kernel), List.mem_of_getElem? (i := 562) (by decide +kernel), List.mem_of_getElem? (i := 563) (by decide +kernel)⟩
theorem lw_p7 : lw_okq (⟨"EventVault", "requireNotEnded", "(I)V"⟩, 7) := ⟨⟨by decide +kernel, by decide +kernel⟩, List.mem_of_getElem? (i := 23) (by decide +kernel), List.mem_of_getElem? (i := 580) (by decide +kernel), List.mem_of_getElem? (i := 581) (by decide +kernel)⟩
theorem lw_p8 : lw_okq (⟨"EventVault", "requireRoom", "(I)V"⟩, 7) := ⟨⟨by decide +kernel, by decide +kernel⟩, List.mem_of_getElem? (i := 23) (by decide +kernel), List.mem_of_getElem? (i := 585) (by decide +kernel), List.mem_of_getElem? (i := 586) (by decide +kernel)⟩
theorem lw_p9 : lw_okq (⟨"EventVault", "passTo", "(I)V"⟩, 7) := ⟨⟨by decide +kernel, by decide +kernel⟩, List.mem_of_getElem? (i := 23) (by decide +kernel), List.mem_of_getElem? (i := 627) (by decide +kernel), List.mem_of_getElem? (i := 628) (by decide +kernel)⟩
theorem lw_p10 : lw_okq (⟨"EventVault$Group", "findOut", "(I)I"⟩, 9) := ⟨⟨by decide +kernel, by decide +kernel⟩, List.mem_of_getElem? (i := 227) (by decide +kernel), List.mem_of_getElem? (i := 639) (by decide +kernel), List.mem_of_getElem? (i := 640) (by decide +kernel)⟩
theorem lw_p11 : lw_okq (⟨"EventVault$Group", "dropOut", "(I)V"⟩, 9) := ⟨⟨by decide +kernel, by decide +kernel⟩, List.mem_of_getElem? (i := 227) (by decide +kernel), List.mem_of_getElem? (i := 643) (by decide +kernel), List.mem_of_getElem? (i := 644) (by decide +kernel)⟩
theorem lw_p12 : lw_okq (⟨"EventVault", "requireOut", "(II)V"⟩, 7) := ⟨⟨by decide +kernel, by decide +kernel⟩, List.mem_of_getElem? (i := 23) (by decide +kernel), List.mem_of_getElem? (i := 733) (by decide +kernel), List.mem_of_getElem? (i := 734) (by decide +kernel)⟩
theorem lw_p13 : lw_okq (⟨"EventVault$Projection", "wants", "(II)Z"⟩, 8) := ⟨⟨by decide +kernel, by decide +kernel⟩, List.mem_of_getElem? (i := 262) (by decide +kernel), List.mem_of_getElem? (i := 810) (by decide +kernel), List.mem_of_getElem? (i := 811) (by decide +kernel)⟩
theorem lw_p14 : lw_okq (⟨"EventVault$Machine", "isRunning", "()Z"⟩, 9) := ⟨⟨by decide +kernel, by decide +kernel⟩, List.mem_of_getElem? (i := 184) (by decide +kernel), List.mem_of_getElem? (i := 824) (by decide +kernel), List.mem_of_getElem? (i := 825) (by decide +kernel)⟩
theorem lw_p15 : lw_okq (⟨"EventVault$Machine", "work", "(IILEventVault$Events;I)V"⟩, 9) := ⟨⟨by decide +kernel, by decide +kernel⟩, List.mem_of_getElem? (i := 184) (by decide +kernel), List.mem_of_getElem? (i := 828) (by decide +kernel), List.mem_of_getElem? (i := 829) (by decide +kernel)⟩
def lw_privs_1 : List (MethodName × Nat) := [(⟨"EventVault", "forgetWhatDoesNotLast", "()V"⟩, 7), (⟨"java/lang/Throwable", "fillInStackTrace", "(I)Ljava/lang/Throwable;"⟩, 6), (⟨"EventVault", "requireOn", "()V"⟩, 7), (⟨"EventVault$Events", "standsFrom", "(LEventVault$Draft;I)Z"⟩, 9), (⟨"EventVault$Disk", "outlastsPower", "(I)Z"⟩, 4), (⟨"EventVault$Events", "add", "(IIIJ)V"⟩, 9), (⟨"EventVault", "throwIfPowerFailed", "()V"⟩, 7), (⟨"EventVault", "requireNotEnded", "(I)V"⟩, 7), (⟨"EventVault", "requireRoom", "(I)V"⟩, 7), (⟨"EventVault", "passTo", "(I)V"⟩, 7), (⟨"EventVault$Group", "findOut", "(I)I"⟩, 9), (⟨"EventVault$Group", "dropOut", "(I)V"⟩, 9), (⟨"EventVault", "requireOut", "(II)V"⟩, 7), (⟨"EventVault$Projection", "wants", "(II)Z"⟩, 8), (⟨"EventVault$Machine", "isRunning", "()Z"⟩, 9), (⟨"EventVault$Machine", "work", "(IILEventVault$Events;I)V"⟩, 9)]
theorem lw_r1 : ∀ q ∈ lw_privs_1, lw_okq q := List.forall_mem_cons.mpr ⟨lw_p0, List.forall_mem_cons.mpr ⟨lw_p1, List.forall_mem_cons.mpr ⟨lw_p2, List.forall_mem_cons.mpr ⟨lw_p3, List.forall_mem_cons.mpr ⟨lw_p4, List.forall_mem_cons.mpr ⟨lw_p5, List.forall_mem_cons.mpr ⟨lw_p6, List.forall_mem_cons.mpr ⟨lw_p7, List.forall_mem_cons.mpr ⟨lw_p8, List.forall_mem_cons.mpr ⟨lw_p9, List.forall_mem_cons.mpr ⟨lw_p10, List.forall_mem_cons.mpr ⟨lw_p11, List.forall_mem_cons.mpr ⟨lw_p12, List.forall_mem_cons.mpr ⟨lw_p13, List.forall_mem_cons.mpr ⟨lw_p14, List.forall_mem_cons.mpr ⟨lw_p15, fun _ h => absurd h List.not_mem_nil⟩⟩⟩⟩⟩⟩⟩⟩⟩⟩⟩⟩⟩⟩⟩⟩
theorem lw_p16 : lw_okq (⟨"EventVault$Machine", "pushed", "(IILEventVault$Events;I)J"⟩, 9) := ⟨⟨by decide +kernel, by decide +kernel⟩, List.mem_of_getElem? (i := 184) (by decide +kernel), List.mem_of_getElem? (i := 832) (by decide +kernel), List.mem_of_getElem? (i := 833) (by decide +kernel)⟩
theorem lw_p17 : lw_okq (⟨"EventVault$Machine", "push", "(J)V"⟩, 9) := ⟨⟨by decide +kernel, by decide +kernel⟩, List.mem_of_getElem? (i := 184) (by decide +kernel), List.mem_of_getElem? (i := 836) (by decide +kernel), List.mem_of_getElem? (i := 837) (by decide +kernel)⟩
theorem lw_p18 : lw_okq (⟨"EventVault$Machine", "pop", "()J"⟩, 9) := ⟨⟨by decide +kernel, by decide +kernel⟩, List.mem_of_getElem? (i := 184) (by decide +kernel), List.mem_of_getElem? (i := 840) (by decide +kernel), List.mem_of_getElem? (i := 841) (by decide +kernel)⟩
theorem lw_p19 : lw_okq (⟨"EventVault$Machine", "joined", "(IJJ)J"⟩, 9) := ⟨⟨by decide +kernel, by decide +kernel⟩, List.mem_of_getElem? (i := 184) (by decide +kernel), List.mem_of_getElem? (i := 844) (by decide +kernel), List.mem_of_getElem? (i := 845) (by decide +kernel)⟩
theorem lw_p20 : lw_okq (⟨"EventVault$Machine", "divided", "(JJ)J"⟩, 9) := ⟨⟨by decide +kernel, by decide +kernel⟩, List.mem_of_getElem? (i := 184) (by decide +kernel), List.mem_of_getElem? (i := 848) (by decide +kernel), List.mem_of_getElem? (i := 849) (by decide +kernel)⟩
theorem lw_p21 : lw_okq (⟨"EventVault$Machine", "workRest", "(II)V"⟩, 9) := ⟨⟨by decide +kernel, by decide +kernel⟩, List.mem_of_getElem? (i := 184) (by decide +kernel), List.mem_of_getElem? (i := 852) (by decide +kernel), List.mem_of_getElem? (i := 853) (by decide +kernel)⟩
theorem lw_p22 : lw_okq (⟨"EventVault$Machine", "pushTwice", "(J)V"⟩, 9) := ⟨⟨by decide +kernel, by decide +kernel⟩, List.mem_of_getElem? (i := 184) (by decide +kernel), List.mem_of_getElem? (i := 856) (by decide +kernel), List.mem_of_getElem? (i := 857) (by decide +kernel)⟩
theorem lw_p23 : lw_okq (⟨"EventVault$Machine", "pushChanged", "(JJ)V"⟩, 9) := ⟨⟨by decide +kernel, by decide +kernel⟩, List.mem_of_getElem? (i := 184) (by decide +kernel), List.mem_of_getElem? (i := 860) (by decide +kernel), List.mem_of_getElem? (i := 861) (by decide +kernel)⟩
theorem lw_p24 : lw_okq (⟨"EventVault$Machine", "emit", "(IJ)V"⟩, 9) := ⟨⟨by decide +kernel, by decide +kernel⟩, List.mem_of_getElem? (i := 184) (by decide +kernel), List.mem_of_getElem? (i := 864) (by decide +kernel), List.mem_of_getElem? (i := 865) (by decide +kernel)⟩
theorem lw_p25 : lw_okq (⟨"EventVault", "breakAt", "(LEventVault$Projection;I)I"⟩, 7) := ⟨⟨by decide +kernel, by decide +kernel⟩, List.mem_of_getElem? (i := 23) (by decide +kernel), List.mem_of_getElem? (i := 868) (by decide +kernel), List.mem_of_getElem? (i := 869) (by decide +kernel)⟩
theorem lw_p26 : lw_okq (⟨"EventVault", "keepWork", "(II)I"⟩, 7) := ⟨⟨by decide +kernel, by decide +kernel⟩, List.mem_of_getElem? (i := 23) (by decide +kernel), List.mem_of_getElem? (i := 872) (by decide +kernel), List.mem_of_getElem? (i := 873) (by decide +kernel)⟩
theorem lw_p27 : lw_okq (⟨"EventVault", "keptBytes", "()I"⟩, 7) := ⟨⟨by decide +kernel, by decide +kernel⟩, List.mem_of_getElem? (i := 23) (by decide +kernel), List.mem_of_getElem? (i := 902) (by decide +kernel), List.mem_of_getElem? (i := 903) (by decide +kernel)⟩
theorem lw_p28 : lw_okq (⟨"EventVault", "keptGroupBytes", "(LEventVault$Group;)I"⟩, 7) := ⟨⟨by decide +kernel, by decide +kernel⟩, List.mem_of_getElem? (i := 23) (by decide +kernel), List.mem_of_getElem? (i := 910) (by decide +kernel), List.mem_of_getElem? (i := 911) (by decide +kernel)⟩
theorem lw_p29 : lw_okq (⟨"EventVault", "toldOfState", "(I)I"⟩, 7) := ⟨⟨by decide +kernel, by decide +kernel⟩, List.mem_of_getElem? (i := 23) (by decide +kernel), List.mem_of_getElem? (i := 951) (by decide +kernel), List.mem_of_getElem? (i := 952) (by decide +kernel)⟩
theorem lw_p30 : lw_okq (⟨"EventVault", "toldOfAll", "(I)I"⟩, 7) := ⟨⟨by decide +kernel, by decide +kernel⟩, List.mem_of_getElem? (i := 23) (by decide +kernel), List.mem_of_getElem? (i := 955) (by decide +kernel), List.mem_of_getElem? (i := 956) (by decide +kernel)⟩
theorem lw_p31 : lw_okq (⟨"EventVault", "toldOfGroup", "(LEventVault$Group;I)I"⟩, 7) := ⟨⟨by decide +kernel, by decide +kernel⟩, List.mem_of_getElem? (i := 23) (by decide +kernel), List.mem_of_getElem? (i := 959) (by decide +kernel), List.mem_of_getElem? (i := 960) (by decide +kernel)⟩
def lw_privs_2 : List (MethodName × Nat) := [(⟨"EventVault$Machine", "pushed", "(IILEventVault$Events;I)J"⟩, 9), (⟨"EventVault$Machine", "push", "(J)V"⟩, 9), (⟨"EventVault$Machine", "pop", "()J"⟩, 9), (⟨"EventVault$Machine", "joined", "(IJJ)J"⟩, 9), (⟨"EventVault$Machine", "divided", "(JJ)J"⟩, 9), (⟨"EventVault$Machine", "workRest", "(II)V"⟩, 9), (⟨"EventVault$Machine", "pushTwice", "(J)V"⟩, 9), (⟨"EventVault$Machine", "pushChanged", "(JJ)V"⟩, 9), (⟨"EventVault$Machine", "emit", "(IJ)V"⟩, 9), (⟨"EventVault", "breakAt", "(LEventVault$Projection;I)I"⟩, 7), (⟨"EventVault", "keepWork", "(II)I"⟩, 7), (⟨"EventVault", "keptBytes", "()I"⟩, 7), (⟨"EventVault", "keptGroupBytes", "(LEventVault$Group;)I"⟩, 7), (⟨"EventVault", "toldOfState", "(I)I"⟩, 7), (⟨"EventVault", "toldOfAll", "(I)I"⟩, 7), (⟨"EventVault", "toldOfGroup", "(LEventVault$Group;I)I"⟩, 7)]
theorem lw_r2 : ∀ q ∈ lw_privs_2, lw_okq q := List.forall_mem_cons.mpr ⟨lw_p16, List.forall_mem_cons.mpr ⟨lw_p17, List.forall_mem_cons.mpr ⟨lw_p18, List.forall_mem_cons.mpr ⟨lw_p19, List.forall_mem_cons.mpr ⟨lw_p20, List.forall_mem_cons.mpr ⟨lw_p21, List.forall_mem_cons.mpr ⟨lw_p22, List.forall_mem_cons.mpr ⟨lw_p23, List.forall_mem_cons.mpr ⟨lw_p24, List.forall_mem_cons.mpr ⟨lw_p25, List.forall_mem_cons.mpr ⟨lw_p26, List.forall_mem_cons.mpr ⟨lw_p27, List.forall_mem_cons.mpr ⟨lw_p28, List.forall_mem_cons.mpr ⟨lw_p29, List.forall_mem_cons.mpr ⟨lw_p30, List.forall_mem_cons.mpr ⟨lw_p31, fun _ h => absurd h List.not_mem_nil⟩⟩⟩⟩⟩⟩⟩⟩⟩⟩⟩⟩⟩⟩⟩⟩
theorem lw_p32 : lw_okq (⟨"EventVaultModel", "bad", "(ZI)Z"⟩, 51) := ⟨⟨by decide +kernel, by decide +kernel⟩, List.mem_of_getElem? (i := 963) (by decide +kernel), List.mem_of_getElem? (i := 1135) (by decide +kernel), List.mem_of_getElem? (i := 1136) (by decide +kernel)⟩
theorem lw_p33 : lw_okq (⟨"EventVaultModel", "stands", "(III)I"⟩, 51) := ⟨⟨by decide +kernel, by decide +kernel⟩, List.mem_of_getElem? (i := 963) (by decide +kernel), List.mem_of_getElem? (i := 1143) (by decide +kernel), List.mem_of_getElem? (i := 1144) (by decide +kernel)⟩
theorem lw_p34 : lw_okq (⟨"EventVaultModel", "at", "(II)I"⟩, 51) := ⟨⟨by decide +kernel, by decide +kernel⟩, List.mem_of_getElem? (i := 963) (by decide +kernel), List.mem_of_getElem? (i := 1147) (by decide +kernel), List.mem_of_getElem? (i := 1148) (by decide +kernel)⟩
theorem lw_p35 : lw_okq (⟨"EventVaultModel", "isFull", "(I)Z"⟩, 51) := ⟨⟨by decide +kernel, by decide +kernel⟩, List.mem_of_getElem? (i := 963) (by decide +kernel), List.mem_of_getElem? (i := 1151) (by decide +kernel), List.mem_of_getElem? (i := 1152) (by decide +kernel)⟩
theorem lw_p36 : lw_okq (⟨"EventVaultModel", "lasts", "(I)Z"⟩, 51) := ⟨⟨by decide +kernel, by decide +kernel⟩, List.mem_of_getElem? (i := 963) (by decide +kernel), List.mem_of_getElem? (i := 1156) (by decide +kernel), List.mem_of_getElem? (i := 1157) (by decide +kernel)⟩
theorem lw_p37 : lw_okq (⟨"EventVaultModel", "comes", "(IIIJ)V"⟩, 51) := ⟨⟨by decide +kernel, by decide +kernel⟩, List.mem_of_getElem? (i := 963) (by decide +kernel), List.mem_of_getElem? (i := 1160) (by decide +kernel), List.mem_of_getElem? (i := 1161) (by decide +kernel)⟩
theorem lw_p38 : lw_okq (⟨"EventVaultModel", "hide", "()V"⟩, 51) := ⟨⟨by decide +kernel, by decide +kernel⟩, List.mem_of_getElem? (i := 963) (by decide +kernel), List.mem_of_getElem? (i := 1164) (by decide +kernel), List.mem_of_getElem? (i := 1165) (by decide +kernel)⟩
theorem lw_p39 : lw_okq (⟨"EventVaultModel", "fails", "(I)V"⟩, 51) := ⟨⟨by decide +kernel, by decide +kernel⟩, List.mem_of_getElem? (i := 963) (by decide +kernel), List.mem_of_getElem? (i := 1168) (by decide +kernel), List.mem_of_getElem? (i := 1169) (by decide +kernel)⟩
theorem lw_p40 : lw_okq (⟨"EventVaultModel", "off", "()V"⟩, 51) := ⟨⟨by decide +kernel, by decide +kernel⟩, List.mem_of_getElem? (i := 963) (by decide +kernel), List.mem_of_getElem? (i := 1172) (by decide +kernel), List.mem_of_getElem? (i := 1173) (by decide +kernel)⟩
theorem lw_p41 : lw_okq (⟨"EventVaultModel", "visible", "(I)I"⟩, 51) := ⟨⟨by decide +kernel, by decide +kernel⟩, List.mem_of_getElem? (i := 963) (by decide +kernel), List.mem_of_getElem? (i := 1184) (by decide +kernel), List.mem_of_getElem? (i := 1185) (by decide +kernel)⟩
theorem lw_p42 : lw_okq (⟨"EventVaultModel", "isGroup", "(I)Z"⟩, 51) := ⟨⟨by decide +kernel, by decide +kernel⟩, List.mem_of_getElem? (i := 963) (by decide +kernel), List.mem_of_getElem? (i := 1208) (by decide +kernel), List.mem_of_getElem? (i := 1209) (by decide +kernel)⟩
theorem lw_p43 : lw_okq (⟨"EventVaultModel", "outs", "(I)I"⟩, 51) := ⟨⟨by decide +kernel, by decide +kernel⟩, List.mem_of_getElem? (i := 963) (by decide +kernel), List.mem_of_getElem? (i := 1212) (by decide +kernel), List.mem_of_getElem? (i := 1213) (by decide +kernel)⟩
theorem lw_p44 : lw_okq (⟨"EventVaultModel", "isWanted", "(II)Z"⟩, 51) := ⟨⟨by decide +kernel, by decide +kernel⟩, List.mem_of_getElem? (i := 963) (by decide +kernel), List.mem_of_getElem? (i := 1216) (by decide +kernel), List.mem_of_getElem? (i := 1217) (by decide +kernel)⟩
theorem lw_p45 : lw_okq (⟨"EventVaultModel", "isOut", "(II)Z"⟩, 51) := ⟨⟨by decide +kernel, by decide +kernel⟩, List.mem_of_getElem? (i := 963) (by decide +kernel), List.mem_of_getElem? (i := 1224) (by decide +kernel), List.mem_of_getElem? (i := 1225) (by decide +kernel)⟩
theorem lw_p46 : lw_okq (⟨"EventVaultModel", "works", "(II)Z"⟩, 51) := ⟨⟨by decide +kernel, by decide +kernel⟩, List.mem_of_getElem? (i := 963) (by decide +kernel), List.mem_of_getElem? (i := 1244) (by decide +kernel), List.mem_of_getElem? (i := 1245) (by decide +kernel)⟩
theorem lw_p47 : lw_okq (⟨"EventVaultModel", "pop", "()J"⟩, 51) := ⟨⟨by decide +kernel, by decide +kernel⟩, List.mem_of_getElem? (i := 963) (by decide +kernel), List.mem_of_getElem? (i := 1248) (by decide +kernel), List.mem_of_getElem? (i := 1249) (by decide +kernel)⟩
def lw_privs_3 : List (MethodName × Nat) := [(⟨"EventVaultModel", "bad", "(ZI)Z"⟩, 51), (⟨"EventVaultModel", "stands", "(III)I"⟩, 51), (⟨"EventVaultModel", "at", "(II)I"⟩, 51), (⟨"EventVaultModel", "isFull", "(I)Z"⟩, 51), (⟨"EventVaultModel", "lasts", "(I)Z"⟩, 51), (⟨"EventVaultModel", "comes", "(IIIJ)V"⟩, 51), (⟨"EventVaultModel", "hide", "()V"⟩, 51), (⟨"EventVaultModel", "fails", "(I)V"⟩, 51), (⟨"EventVaultModel", "off", "()V"⟩, 51), (⟨"EventVaultModel", "visible", "(I)I"⟩, 51), (⟨"EventVaultModel", "isGroup", "(I)Z"⟩, 51), (⟨"EventVaultModel", "outs", "(I)I"⟩, 51), (⟨"EventVaultModel", "isWanted", "(II)Z"⟩, 51), (⟨"EventVaultModel", "isOut", "(II)Z"⟩, 51), (⟨"EventVaultModel", "works", "(II)Z"⟩, 51), (⟨"EventVaultModel", "pop", "()J"⟩, 51)]
theorem lw_r3 : ∀ q ∈ lw_privs_3, lw_okq q := List.forall_mem_cons.mpr ⟨lw_p32, List.forall_mem_cons.mpr ⟨lw_p33, List.forall_mem_cons.mpr ⟨lw_p34, List.forall_mem_cons.mpr ⟨lw_p35, List.forall_mem_cons.mpr ⟨lw_p36, List.forall_mem_cons.mpr ⟨lw_p37, List.forall_mem_cons.mpr ⟨lw_p38, List.forall_mem_cons.mpr ⟨lw_p39, List.forall_mem_cons.mpr ⟨lw_p40, List.forall_mem_cons.mpr ⟨lw_p41, List.forall_mem_cons.mpr ⟨lw_p42, List.forall_mem_cons.mpr ⟨lw_p43, List.forall_mem_cons.mpr ⟨lw_p44, List.forall_mem_cons.mpr ⟨lw_p45, List.forall_mem_cons.mpr ⟨lw_p46, List.forall_mem_cons.mpr ⟨lw_p47, fun _ h => absurd h List.not_mem_nil⟩⟩⟩⟩⟩⟩⟩⟩⟩⟩⟩⟩⟩⟩⟩⟩
theorem lw_p48 : lw_okq (⟨"EventVaultModel", "does", "(III)V"⟩, 51) := ⟨⟨by decide +kernel, by decide +kernel⟩, List.mem_of_getElem? (i := 963) (by decide +kernel), List.mem_of_getElem? (i := 1252) (by decide +kernel), List.mem_of_getElem? (i := 1253) (by decide +kernel)⟩
theorem lw_p49 : lw_okq (⟨"EventVaultModel", "push", "(J)V"⟩, 51) := ⟨⟨by decide +kernel, by decide +kernel⟩, List.mem_of_getElem? (i := 963) (by decide +kernel), List.mem_of_getElem? (i := 1256) (by decide +kernel), List.mem_of_getElem? (i := 1257) (by decide +kernel)⟩
theorem lw_p50 : lw_okq (⟨"EventVaultModel", "counted", "(II)I"⟩, 51) := ⟨⟨by decide +kernel, by decide +kernel⟩, List.mem_of_getElem? (i := 963) (by decide +kernel), List.mem_of_getElem? (i := 1281) (by decide +kernel), List.mem_of_getElem? (i := 1282) (by decide +kernel)⟩
def lw_privs_4 : List (MethodName × Nat) := [(⟨"EventVaultModel", "does", "(III)V"⟩, 51), (⟨"EventVaultModel", "push", "(J)V"⟩, 51), (⟨"EventVaultModel", "counted", "(II)I"⟩, 51)]
theorem lw_r4 : ∀ q ∈ lw_privs_4, lw_okq q := List.forall_mem_cons.mpr ⟨lw_p48, List.forall_mem_cons.mpr ⟨lw_p49, List.forall_mem_cons.mpr ⟨lw_p50, fun _ h => absurd h List.not_mem_nil⟩⟩⟩
def lw_privs : List (MethodName × Nat) := lw_privs_1 ++ (lw_privs_2 ++ (lw_privs_3 ++ (lw_privs_4)))
def lw_tbl : List Cond := k2_sels lw_privs ++ tables_1
theorem lw_privs_ok : ∀ q ∈ lw_privs, lw_okq q := by
  show ∀ q ∈ lw_privs_1 ++ (lw_privs_2 ++ (lw_privs_3 ++ (lw_privs_4))), lw_okq q
  exact List.forall_mem_append.mpr ⟨lw_r1, List.forall_mem_append.mpr ⟨lw_r2, List.forall_mem_append.mpr ⟨lw_r3, lw_r4⟩⟩⟩
end
section
/-! ===== BEGIN words of one list among another's, by their places ===== -/
theorem goodIn_r {big : List Cond} (ws : List Cond) (ps : List Nat) (hp : ws = ps.filterMap (fun i => big[i]?)) (h : ws.all goodWord = true) : GoodIn big ws := by
  intro w hw
  have h1 := List.all_eq_true.mp h w hw
  rw [hp] at hw
  obtain ⟨i, -, hi⟩ := List.mem_filterMap.mp hw
  have hm : w ∈ big := by first | exact List.mem_of_getElem? hi | exact List.getElem?_mem hi
  exact ⟨hm, good_of_word h1⟩
theorem goodIn_app {big a b : List Cond} (ha : GoodIn big a) (hb : GoodIn big b) : GoodIn big (a ++ b) := fun w h => (List.mem_append.mp h).elim (ha w) (hb w)
theorem goodIn_ca {big a b : List Cond} {c : Cond} (ha : GoodIn big (c :: a)) (hb : GoodIn big b) : GoodIn big (c :: (a ++ b)) := fun w h => (List.mem_cons.mp h).elim (fun e => ha w (List.mem_cons.mpr (Or.inl e))) (fun h => (List.mem_append.mp h).elim (fun h => ha w (List.mem_cons.mpr (Or.inr h))) (hb w))
theorem goodIn_sub {big ws : List Cond} (hm : ∀ w ∈ ws, w ∈ big) (h : ws.all goodWord = true) : GoodIn big ws := fun w hw => ⟨hm w hw, good_of_word (List.all_eq_true.mp h w hw)⟩
/-! ===== END ===== -/

/-! ===== BEGIN exceptions that leave a method, and their catching by the caller (launches without stack traces) ===== -/
section VXA
/-! The laws vx_back, vx_callV, vx_callS, vx_callSW, vx_throw0, vx_throwS follow proofs of the library, with one case more: JvmDerived/Free/Laws.lean (Back.of_free), Shelf42/LK1.lean (callV, callS), Shelf/KitTraced.lean (throwNew0V, throwNewS). -/
/-- where a method has thrown q: the class by its name, the cell, what was written, the world -/
def vx_T (XC : String → State → State → Prop) (st : State) (q : Addr) (t : State) (mc ms : Nat) (free : Addr → Prop) : Prop :=
  ∃ (E : String) (ce : Cell) (L : List Loc), XC E st t ∧ t.heap[q]? = some ce ∧ ce.vm = .none ∧ st.vm.findClass E = some ce.cls ∧ st.WarmedH t.vm ∧ st.sameButNew ({ t with vm := st.vm } : State) L mc ms ∧ ∀ z ∈ L, free z.base
def vx_Q (Qc : Array Value → State → Outcome → State → Prop) (XC : String → State → State → Prop) (mc ms : Nat) (free : Addr → Prop) : Array Value → State → Outcome → State → Prop := fun a st o t =>
  (Qc a st o t ∧ ∃ L, FrameEnd st o t L mc ms ∧ ∀ q ∈ L, free q.base) ∨ ∃ q, o = .threw q ∧ vx_T XC st q t mc ms free
/-- a callee that returns or throws -/
def vx_Met (l : Launch) (y : MethodName) (ws : List Cond) (rm : Room) (Pc : Array Value → State → Prop) (Qc : Array Value → State → Outcome → State → Prop) (XC : String → State → State → Prop) (mc ms : Nat) (free : Addr → Prop) : Prop :=
  MetFree l y (headSpec ws rm) Pc (fun _ _ _ _ _ => True) (vx_Q Qc XC mc ms free)
def vx_Post (XC : String → State → State → Prop) (mc ms : Nat) (free : Addr → Prop) : Pt → Array Value → Addr → Pt → Prop := fun A a q B =>
  ∃ (g : JFrame) (mk : MethodId) (t : State) (L : List Loc) (E : String) (ce : Cell), B.U.heap = t.heap ∧ B.U.vm = t.vm ∧ XC E (A.U.calling g mk a) t ∧ t.heap[q]? = some ce ∧ ce.vm = .none ∧ A.U.vm.findClass E = some ce.cls ∧ B.locs = A.locs ++ L ∧ (∀ z ∈ L, free z.base) ∧ B.cells = A.cells + mc ∧ B.slots = A.slots + ms
def vx_Back (l : Launch) (R : Room) (p : Program) (e : Env) (below : List Frame) (s : State) (sargs : Array Value) (y : MethodName) (len W9 : Nat)
    (Pre : Pt → Array Value → Prop) (Post : Pt → Array Value → Option Value → Pt → Prop) (PostX : Pt → Array Value → Addr → Pt → Prop) : Prop :=
  ∀ (m : MethodId) (meth : Method) (c : Code) (A : Pt) (g : JFrame) (ig : Instr) (mk : MethodId) (a : Array Value),
    Stand p l e R s m sargs below meth c A.U A.locs A.cells A.slots → g.method = m → g.locals.size = c.maxLocals → decode c.code g.pc = .ok (ig, len) →
    2 * g.monitorRoom + (g.stack.map fun v => v.category).sum ≤ W9 → A.U.methodNamed? y = some mk → Pre A a →
    (∃ (v : Option Value) (B : Pt), Stand p l e R s m sargs below meth c B.U B.locs B.cells B.slots ∧ Post A a v B ∧
      Steps p.tables e below (doInvoke e (A.U.setTop g) [] mk a).1 (B.U.setTop { g with pc := g.pc + len, stack := v.toList ++ g.stack })) ∨
    (∃ (q : Addr) (B : Pt), Stand p l e R s m sargs below meth c B.U B.locs B.cells B.slots ∧ PostX A a q B ∧
      Steps p.tables e below (doInvoke e (A.U.setTop g) [] mk a).1 ((B.U.setTop g).pushFrame (.throwing q)))
section Payer
variable {l : Launch} {R : Room} {p : Program} {e : Env} {below : List Frame} {s : State} {sargs : Array Value} {y : MethodName} {len W9 : Nat}
theorem vx_back {ws : List Cond} {rm : Room} {Pc : Array Value → State → Prop} {Qc : Array Value → State → Outcome → State → Prop} {XC : String → State → State → Prop} {mc ms : Nat} {free : Addr → Prop} {bytes : ByteArray} {maxL : Nat} {ret : Option FieldType}
    (hM : vx_Met l y ws rm Pc Qc XC mc ms free) (hblind : FrameBlind Pc) (hrc : rm.cells = mc) (hrs : rm.slots = ms)
    (hframes : rm.frames + 1 ≤ R.frames) (hlocals : W9 + (maxL + 11) + rm.locals ≤ R.locals)
    (hws : ∀ w ∈ ws, ∀ a' U, s.WarmedH U.vm → w.before a' U = true) (hcode : Cond.code y bytes maxL ret ∈ ws) (hinit : ∀ a' U, s.WarmedH U.vm → (Cond.initialized y.cls).before a' U = true) :
    vx_Back l R p e below s sargs y len W9 (PreOf R mc ms Pc) (PostOf Qc mc ms free) (vx_Post XC mc ms free) := by
  intro m meth c A g ig mk a X hg hsize hdg hW hn hp
  have h1 : (headSpec ws rm).pre.before a A.U = true := atoms_intro fun w hw => hws w hw _ _ X.warmed
  have h2 : (Cond.code y bytes maxL ret).before a A.U = true := hws _ hcode _ _ X.warmed
  have h3 : (Cond.initialized y.cls).before a A.U = true := hinit _ _ X.warmed
  have h4 : A.cells + (headSpec ws rm).room.cells ≤ R.cells := by rw [show (headSpec ws rm).room.cells = mc from hrc]; exact hp.1
  have h5 : A.slots + (headSpec ws rm).room.slots ≤ R.slots := by rw [show (headSpec ws rm).room.slots = ms from hrs]; exact hp.2.1
  have hPc : Pc a (A.U.calling g mk a) := hblind _ _ _ _ hp.2.2
  obtain ⟨U, Ls, c0, s0⟩ := A
  dsimp only [Pt.U, Pt.locs, Pt.cells, Pt.slots] at h1 h2 h3 h4 h5 X hn hPc ⊢
  obtain ⟨methY, cY, hmY, hcY, -, hlY, -, -, -, -⟩ := Cond.code_spec hn h2
  obtain ⟨kY, hkY, -⟩ := className_of_methodNamed hn
  have hinitY : kY.init = .initialized := Cond.initialized_spec (findClass_of_methodNamed hn) hkY h3
  have h : At U g.method c below := by rw [hg]; exact X.here
  have hlocals9 : W9 + (maxL + 11) + (headSpec ws rm).room.locals ≤ R.locals := hlocals
  have happ : (headSpec ws rm).appliesLoose y e.platform (U.calling g mk a) = true :=
    Spec.appliesLoose_calling (g := g) h hdg hn hkY hinitY
      (X.room_calling (g := g) (R' := (headSpec ws rm).room) hsize hmY hcY hframes (by rw [hlY]; omega) h4 h5) h1
  obtain ⟨mid, hmid⟩ := h.above
  have hfr : (U.setTop g).frames = (.java g :: mid) ++ below := by rw [State.frames_setTop' g h.top, hmid]; rfl
  obtain ⟨o, s₂, hsteps, -, hend, hq⟩ := Steps.callFree hM p X.admits X.cas X.clock (acts := []) hfr happ hPc trivial
  have hq' : vx_Q Qc XC mc ms free a (U.calling g mk a) o s₂ := hq
  rw [State.frames_setTop' g h.top] at hend
  obtain ⟨g₀, hg0⟩ := Option.isSome_iff_exists.mp h.top
  obtain ⟨r, hr⟩ := State.topJava?_eq_some.mp hg0
  have hr' : (({ U with heap := s₂.heap, slotsUsed := s₂.slotsUsed } : State).setVm s₂.vm).frames = .java g₀ :: r := hr
  rcases hq' with ⟨hqc, L, hfe, hL⟩ | ⟨q, rfl, E, ce, L, hx, hce, hcv, hcl, hW₂, hsm, hL⟩
  · obtain ⟨⟨v, rfl⟩, hW₂, e2, q2, q3, q4, q5, q6⟩ := id hfe
    have e3 : s₂ = ({ (U.calling g mk a).setFrames s₂.frames with heap := s₂.heap, slotsUsed := s₂.slotsUsed } : State).setVm s₂.vm := by
      have : s₂ = ({ s₂ with vm := (U.calling g mk a).vm } : State).setVm s₂.vm := rfl
      rw [e2] at this
      exact this
    obtain ⟨c₂, i₂, len₂, hc₂, hd₂, hf₂⟩ := hend
    have hW' : U.WarmedH s₂.vm := hW₂
    have hcc : c₂ = c := by
      have h1 : s₂.code? g.method = U.code? g.method := by
        rw [State.code?_eq, State.code?_eq, hW'.alike.method?]
      exact Option.some.inj (hc₂.symm.trans (h1.trans h.code))
    subst hcc
    have hlen : len₂ = len := by rw [hdg] at hd₂; cases hd₂; rfl
    subst hlen
    have hs₂ : s₂ = (({ U with heap := s₂.heap, slotsUsed := s₂.slotsUsed } : State).setVm s₂.vm).setTop { g with pc := g.pc + len₂, stack := v.toList ++ g.stack } := by
      refine e3.trans ?_
      rw [hf₂, State.calling_eq h.top, State.setFrames_setFrames, State.setTop_of_frames _ hr', hr]
      rfl
    have hsame : U.sameButNew ({ U with heap := s₂.heap, slotsUsed := s₂.slotsUsed } : State) L mc ms := by
      refine ⟨?_, q2, q3, q4, q5, q6⟩
      obtain ⟨t, ht, -⟩ := State.frames_cons hr
      show ({ U with heap := s₂.heap, slotsUsed := s₂.slotsUsed } : State) = { U.setFrames U.frames with heap := s₂.heap, slotsUsed := s₂.slotsUsed }
      rw [State.setFrames_self ht]
    subst hg
    refine Or.inl ⟨v, ⟨(({ U with heap := s₂.heap, slotsUsed := s₂.slotsUsed } : State).setVm s₂.vm), Ls ++ L, c0 + mc, s0 + ms⟩,
      ⟨X.admits, X.cas, X.clock, X.frames, X.room, X.hears, X.method, X.code, (X.here.setHeapUsed s₂.heap s₂.slotsUsed).setVm hW'.alike, X.tail, State.WarmedH.trans X.warmed hW', X.limits, X.bytes, X.same.trans (hsame.setVm s.vm)⟩,
      ⟨g, mk, s₂, L, rfl, rfl, hqc, rfl, hL, rfl, rfl⟩, ?_⟩
    show Steps p.tables e below _ ((({ U with heap := s₂.heap, slotsUsed := s₂.slotsUsed } : State).setVm s₂.vm).setTop { g with pc := g.pc + len₂, stack := v.toList ++ g.stack })
    rw [← hs₂]
    exact hsteps
  · obtain ⟨e2, q2, q3, q4, q5, q6⟩ := id hsm
    have e3 : s₂ = ({ (U.calling g mk a).setFrames s₂.frames with heap := s₂.heap, slotsUsed := s₂.slotsUsed } : State).setVm s₂.vm := by
      have : s₂ = ({ s₂ with vm := (U.calling g mk a).vm } : State).setVm s₂.vm := rfl
      rw [e2] at this
      exact this
    have hf₂ : s₂.frames = .throwing q :: .java g :: U.frames.tail := hend
    have hW' : U.WarmedH s₂.vm := hW₂
    have hs₂ : s₂ = ((({ U with heap := s₂.heap, slotsUsed := s₂.slotsUsed } : State).setVm s₂.vm).setTop g).pushFrame (.throwing q) := by
      refine e3.trans ?_
      rw [hf₂, State.calling_eq h.top, State.setFrames_setFrames, State.pushFrame, State.frames_setTop _ hr', State.setTop_of_frames _ hr', State.setFrames_setFrames, hr]
      rfl
    have hsame : U.sameButNew ({ U with heap := s₂.heap, slotsUsed := s₂.slotsUsed } : State) L mc ms := by
      refine ⟨?_, q2, q3, q4, q5, q6⟩
      obtain ⟨t, ht, -⟩ := State.frames_cons hr
      show ({ U with heap := s₂.heap, slotsUsed := s₂.slotsUsed } : State) = { U.setFrames U.frames with heap := s₂.heap, slotsUsed := s₂.slotsUsed }
      rw [State.setFrames_self ht]
    subst hg
    refine Or.inr ⟨q, ⟨(({ U with heap := s₂.heap, slotsUsed := s₂.slotsUsed } : State).setVm s₂.vm), Ls ++ L, c0 + mc, s0 + ms⟩,
      ⟨X.admits, X.cas, X.clock, X.frames, X.room, X.hears, X.method, X.code, (X.here.setHeapUsed s₂.heap s₂.slotsUsed).setVm hW'.alike, X.tail, State.WarmedH.trans X.warmed hW', X.limits, X.bytes, X.same.trans (hsame.setVm s.vm)⟩,
      ⟨g, mk, s₂, L, E, ce, rfl, rfl, hx, hce, hcv, hcl, rfl, hL, rfl, rfl⟩, ?_⟩
    show Steps p.tables e below _ (((({ U with heap := s₂.heap, slotsUsed := s₂.slotsUsed } : State).setVm s₂.vm).setTop g).pushFrame (.throwing q))
    rw [← hs₂]
    exact hsteps
end Payer
section Calls
variable {p : Program} {l : Launch} {e : Env} {R : Room} {s : State} {m : MethodId} {args : Array Value} {below : List Frame} {meth : Method} {c : Code} {T : State} {locs : List Loc} {cells slots : Nat}
theorem vx_callV (X : Stand p l e R s m args below meth c T locs cells slots) (hexec : p.tables.exec = Jvm.exec) {own C : String} {index : Nat} {y : MethodName} {bytes : ByteArray} {maxL : Nat} {ret : Option FieldType}
    (hown : s.vm.findClass own = some m.cls) (hlink : (Cond.methodLink own index y).before args s = true) (hinst : (Cond.instanceMethod y).before args s = true) (hsel : (Cond.selects C y y).before args s = true)
    (hcode : (Cond.code y bytes maxL ret).before args s = true) (hy : y.cls ≠ "java/lang/invoke/MethodHandle" ∧ y.cls ≠ "java/lang/invoke/VarHandle")
    {W9 : Nat} {Pre : Pt → Array Value → Prop} {Post : Pt → Array Value → Option Value → Pt → Prop} {PostX : Pt → Array Value → Addr → Pt → Prop} (hK : vx_Back l R p e below s args y 3 W9 Pre Post PostX)
    {b : Addr} {cellB : Cell} (hcell : T.heap[b]? = some cellB) (hobj : cellB.vm.isStatics = false) (hcls : s.vm.findClass C = some cellB.cls)
    {g : JFrame} (hg : g.method = m) (hsize : g.locals.size = c.maxLocals) {argsL rest : List Value} (hlen : ∀ sig, parseMethodDescriptor y.desc = some sig → argsL.length = sig.parameters.length)
    (hstack : g.stack = argsL.reverse ++ .ref b :: rest) (hW : 2 * g.monitorRoom + (rest.map fun v => v.category).sum ≤ W9) (hdg : decode c.code g.pc = .ok (.invokevirtual index, 3))
    (hpre : ∀ vm₁, s.WarmedH vm₁ → Pre ⟨T.setVm vm₁, locs, cells, slots⟩ (Value.ref b :: argsL).toArray) :
    (∃ (v : Option Value) (vm₁ : Vm) (B : Pt), s.WarmedH vm₁ ∧ Stand p l e R s m args below meth c B.U B.locs B.cells B.slots ∧ Post ⟨T.setVm vm₁, locs, cells, slots⟩ (Value.ref b :: argsL).toArray v B ∧
      ∀ target, Steps p.tables e below (B.U.setTop { g with pc := g.pc + 3, stack := v.toList ++ rest }) target → Steps p.tables e below (T.setTop g) target) ∨
    (∃ (q : Addr) (vm₁ : Vm) (B : Pt), s.WarmedH vm₁ ∧ Stand p l e R s m args below meth c B.U B.locs B.cells B.slots ∧ PostX ⟨T.setVm vm₁, locs, cells, slots⟩ (Value.ref b :: argsL).toArray q B ∧
      Steps p.tables e below (T.setTop g) ((B.U.setTop { g with stack := rest }).pushFrame (.throwing q))) := by
  obtain ⟨mk, methM, hnamed, hmethM, hstM, habM⟩ := Cond.instanceMethod_spec hinst
  obtain ⟨methM', cM, hmethM', -, -, -, -, -, -, hsigM⟩ := Cond.code_spec hnamed hcode
  cases hmethM.symm.trans hmethM'
  obtain ⟨c2, r2, m2, q1, q2, q3, q4, kP, hkP, hkPi⟩ := Cond.selects_spec hsel
  cases hcls.symm.trans q1
  cases (State.methodFound?_of_named hnamed hy).symm.trans q2
  cases hnamed.symm.trans q3
  have hselP : selectMethod e.platform s.vm cellB.cls mk = .method mk := by rw [Launch.admits_selectMethod X.admits]; exact q4
  obtain ⟨vm₁, X₁, hstep₁⟩ := X.invokevirtual hexec hown hlink hnamed hmethM hstM hkP hkPi hy (a := b) (cell := cellB) hcell
    (fun z h => by rw [h] at hobj; cases hobj) hselP hmethM habM hkP hkPi (g := g) hg (argsL := argsL) (rest := rest) (hlen _ hsigM) hstack hdg
  rcases hK m meth c ⟨T.setVm vm₁, locs, cells, slots⟩ { g with stack := rest } (.invokevirtual index) mk (Value.ref b :: argsL).toArray X₁ hg hsize hdg hW (X₁.named hnamed) (hpre vm₁ X₁.warmed) with ⟨v, B, X', hpost, hsteps⟩ | ⟨q, B, X', hpost, hsteps⟩
  · exact Or.inl ⟨v, vm₁, B, X₁.warmed, X', hpost, fun target h => hstep₁ _ fun acts => by rw [doInvoke_state]; exact hsteps.trans h⟩
  · exact Or.inr ⟨q, vm₁, B, X₁.warmed, X', hpost, hstep₁ _ fun acts => by rw [doInvoke_state]; exact hsteps⟩
theorem vx_callS (X : Stand p l e R s m args below meth c T locs cells slots) (hexec : p.tables.exec = Jvm.exec) {own : String} {index : Nat} {y : MethodName} {bytes : ByteArray} {maxL : Nat} {ret : Option FieldType}
    (hown : s.vm.findClass own = some m.cls) (hlink : (Cond.methodLink own index y).before args s = true) (hstat : (Cond.static y).before args s = true) (hinit : (Cond.initialized y.cls).before args s = true)
    (hcode : (Cond.code y bytes maxL ret).before args s = true) (hy : y.cls ≠ "java/lang/invoke/MethodHandle" ∧ y.cls ≠ "java/lang/invoke/VarHandle")
    {W9 : Nat} {Pre : Pt → Array Value → Prop} {Post : Pt → Array Value → Option Value → Pt → Prop} {PostX : Pt → Array Value → Addr → Pt → Prop} (hK : vx_Back l R p e below s args y 3 W9 Pre Post PostX)
    {g : JFrame} (hg : g.method = m) (hsize : g.locals.size = c.maxLocals) {argsL rest : List Value} (hlen : ∀ sig, parseMethodDescriptor y.desc = some sig → argsL.length = sig.parameters.length)
    (hstack : g.stack = argsL.reverse ++ rest) (hW : 2 * g.monitorRoom + (rest.map fun v => v.category).sum ≤ W9) (hdg : decode c.code g.pc = .ok (.invokestatic index, 3))
    (hpre : ∀ vm₁, s.WarmedH vm₁ → Pre ⟨T.setVm vm₁, locs, cells, slots⟩ argsL.toArray) :
    (∃ (v : Option Value) (vm₁ : Vm) (B : Pt), s.WarmedH vm₁ ∧ Stand p l e R s m args below meth c B.U B.locs B.cells B.slots ∧ Post ⟨T.setVm vm₁, locs, cells, slots⟩ argsL.toArray v B ∧
      ∀ target, Steps p.tables e below (B.U.setTop { g with pc := g.pc + 3, stack := v.toList ++ rest }) target → Steps p.tables e below (T.setTop g) target) ∨
    (∃ (q : Addr) (vm₁ : Vm) (B : Pt), s.WarmedH vm₁ ∧ Stand p l e R s m args below meth c B.U B.locs B.cells B.slots ∧ PostX ⟨T.setVm vm₁, locs, cells, slots⟩ argsL.toArray q B ∧
      Steps p.tables e below (T.setTop g) ((B.U.setTop { g with stack := rest }).pushFrame (.throwing q))) := by
  obtain ⟨mk, hnamed⟩ := Cond.code_named hcode
  obtain ⟨methM, cM, hmethM, -, -, -, -, -, -, hsigM⟩ := Cond.code_spec hnamed hcode
  have hstatic : methM.isStatic = true := Cond.static_spec hnamed hmethM hstat
  obtain ⟨kP, hkP, -⟩ := className_of_methodNamed hnamed
  have hinitP : kP.init = .initialized := Cond.initialized_spec (findClass_of_methodNamed hnamed) hkP hinit
  obtain ⟨vm₁, X₁, hstep₁⟩ := X.invokestatic hexec hown hlink hnamed hmethM hstatic hkP hinitP hy (g := g) hg (argsL := argsL) (rest := rest) (hlen _ hsigM) hstack hdg
  rcases hK m meth c ⟨T.setVm vm₁, locs, cells, slots⟩ { g with stack := rest } (.invokestatic index) mk argsL.toArray X₁ hg hsize hdg hW (X₁.named hnamed) (hpre vm₁ X₁.warmed) with ⟨v, B, X', hpost, hsteps⟩ | ⟨q, B, X', hpost, hsteps⟩
  · exact Or.inl ⟨v, vm₁, B, X₁.warmed, X', hpost, fun target h => hstep₁ _ fun acts => by rw [doInvoke_state]; exact hsteps.trans h⟩
  · exact Or.inr ⟨q, vm₁, B, X₁.warmed, X', hpost, hstep₁ _ fun acts => by rw [doInvoke_state]; exact hsteps⟩
end Calls
theorem vx_cls {s : State} {T : State} {vm₁ : Vm} {E : String} {k : ClassId} (hW : s.WarmedH vm₁) (h : (T.setVm vm₁).vm.findClass E = some k) : s.vm.findClass E = some k := by
  have h1 : vm₁.findClass E = some k := h
  rw [hW.alike.findClass] at h1
  exact h1
/-- the method's frame g, with q thrown over it -/
def vx_W (p : Program) (l : Launch) (e : Env) (R : Room) (s : State) (m : MethodId) (args : Array Value) (below : List Frame) (meth : Method) (c : Code) (H : Heap) (locs : List Loc) (cells slots : Nat) (Q : State → Prop) (g : JFrame) (q : Addr) : Prop :=
  ∀ T : State, T.heap = H → Stand p l e R s m args below meth c T locs cells slots → ∃ t, Steps p.tables e below ((T.setTop g).pushFrame (.throwing q)) t ∧ Q t
def vx_Run (p : Program) (l : Launch) (e : Env) (R : Room) (s : State) (m : MethodId) (args : Array Value) (below : List Frame) (meth : Method) (c : Code) (H : Heap) (locs : List Loc) (cells slots mc ms : Nat) (g : JFrame) (rest : List Value) (Qa : State → Outcome → State → Prop) (XC : String → State → State → Prop) (free : Addr → Prop) : Prop :=
  ∀ T : State, T.heap = H → Stand p l e R s m args below meth c T locs cells slots →
    (∃ (v : Option Value) (st₀ t T' : State) (L : List Loc), st₀.heap = H ∧ Stand p l e R s m args below meth c T' (locs ++ L) (cells + mc) (slots + ms) ∧ (∀ q ∈ L, free q.base) ∧ T'.heap = t.heap ∧ T'.vm = t.vm ∧ Qa st₀ (.returned v) t ∧
      Goes p e below T g T' { g with pc := g.pc + 3, stack := v.toList ++ rest }) ∨
    (∃ (q : Addr) (st₀ t T' : State) (L : List Loc) (E : String) (ce : Cell), st₀.heap = H ∧ Stand p l e R s m args below meth c T' (locs ++ L) (cells + mc) (slots + ms) ∧ (∀ z ∈ L, free z.base) ∧ T'.heap = t.heap ∧ T'.vm = t.vm ∧ XC E st₀ t ∧ t.heap[q]? = some ce ∧ ce.vm = .none ∧ s.vm.findClass E = some ce.cls ∧
      Steps p.tables e below (T.setTop g) ((T'.setTop { g with stack := rest }).pushFrame (.throwing q)))
def vx_X {S : Type} (px : S → Prop) (B : String → S → State → Prop) (A : Nat → Prop) : String → State → State → Prop := fun E st t => ∃ u : S, px u ∧ B E u t ∧ va_F A st t
section Runs
variable {p : Program} {l : Launch} {e : Env} {R : Room} {s : State} {m : MethodId} {args : Array Value} {below : List Frame} {meth : Method} {c : Code} {H : Heap} {locs : List Loc} {cells slots : Nat}
variable {y : MethodName} {bytes cc : ByteArray} {maxL nL mc ms n index : Nat} {ret : Option FieldType} {ws : List Cond} {rm : Room} {Pc : Array Value → State → Prop} {Qc : Array Value → State → Outcome → State → Prop} {XC : String → State → State → Prop} {free : Addr → Prop} {Ts : List Cond} {own C : String} {b : Addr} {As rest : List Value} {g : JFrame}
theorem vx_callBack (cb : CallB R s args own index y bytes maxL ret ws rm mc ms n) (hM : vx_Met l y ws rm Pc Qc XC mc ms free) (hbl : FrameBlind Pc) : vx_Back l R p e below s args y 3 8 (PreOf R mc ms Pc) (PostOf Qc mc ms free) (vx_Post XC mc ms free) := by
  obtain ⟨hrc, hrs, hfr, hlo, hws, hcw, -, hini, -⟩ := cb
  exact vx_back (bytes := bytes) (maxL := maxL) (ret := ret) hM hbl hrc hrs hfr hlo hws hcw (fun a' U hW => word_at hW (Or.inl (by first | rfl | simp [Cond.onTables, Cond.keeps, Cond.steady])) hini)
theorem vx_runV (S : CallFix p m c cc nL s args Ts own) (hM : vx_Met l y ws rm Pc Qc XC mc ms free) (cw : CallW R s args own C index y bytes maxL ret ws rm mc ms n) (hp : PreV s H C b Pc As)
    (hg : g.method = m) (hn : As.length = n) (hsize : g.locals.size = nL) (hstack : g.stack = As.reverse ++ .ref b :: rest) (hW : 2 * g.monitorRoom + (rest.map fun v => v.category).sum ≤ 8) (hdg : decode cc g.pc = .ok (.invokevirtual index, 3)) (hf : cells + mc ≤ R.cells ∧ slots + ms ≤ R.slots) :
    vx_Run p l e R s m args below meth c H locs cells slots mc ms g rest (Qc (Value.ref b :: As).toArray) XC free := by
  have hK : vx_Back l R p e below s args y 3 8 (PreOf R mc ms Pc) (PostOf Qc mc ms free) (vx_Post XC mc ms free) := vx_callBack cw.1 hM hp.1
  obtain ⟨⟨-, -, -, -, -, -, hcode, -, hy, hlen, hl⟩, hin, hse⟩ := cw
  obtain ⟨hx, hb, hml, ho, -⟩ := S
  obtain ⟨-, ⟨cellB, hcB, hoB, hclB⟩, hPc⟩ := hp
  intro T hT X
  rcases vx_callV X hx (C := C) (bytes := bytes) (maxL := maxL) (ret := ret) ho hl hin hse hcode hy hK (by rw [hT]; exact hcB) hoB hclB hg (hsize.trans hml.symm) (argsL := As) (rest := rest) (fun sig h => hn.trans (hlen sig h)) hstack hW (by rw [hb]; exact hdg)
    (fun vm₁ hW₁ => ⟨hf.1, hf.2, hPc (T.setVm vm₁) hT hW₁⟩) with ⟨v, vm₁, ⟨U', l2, c2, s2⟩, hW₁, X', ⟨g', mk, t, L, e1, e2, hq, h1, hL, h2, h3⟩, st⟩ | ⟨q, vm₁, ⟨U', l2, c2, s2⟩, hW₁, X', ⟨g', mk, t, L, E, ce, e1, e2, hq, hce, hcv, hcl, h1, hL, h2, h3⟩, st⟩
  · dsimp only [Pt.U, Pt.locs, Pt.cells, Pt.slots] at X' e1 e2 h1 h2 h3 st
    subst h1; subst h2; subst h3
    exact Or.inl ⟨v, (T.setVm vm₁).calling g' mk (Value.ref b :: As).toArray, t, U', L, hT, X', hL, e1, e2, hq, st⟩
  · dsimp only [Pt.U, Pt.locs, Pt.cells, Pt.slots] at X' e1 e2 h1 h2 h3 st hcl
    subst h1; subst h2; subst h3
    exact Or.inr ⟨q, (T.setVm vm₁).calling g' mk (Value.ref b :: As).toArray, t, U', L, E, ce, hT, X', hL, e1, e2, hq, hce, hcv, vx_cls hW₁ hcl, st⟩
theorem vx_runS (S : CallFix p m c cc nL s args Ts own) (hM : vx_Met l y ws rm Pc Qc XC mc ms free) (cw : CallB R s args own index y bytes maxL ret ws rm mc ms n ∧ (Cond.static y).before args s = true) (hp : PreS s H Pc As)
    (hg : g.method = m) (hn : As.length = n) (hsize : g.locals.size = nL) (hstack : g.stack = As.reverse ++ rest) (hW : 2 * g.monitorRoom + (rest.map fun v => v.category).sum ≤ 8) (hdg : decode cc g.pc = .ok (.invokestatic index, 3)) (hf : cells + mc ≤ R.cells ∧ slots + ms ≤ R.slots) :
    vx_Run p l e R s m args below meth c H locs cells slots mc ms g rest (Qc As.toArray) XC free := by
  have hK : vx_Back l R p e below s args y 3 8 (PreOf R mc ms Pc) (PostOf Qc mc ms free) (vx_Post XC mc ms free) := vx_callBack cw.1 hM hp.1
  obtain ⟨⟨-, -, -, -, -, -, hcode, hini, hy, hlen, hl⟩, hstt⟩ := cw
  obtain ⟨hx, hb, hml, ho, -⟩ := S
  intro T hT X
  rcases vx_callS X hx (bytes := bytes) (maxL := maxL) (ret := ret) ho hl hstt hini hcode hy hK hg (hsize.trans hml.symm) (argsL := As) (rest := rest) (fun sig h => hn.trans (hlen sig h)) hstack hW (by rw [hb]; exact hdg)
    (fun vm₁ hW₁ => ⟨hf.1, hf.2, hp.2 (T.setVm vm₁) hT hW₁⟩) with ⟨v, vm₁, ⟨U', l2, c2, s2⟩, hW₁, X', ⟨g', mk, t, L, e1, e2, hq, h1, hL, h2, h3⟩, st⟩ | ⟨q, vm₁, ⟨U', l2, c2, s2⟩, hW₁, X', ⟨g', mk, t, L, E, ce, e1, e2, hq, hce, hcv, hcl, h1, hL, h2, h3⟩, st⟩
  · dsimp only [Pt.U, Pt.locs, Pt.cells, Pt.slots] at X' e1 e2 h1 h2 h3 st
    subst h1; subst h2; subst h3
    exact Or.inl ⟨v, (T.setVm vm₁).calling g' mk As.toArray, t, U', L, hT, X', hL, e1, e2, hq, st⟩
  · dsimp only [Pt.U, Pt.locs, Pt.cells, Pt.slots] at X' e1 e2 h1 h2 h3 st hcl
    subst h1; subst h2; subst h3
    exact Or.inr ⟨q, (T.setVm vm₁).calling g' mk As.toArray, t, U', L, E, ce, hT, X', hL, e1, e2, hq, hce, hcv, vx_cls hW₁ hcl, st⟩
end Runs
section Rows
variable {p : Program} {l : Launch} {e : Env} {R : Room} {s : State} {m : MethodId} {args : Array Value} {below : List Frame} {meth : Method} {c : Code} {H : Heap} {locs : List Loc} {cells slots : Nat} {Q : State → Prop}
variable {mc ms : Nat} {free : Addr → Prop} {A0 A1 : Nat → Prop} {H0 : Heap} {a : Array Value} {pc : Nat} {ls : Array Slot} {st0 rest : List Value}
theorem vx_keep {st₀ t T' : State} {L : List Loc} (h0 : st₀.heap = H) (e1 : T'.heap = t.heap) (hS : va_S A0 H0 H locs) (hA : ∀ q, q < H.size → A1 q → A0 q) (hf : ∀ q, free q → A0 q) (hL : ∀ q ∈ L, free q.base) (hF : va_F A1 st₀ t) :
    H.size ≤ T'.heap.size ∧ (∀ q : Nat, q < H.size → ¬ A1 q → T'.heap[q]? = H[q]?) ∧ va_S A0 H0 T'.heap (locs ++ L) := by
  obtain ⟨hz, hk⟩ := hF
  rw [h0] at hz hk
  exact ⟨by rw [e1]; exact hz, fun q h1 h2 => by rw [e1]; exact hk q h1 h2,
    ⟨Nat.le_trans hS.1 (by rw [e1]; exact hz), fun q h1 h2 => by rw [e1, hk q (Nat.lt_of_lt_of_le h1 hS.1) (fun z => h2 (hA q (Nat.lt_of_lt_of_le h1 hS.1) z))]; exact hS.2.1 q h1 h2, fun q hq => by
      rcases List.mem_append.mp hq with h | h
      · exact hS.2.2 q h
      · exact hf _ (hL q h)⟩⟩
theorem vx_calli {S SX : Type} {post : Int32 → S → Prop} {px : SX → Prop} {B : S → State → Prop} {BX : String → SX → State → Prop} {AX : Nat → Prop} (hr : vx_Run p l e R s m args below meth c H locs cells slots mc ms (F0 m pc ls st0) rest (va_Qi post B A1 a) (vx_X px BX AX) free) (hS : va_S A0 H0 H locs) (hA : ∀ q, q < H.size → A1 q → A0 q) (hf : ∀ q, free q → A0 q) (hAX : ∀ q, q < H.size → AX q → A0 q)
    (kx : ∀ (E : String) (ce : Cell) (q9 : Addr) (u : SX) (t : State) (H1 : Heap) (locs1 : List Loc), t.heap = H1 → s.vm.Alike t.vm → px u → BX E u t → H.size ≤ H1.size → (∀ q : Nat, q < H.size → ¬ AX q → H1[q]? = H[q]?) → va_S A0 H0 H1 locs1 → H1[q9]? = some ce → ce.vm = .none → s.vm.findClass E = some ce.cls → vx_W p l e R s m args below meth c H1 locs1 (cells + mc) (slots + ms) Q (F0 m pc ls rest) q9)
    (kk : ∀ (r : Int32) (u : S) (t : State) (H1 : Heap) (locs1 : List Loc), t.heap = H1 → s.vm.Alike t.vm → post r u → B u t → H.size ≤ H1.size → (∀ q : Nat, q < H.size → ¬ A1 q → H1[q]? = H[q]?) → va_S A0 H0 H1 locs1 → W p l e R s m args below meth c H1 locs1 (cells + mc) (slots + ms) Q (F0 m (pc + 3) ls (.int r :: rest))) : W p l e R s m args below meth c H locs cells slots Q (F0 m pc ls st0) := by
  intro T hT X
  rcases hr T hT X with ⟨v, st₀, t, T', L, h0, X', hL, e1, e2, ⟨⟨r, u, hv, hp, hb⟩, hF⟩, st⟩ | ⟨q, st₀, t, T', L, E, ce, h0, X', hL, e1, e2, ⟨u, hp, hb, hF⟩, hce, hcv, hcl, st⟩
  · cases hv
    obtain ⟨k1, k2, k3⟩ := vx_keep h0 e1 hS hA hf hL hF
    obtain ⟨t2, a1, b1⟩ := kk r u t T'.heap (locs ++ L) e1.symm (by rw [← e2]; exact X'.warmed.alike) hp hb k1 k2 k3 T' rfl X'
    exact ⟨t2, st t2 a1, b1⟩
  · obtain ⟨k1, k2, k3⟩ := vx_keep h0 e1 hS hAX hf hL hF
    obtain ⟨t2, a1, b1⟩ := kx E ce q u t T'.heap (locs ++ L) e1.symm (by rw [← e2]; exact X'.warmed.alike) hp hb k1 k2 k3 (by rw [e1]; exact hce) hcv hcl T' rfl X'
    exact ⟨t2, st.trans a1, b1⟩
theorem vx_calll {S SX : Type} {post : Int64 → S → Prop} {px : SX → Prop} {B : S → State → Prop} {BX : String → SX → State → Prop} {AX : Nat → Prop} (hr : vx_Run p l e R s m args below meth c H locs cells slots mc ms (F0 m pc ls st0) rest (va_Ql post B A1 a) (vx_X px BX AX) free) (hS : va_S A0 H0 H locs) (hA : ∀ q, q < H.size → A1 q → A0 q) (hf : ∀ q, free q → A0 q) (hAX : ∀ q, q < H.size → AX q → A0 q)
    (kx : ∀ (E : String) (ce : Cell) (q9 : Addr) (u : SX) (t : State) (H1 : Heap) (locs1 : List Loc), t.heap = H1 → s.vm.Alike t.vm → px u → BX E u t → H.size ≤ H1.size → (∀ q : Nat, q < H.size → ¬ AX q → H1[q]? = H[q]?) → va_S A0 H0 H1 locs1 → H1[q9]? = some ce → ce.vm = .none → s.vm.findClass E = some ce.cls → vx_W p l e R s m args below meth c H1 locs1 (cells + mc) (slots + ms) Q (F0 m pc ls rest) q9)
    (kk : ∀ (r : Int64) (u : S) (t : State) (H1 : Heap) (locs1 : List Loc), t.heap = H1 → s.vm.Alike t.vm → post r u → B u t → H.size ≤ H1.size → (∀ q : Nat, q < H.size → ¬ A1 q → H1[q]? = H[q]?) → va_S A0 H0 H1 locs1 → W p l e R s m args below meth c H1 locs1 (cells + mc) (slots + ms) Q (F0 m (pc + 3) ls (.long r :: rest))) : W p l e R s m args below meth c H locs cells slots Q (F0 m pc ls st0) := by
  intro T hT X
  rcases hr T hT X with ⟨v, st₀, t, T', L, h0, X', hL, e1, e2, ⟨⟨r, u, hv, hp, hb⟩, hF⟩, st⟩ | ⟨q, st₀, t, T', L, E, ce, h0, X', hL, e1, e2, ⟨u, hp, hb, hF⟩, hce, hcv, hcl, st⟩
  · cases hv
    obtain ⟨k1, k2, k3⟩ := vx_keep h0 e1 hS hA hf hL hF
    obtain ⟨t2, a1, b1⟩ := kk r u t T'.heap (locs ++ L) e1.symm (by rw [← e2]; exact X'.warmed.alike) hp hb k1 k2 k3 T' rfl X'
    exact ⟨t2, st t2 a1, b1⟩
  · obtain ⟨k1, k2, k3⟩ := vx_keep h0 e1 hS hAX hf hL hF
    obtain ⟨t2, a1, b1⟩ := kx E ce q u t T'.heap (locs ++ L) e1.symm (by rw [← e2]; exact X'.warmed.alike) hp hb k1 k2 k3 (by rw [e1]; exact hce) hcv hcl T' rfl X'
    exact ⟨t2, st.trans a1, b1⟩
theorem vx_callf {S SX : Type} {post : UInt32 → S → Prop} {px : SX → Prop} {B : S → State → Prop} {BX : String → SX → State → Prop} {AX : Nat → Prop} (hr : vx_Run p l e R s m args below meth c H locs cells slots mc ms (F0 m pc ls st0) rest (va_Qf post B A1 a) (vx_X px BX AX) free) (hS : va_S A0 H0 H locs) (hA : ∀ q, q < H.size → A1 q → A0 q) (hf : ∀ q, free q → A0 q) (hAX : ∀ q, q < H.size → AX q → A0 q)
    (kx : ∀ (E : String) (ce : Cell) (q9 : Addr) (u : SX) (t : State) (H1 : Heap) (locs1 : List Loc), t.heap = H1 → s.vm.Alike t.vm → px u → BX E u t → H.size ≤ H1.size → (∀ q : Nat, q < H.size → ¬ AX q → H1[q]? = H[q]?) → va_S A0 H0 H1 locs1 → H1[q9]? = some ce → ce.vm = .none → s.vm.findClass E = some ce.cls → vx_W p l e R s m args below meth c H1 locs1 (cells + mc) (slots + ms) Q (F0 m pc ls rest) q9)
    (kk : ∀ (r : UInt32) (u : S) (t : State) (H1 : Heap) (locs1 : List Loc), t.heap = H1 → s.vm.Alike t.vm → post r u → B u t → H.size ≤ H1.size → (∀ q : Nat, q < H.size → ¬ A1 q → H1[q]? = H[q]?) → va_S A0 H0 H1 locs1 → W p l e R s m args below meth c H1 locs1 (cells + mc) (slots + ms) Q (F0 m (pc + 3) ls (.float r :: rest))) : W p l e R s m args below meth c H locs cells slots Q (F0 m pc ls st0) := by
  intro T hT X
  rcases hr T hT X with ⟨v, st₀, t, T', L, h0, X', hL, e1, e2, ⟨⟨r, u, hv, hp, hb⟩, hF⟩, st⟩ | ⟨q, st₀, t, T', L, E, ce, h0, X', hL, e1, e2, ⟨u, hp, hb, hF⟩, hce, hcv, hcl, st⟩
  · cases hv
    obtain ⟨k1, k2, k3⟩ := vx_keep h0 e1 hS hA hf hL hF
    obtain ⟨t2, a1, b1⟩ := kk r u t T'.heap (locs ++ L) e1.symm (by rw [← e2]; exact X'.warmed.alike) hp hb k1 k2 k3 T' rfl X'
    exact ⟨t2, st t2 a1, b1⟩
  · obtain ⟨k1, k2, k3⟩ := vx_keep h0 e1 hS hAX hf hL hF
    obtain ⟨t2, a1, b1⟩ := kx E ce q u t T'.heap (locs ++ L) e1.symm (by rw [← e2]; exact X'.warmed.alike) hp hb k1 k2 k3 (by rw [e1]; exact hce) hcv hcl T' rfl X'
    exact ⟨t2, st.trans a1, b1⟩
theorem vx_calld {S SX : Type} {post : UInt64 → S → Prop} {px : SX → Prop} {B : S → State → Prop} {BX : String → SX → State → Prop} {AX : Nat → Prop} (hr : vx_Run p l e R s m args below meth c H locs cells slots mc ms (F0 m pc ls st0) rest (va_Qd post B A1 a) (vx_X px BX AX) free) (hS : va_S A0 H0 H locs) (hA : ∀ q, q < H.size → A1 q → A0 q) (hf : ∀ q, free q → A0 q) (hAX : ∀ q, q < H.size → AX q → A0 q)
    (kx : ∀ (E : String) (ce : Cell) (q9 : Addr) (u : SX) (t : State) (H1 : Heap) (locs1 : List Loc), t.heap = H1 → s.vm.Alike t.vm → px u → BX E u t → H.size ≤ H1.size → (∀ q : Nat, q < H.size → ¬ AX q → H1[q]? = H[q]?) → va_S A0 H0 H1 locs1 → H1[q9]? = some ce → ce.vm = .none → s.vm.findClass E = some ce.cls → vx_W p l e R s m args below meth c H1 locs1 (cells + mc) (slots + ms) Q (F0 m pc ls rest) q9)
    (kk : ∀ (r : UInt64) (u : S) (t : State) (H1 : Heap) (locs1 : List Loc), t.heap = H1 → s.vm.Alike t.vm → post r u → B u t → H.size ≤ H1.size → (∀ q : Nat, q < H.size → ¬ A1 q → H1[q]? = H[q]?) → va_S A0 H0 H1 locs1 → W p l e R s m args below meth c H1 locs1 (cells + mc) (slots + ms) Q (F0 m (pc + 3) ls (.double r :: rest))) : W p l e R s m args below meth c H locs cells slots Q (F0 m pc ls st0) := by
  intro T hT X
  rcases hr T hT X with ⟨v, st₀, t, T', L, h0, X', hL, e1, e2, ⟨⟨r, u, hv, hp, hb⟩, hF⟩, st⟩ | ⟨q, st₀, t, T', L, E, ce, h0, X', hL, e1, e2, ⟨u, hp, hb, hF⟩, hce, hcv, hcl, st⟩
  · cases hv
    obtain ⟨k1, k2, k3⟩ := vx_keep h0 e1 hS hA hf hL hF
    obtain ⟨t2, a1, b1⟩ := kk r u t T'.heap (locs ++ L) e1.symm (by rw [← e2]; exact X'.warmed.alike) hp hb k1 k2 k3 T' rfl X'
    exact ⟨t2, st t2 a1, b1⟩
  · obtain ⟨k1, k2, k3⟩ := vx_keep h0 e1 hS hAX hf hL hF
    obtain ⟨t2, a1, b1⟩ := kx E ce q u t T'.heap (locs ++ L) e1.symm (by rw [← e2]; exact X'.warmed.alike) hp hb k1 k2 k3 (by rw [e1]; exact hce) hcv hcl T' rfl X'
    exact ⟨t2, st.trans a1, b1⟩
theorem vx_callv {S SX : Type} {post : S → Prop} {px : SX → Prop} {B : S → State → Prop} {BX : String → SX → State → Prop} {AX : Nat → Prop} (hr : vx_Run p l e R s m args below meth c H locs cells slots mc ms (F0 m pc ls st0) rest (va_Qv post B A1 a) (vx_X px BX AX) free) (hS : va_S A0 H0 H locs) (hA : ∀ q, q < H.size → A1 q → A0 q) (hf : ∀ q, free q → A0 q) (hAX : ∀ q, q < H.size → AX q → A0 q)
    (kx : ∀ (E : String) (ce : Cell) (q9 : Addr) (u : SX) (t : State) (H1 : Heap) (locs1 : List Loc), t.heap = H1 → s.vm.Alike t.vm → px u → BX E u t → H.size ≤ H1.size → (∀ q : Nat, q < H.size → ¬ AX q → H1[q]? = H[q]?) → va_S A0 H0 H1 locs1 → H1[q9]? = some ce → ce.vm = .none → s.vm.findClass E = some ce.cls → vx_W p l e R s m args below meth c H1 locs1 (cells + mc) (slots + ms) Q (F0 m pc ls rest) q9)
    (kk : ∀ (u : S) (t : State) (H1 : Heap) (locs1 : List Loc), t.heap = H1 → s.vm.Alike t.vm → post u → B u t → H.size ≤ H1.size → (∀ q : Nat, q < H.size → ¬ A1 q → H1[q]? = H[q]?) → va_S A0 H0 H1 locs1 → W p l e R s m args below meth c H1 locs1 (cells + mc) (slots + ms) Q (F0 m (pc + 3) ls (rest))) : W p l e R s m args below meth c H locs cells slots Q (F0 m pc ls st0) := by
  intro T hT X
  rcases hr T hT X with ⟨v, st₀, t, T', L, h0, X', hL, e1, e2, ⟨⟨u, hv, hp, hb⟩, hF⟩, st⟩ | ⟨q, st₀, t, T', L, E, ce, h0, X', hL, e1, e2, ⟨u, hp, hb, hF⟩, hce, hcv, hcl, st⟩
  · cases hv
    obtain ⟨k1, k2, k3⟩ := vx_keep h0 e1 hS hA hf hL hF
    obtain ⟨t2, a1, b1⟩ := kk u t T'.heap (locs ++ L) e1.symm (by rw [← e2]; exact X'.warmed.alike) hp hb k1 k2 k3 T' rfl X'
    exact ⟨t2, st t2 a1, b1⟩
  · obtain ⟨k1, k2, k3⟩ := vx_keep h0 e1 hS hAX hf hL hF
    obtain ⟨t2, a1, b1⟩ := kx E ce q u t T'.heap (locs ++ L) e1.symm (by rw [← e2]; exact X'.warmed.alike) hp hb k1 k2 k3 (by rw [e1]; exact hce) hcv hcl T' rfl X'
    exact ⟨t2, st.trans a1, b1⟩
/-- caught by the row x of this method's table; the rows ahead don't take it -/
theorem vx_catch {own name : String} {E : String} {ce : Cell} {q : Addr} (hown : s.vm.findClass own = some m.cls) (pre : List ExceptionTableEntry) (x : ExceptionTableEntry) (suf : List ExceptionTableEntry) (hsplit : c.exceptionTable.toList = pre ++ x :: suf)
    (hpass : ∀ z ∈ pre, covers z pc = false ∨ (z.catchType ≠ 0 ∧ ∃ nm : String, (Cond.classLink own z.catchType nm).before args s = true ∧ va_Nc E nm s)) (hx : covers x pc = true) (h0 : x.catchType ≠ 0)
    (hlink : (Cond.classLink own x.catchType name).before args s = true) (hcast : (Cond.castable E name).before args s = true) (hcell : H[q]? = some ce) (hv : ce.vm = .none) (hcl : s.vm.findClass E = some ce.cls)
    (kk : W p l e R s m args below meth c H locs cells slots Q (F0 m x.handlerPc ls [.ref q])) : vx_W p l e R s m args below meth c H locs cells slots Q (F0 m pc ls rest) q := by
  intro T hT X
  have hpl : e.platform.magicAccessors = ({} : Platform).magicAccessors := by rw [X.admits.platform]
  obtain ⟨c3, c4, hc3, hc4, hasg⟩ := Cond.castable_spec hcast
  cases Option.some.inj (hc3.symm.trans hcl)
  obtain ⟨c5, hc5, hcl5⟩ := Cond.classLink_spec hown hlink e.platform hpl
  cases Option.some.inj (hc4.symm.trans hc5)
  obtain ⟨vm', X', st⟩ := X.thenCaughtThrough q (g := F0 m pc ls rest) rfl (Steps.refl _) (by rw [hT]; exact hcell) (by rw [hv]; rfl) (by obtain ⟨k9, h9, -⟩ := Vm.findClass_spec hcl; exact ⟨k9, h9⟩) pre x suf hsplit
    (fun z hz => by
      rcases hpass z hz with h | ⟨hz0, nm, hl1, hn1⟩
      · exact Or.inl h
      · obtain ⟨c6, hc6, hcl6⟩ := Cond.classLink_spec hown hl1 e.platform hpl
        obtain ⟨a8, b8, h1, h2, h3⟩ := hn1
        cases Option.some.inj (h1.symm.trans hcl)
        cases Option.some.inj (h2.symm.trans hc6)
        exact Or.inr ⟨hz0, _, hcl6, h3⟩) hx (Or.inr ⟨h0, c4, hcl5, hasg⟩)
  obtain ⟨t, a1, b1⟩ := kk (T.setVm vm') hT X'
  exact ⟨t, st.trans a1, b1⟩
end Rows
section Ends
variable {p : Program} {l : Launch} {e : Env} {R : Room} {s : State} {m : MethodId} {args : Array Value} {below : List Frame} {meth : Method} {c : Code} {H : Heap} {locs : List Loc} {cells slots : Nat} {Q : State → Prop}
variable {mc ms : Nat} {free : Addr → Prop} {A0 A1 : Nat → Prop} {H0 : Heap} {a : Array Value} {ls : Array Slot} {st0 rest : List Value}
variable {Qc : Array Value → State → Outcome → State → Prop} {XC : String → State → State → Prop}
/-- what a body that may throw owes at its end -/
def vx_MQ (below : List Frame) (Qc : Array Value → State → Outcome → State → Prop) (XC : String → State → State → Prop) (a : Array Value) (s : State) (mc ms : Nat) (free : Addr → Prop) : State → Prop := fun t =>
  ∃ o, t.status = .running ∧ Ended t below o ∧ vx_Q Qc XC mc ms free a s o t
theorem vx_ret {g : JFrame} {mc ms : Nat} (k : W p l e R s m args below meth c H locs cells slots (MQ below Qc args s mc ms free) g) : W p l e R s m args below meth c H locs cells slots (vx_MQ below Qc XC args s mc ms free) g := by
  intro T hT X
  obtain ⟨t, a1, o, b1, b2, b3, b4⟩ := k T hT X
  exact ⟨t, a1, o, b1, b2, Or.inl ⟨b3, b4⟩⟩
/-- not caught here: it goes on to the caller -/
theorem vx_widen {g : JFrame} {q : Addr} {k n : Nat} (h1 : cells ≤ k) (h2 : slots ≤ n) (kk : vx_W p l e R s m args below meth c H locs k n Q g q) : vx_W p l e R s m args below meth c H locs cells slots Q g q := fun T hT X => kk T hT (stand_widen X h1 h2)
theorem vx_out {pc : Nat} {E : String} {ce : Cell} {q : Addr} {mc ms : Nat} (hout : ∀ x ∈ c.exceptionTable.toList, covers x pc = false) (hlocks : meth.locks = false) (hcell : H[q]? = some ce) (hv : ce.vm = .none) (hcl : s.vm.findClass E = some ce.cls)
    (hx : ∀ t : State, t.heap = H → s.vm.Alike t.vm → XC E s t) (hf : ∀ z ∈ locs, free z.base) (hc : cells ≤ mc) (hs : slots ≤ ms) :
    vx_W p l e R s m args below meth c H locs cells slots (vx_MQ below Qc XC args s mc ms free) (F0 m pc ls rest) q := by
  intro T hT X
  obtain ⟨st1, hrun, hend, hW, hsm⟩ := X.leaveThrown q (g := F0 m pc ls rest) rfl rfl rfl hout hlocks
  have hcell9 : (T.setFrames (.throwing q :: below)).heap[q]? = some ce := by
    show T.heap[q]? = some ce
    rw [hT]; exact hcell
  exact ⟨_, st1, .threw q, hrun, hend, Or.inr ⟨q, rfl, E, ce, locs, hx _ hT hW.alike, hcell9, hv, hcl, hW, hsm.mono hc hs, hf⟩⟩
theorem vx_frame {U : State} {k n : Nat} (h : s.sameButNew ({ U with vm := s.vm } : State) locs k n) : s.heap.size ≤ U.heap.size ∧ ∀ q : Nat, q < s.heap.size → (∀ z ∈ locs, z.base ≠ q) → U.heap[q]? = s.heap[q]? := by
  obtain ⟨-, h2, -, -, -, h6⟩ := h
  refine ⟨h2, fun q hq hz => ?_⟩
  obtain ⟨c9, e1, e2, e3, e4⟩ := h6 q _ (Array.getElem?_eq_getElem hq)
  have hs : c9.slots = (s.heap[q]).slots := Array.ext_getElem? fun i => e4 i fun hm => hz _ hm rfl
  have h9 : c9 = s.heap[q] := by
    rw [hs] at e2
    exact e2
  have e5 : U.heap[q]? = some c9 := e1
  rw [e5, h9, Array.getElem?_eq_getElem hq]
/-- the words of a throw but the four that speak of the heap -/
def vx_no (w : Cond) : Bool := decide (w ≠ .isRef (.static Bundle.tN "UNASSIGNED_STACK" Bundle.steD)) && decide (w ≠ .isRef (.static Bundle.tN "SUPPRESSED_SENTINEL" Bundle.listD)) && decide (w ≠ .laysStatic Bundle.tN "UNASSIGNED_STACK" Bundle.steD) && decide (w ≠ .laysStatic Bundle.tN "SUPPRESSED_SENTINEL" Bundle.listD)
def vx_at0 (own : String) (ic : Nat) (X : String) (names : List String) : List Cond := (Bundle.ownAtoms0 own ic X names).filter vx_no
def vx_atS (own : String) (ic : Nat) (X : String) (names : List String) : List Cond := (Bundle.ownAtoms own ic X names).filter vx_no
/-- a word that the tables alone decide, or a good one -/
def vx_ot (w : Cond) : Bool := w.onTables || goodWord w
theorem vx_ot_at {args a' : Array Value} {s U : State} {w : Cond} (hW : s.WarmedH U.vm) (hvm : s.vm = U.vm) (hg : vx_ot w = true) (h : w.before args s = true) : w.before a' U = true := by
  simp only [vx_ot, Bool.or_eq_true] at hg
  rcases hg with hg | hg
  · exact va_tabs hg hvm h
  · exact word_at hW (good_of_word hg) h
/-- a list's words: the good ones out of the method's own list, the others by premises of their own -/
theorem vx_hat {args : Array Value} {s : State} {L B : List Cond} (h1 : ∀ w ∈ L.filter goodWord, w.before args s = true) (h2 : ∀ w ∈ L.filter (fun w => !goodWord w), w ∈ B) (h3 : ∀ w ∈ B, w.before args s = true) : ∀ w ∈ L, w.before args s = true := by
  intro w hw
  by_cases g : goodWord w = true
  · exact h1 w (List.mem_filter.mpr ⟨hw, g⟩)
  · refine h3 w (h2 w (List.mem_filter.mpr ⟨hw, ?_⟩))
    show (!goodWord w) = true
    cases hgw : goodWord w
    · rfl
    · exact absurd hgw g
theorem vx_c {args : Array Value} {s : State} {w : Cond} {B : List Cond} (h : w.before args s = true) (t : ∀ w ∈ B, w.before args s = true) : ∀ w' ∈ w :: B, w'.before args s = true := fun w' h' => (List.mem_cons.mp h').elim (fun e => by rw [e]; exact h) (t w')
theorem vx_n {args : Array Value} {s : State} : ∀ w ∈ ([] : List Cond), w.before args s = true := fun _ h => nomatch h
theorem vx_own {args : Array Value} {s : State} {L : List Cond} (h1 : ∀ w ∈ L.filter vx_no, w.before args s = true)
    (hU : (Cond.isRef (.static Bundle.tN "UNASSIGNED_STACK" Bundle.steD)).before args s = true) (hN : (Cond.isRef (.static Bundle.tN "SUPPRESSED_SENTINEL" Bundle.listD)).before args s = true)
    (lU : (Cond.laysStatic Bundle.tN "UNASSIGNED_STACK" Bundle.steD).before args s = true) (lN : (Cond.laysStatic Bundle.tN "SUPPRESSED_SENTINEL" Bundle.listD).before args s = true) : ∀ w ∈ L, w.before args s = true := by
  intro w hw
  by_cases e1 : w = .isRef (.static Bundle.tN "UNASSIGNED_STACK" Bundle.steD)
  · rw [e1]; exact hU
  · by_cases e2 : w = .isRef (.static Bundle.tN "SUPPRESSED_SENTINEL" Bundle.listD)
    · rw [e2]; exact hN
    · by_cases e3 : w = .laysStatic Bundle.tN "UNASSIGNED_STACK" Bundle.steD
      · rw [e3]; exact lU
      · by_cases e4 : w = .laysStatic Bundle.tN "SUPPRESSED_SENTINEL" Bundle.listD
        · rw [e4]; exact lN
        · exact h1 w (List.mem_filter.mpr ⟨hw, by unfold vx_no; rw [decide_eq_true e1, decide_eq_true e2, decide_eq_true e3, decide_eq_true e4]; rfl⟩)
/-- where a static field lies, its class's statics cell in H -/
def vx_L (C n d : String) (A : Nat → Prop) (U : State) (H : Heap) : Prop := ∃ (c : ClassId) (k : Class) (i : Nat) (f : Field) (a : Nat) (cell : Cell), U.vm.findClass C = some c ∧ U.fieldFound? C n d = some (c, k, i, f) ∧ f.isStatic = true ∧ k.statics = some a ∧ H[a]? = some cell ∧ cell.vm.isStatics = true ∧ cell.cls = c ∧ f.slot < cell.slots.size ∧ k.staticTypes[f.slot]? = some f.type ∧ ¬ A a
theorem vx_L.moved {C n d : String} {A : Nat → Prop} {u U : State} {H : Heap} (hvm : u.vm.Alike U.vm) (h : vx_L C n d A u H) : vx_L C n d A U H := by
  obtain ⟨c, k, i, f, a, cell, h1, h2, h3, h4, h5, h6, h7, h8, h9, h10⟩ := h
  obtain ⟨k', hi', he⟩ := State.fieldFound?_setVm hvm h2
  exact ⟨c, k', i, f, a, cell, by rw [hvm.findClass]; exact h1, hi', h3, by rw [he]; exact h4, h5, h6, h7, h8, by rw [he]; exact h9, h10⟩
theorem vx_L.kept {C n d : String} {A : Nat → Prop} {U : State} {H H1 : Heap} (h : vx_L C n d A U H) (hq : ∀ a : Nat, a < H.size → ¬ A a → H1[a]? = H[a]?) : vx_L C n d A U H1 := by
  obtain ⟨c, k, i, f, a, cell, h1, h2, h3, h4, h5, h6, h7, h8, h9, h10⟩ := h
  exact ⟨c, k, i, f, a, cell, h1, h2, h3, h4, by rw [hq a (Array.getElem?_eq_some_iff.mp h5).1 h10]; exact h5, h6, h7, h8, h9, h10⟩
theorem vx_L.narrow {C n d : String} {A B : Nat → Prop} {U : State} {H : Heap} (h : vx_L C n d A U H) (hAB : ∀ q, B q → A q) : vx_L C n d B U H := by
  obtain ⟨c, k, i, f, a, cell, h1, h2, h3, h4, h5, h6, h7, h8, h9, h10⟩ := h
  exact ⟨c, k, i, f, a, cell, h1, h2, h3, h4, h5, h6, h7, h8, h9, fun z => h10 (hAB _ z)⟩
theorem vx_L.word {C n d : String} {A : Nat → Prop} {s : State} {args : Array Value} (h : vx_L C n d A s s.heap) : (Cond.laysStatic C n d).before args s = true := by
  obtain ⟨c, k, i, f, a, cell, h1, h2, h3, h4, h5, h6, h7, h8, h9, -⟩ := h
  show (Cond.laysStatic C n d).holds args s none s [] = true
  exact Cond.laysStatic_of h1 h2 h3 h4 h5 h6 h7 h8 h9
/-- .. and what it holds: null or some reference -/
def vx_Zq (C n d : String) (A : Nat → Prop) (U : State) (H : Heap) : Prop := va_Zq C n d A U H ∧ vx_L C n d A U H
theorem vx_Zq.moved {C n d : String} {A : Nat → Prop} {u U : State} {H : Heap} (hvm : u.vm.Alike U.vm) (h : vx_Zq C n d A u H) : vx_Zq C n d A U H := ⟨va_Zq.moved hvm h.1, vx_L.moved hvm h.2⟩
theorem vx_Zq.kept {C n d : String} {A : Nat → Prop} {U : State} {H H1 : Heap} (h : vx_Zq C n d A U H) (hq : ∀ a : Nat, a < H.size → ¬ A a → H1[a]? = H[a]?) : vx_Zq C n d A U H1 := ⟨va_Zq.kept h.1 hq, vx_L.kept h.2 hq⟩
theorem vx_Zq.narrow {C n d : String} {A B : Nat → Prop} {U : State} {H : Heap} (h : vx_Zq C n d A U H) (hAB : ∀ q, B q → A q) : vx_Zq C n d B U H := ⟨va_Zq.narrow h.1 hAB, vx_L.narrow h.2 hAB⟩
theorem vx_Zqof {args : Array Value} {s : State} {C n d : String} {A : Nat → Prop} (hl : (Cond.laysStatic C n d).before args s = true) (hini : (Cond.initialized C).before args s = true) (h : (Cond.isRef (.static C n d)).before args s = true) (hA : ∀ a : Nat, a < s.heap.size → ¬ A a) : vx_Zq C n d A s s.heap := by
  refine ⟨va_Zqof hl hini h hA, ?_⟩
  obtain ⟨c, k, i, f, a, cell, h1, h2, h3, h4, h5, h6, h7, h8, h9⟩ := Cond.laysStatic_spec hl
  exact ⟨c, k, i, f, a, cell, h1, h2, h3, h4, h5, h6, h7, h8, h9, hA a (Array.getElem?_eq_some_iff.mp h5).1⟩
theorem vx_isRef {C n d : String} {v : Value} {A : Nat → Prop} {s : State} {args : Array Value} (h : va_Z C n d v A s s.heap) (hv : v.isRef = true) : (Cond.isRef (.static C n d)).before args s = true := by
  obtain ⟨cf, kf, fi, f, a, cell, h1, h2, h3, h4, h5, h6, h7, -⟩ := h
  have he : (Term.static C n d).eval args s none [] s = some v := by
    simp [Term.eval, State.fieldNamed?, h1, h2, h4, h5, h6, h7]
  simp only [Cond.before, Cond.holds, Cond.value, he]
  cases v <;> simp_all [Value.isRef]
theorem vx_isRefq {C n d : String} {A : Nat → Prop} {s : State} {args : Array Value} (h : va_Zq C n d A s s.heap) : (Cond.isRef (.static C n d)).before args s = true := by
  rcases h with h | ⟨t, h⟩
  · exact vx_isRef h rfl
  · exact vx_isRef h rfl
/-- the same frame, seen from here: as if the method were called anew in this heap -/
theorem vx_rebase {T : State} (X : Stand p l e R s m args below meth c T locs cells slots) {R' : Room} (hf : R'.frames ≤ R.frames) (hl : R'.locals ≤ R.locals) (hc : cells + R'.cells ≤ R.cells) (hs : slots + R'.slots ≤ R.slots) :
    Stand p l e R' ((T.setVm s.vm).setFrames (.invoking m args :: below)) m args below meth c T [] 0 0 := by
  have htop : (T.setVm s.vm).topJava?.isSome := X.here.top
  have hF : ((T.setVm s.vm).setFrames (.invoking m args :: below)).frames = .invoking m args :: below := State.frames_setFrames _ (State.cur_lt_of_top htop)
  obtain ⟨g₀, hg0⟩ := Option.isSome_iff_exists.mp htop
  obtain ⟨r, hr⟩ := State.topJava?_eq_some.mp hg0
  have hl9 : e.platform.stackLimits (T.setVm s.vm).me = e.platform.stackLimits s.me := X.limits
  have hb9 : (T.setVm s.vm).me.stackBytes = s.me.stackBytes := X.bytes
  refine ⟨X.admits, X.cas, X.clock, hF, ?_, X.hears, X.method, X.code, X.here, X.tail, X.warmed, ?_, ?_, ?_⟩
  · have h := X.room
    have hU : ((T.setVm s.vm).setFrames (.invoking m args :: below)).localsInUse = s.localsInUse := by
      rw [State.localsInUse_invoking hF (meth := meth) (c := c) X.method X.code, State.localsInUse_invoking X.frames X.method X.code]
    simp only [State.hasRoom, Bool.and_eq_true, decide_eq_true_eq] at h ⊢
    obtain ⟨⟨⟨⟨h1, h2, h3, h4, h5, h6⟩, h7⟩, h8⟩, h9⟩ := h
    rw [X.frames, List.length_cons] at h2 h3
    have q1 := X.heapSize
    have q2 := X.used
    simp only [hF, hU, List.length_cons, State.stackLimits_setFrames, State.stackBytes_setFrames, hl9, hb9]
    refine ⟨⟨⟨⟨by omega, by omega, by omega, by omega, by omega, h6⟩, ?_⟩, ?_⟩, X.book⟩
    · show T.heap.size + R'.cells ≤ e.platform.maxCells
      omega
    · show T.slotsUsed + R'.slots ≤ e.platform.maxSlots
      omega
  · rw [State.stackLimits_setFrames]; rfl
  · rw [State.stackBytes_setFrames]; rfl
  · refine ⟨?_, Nat.le_refl _, Nat.le_refl _, ?_, ?_, fun a c9 h9 => ⟨c9, h9, rfl, rfl, fun _ _ => rfl⟩⟩
    · obtain ⟨t, ht, -⟩ := State.frames_cons hr
      show T.setVm s.vm = { ((T.setVm s.vm).setFrames (.invoking m args :: below)).setFrames (T.setVm s.vm).frames with heap := T.heap, slotsUsed := T.slotsUsed }
      rw [State.setFrames_setFrames, State.setFrames_self ht]
      rfl
    · show T.slotsUsed = T.slotsUsed + ((T.heap.toList.drop T.heap.size).map (·.slots.size)).sum
      rw [List.drop_eq_nil_of_le (Nat.le_of_eq Array.length_toList)]
      rfl
    · show ((T.heap.toList.drop T.heap.size).map (·.slots.size)).sum ≤ 0
      rw [List.drop_eq_nil_of_le (Nat.le_of_eq Array.length_toList)]
      exact Nat.le_refl _
/-- 'throw new E()': new; dup; invokespecial; athrow -/
theorem vx_throw0 {cc : ByteArray} {pc : Nat} (hexec : p.tables.exec = Jvm.exec) (hb : c.code = cc) (hl : l.stackTraces = false) {own cls : String} {names : List String} {ik ic mc ms : Nat} {A : Nat → Prop}
    (hown : s.vm.findClass own = some m.cls) (hcls : Bundle.fit cls = true) (hnames : ∀ n ∈ names, Bundle.fit n = true)
    (hk : (Cond.classLink own ik cls).before args s = true) (hini : (Cond.initialized cls).before args s = true) (hat : ∀ w ∈ vx_at0 own ic cls names, w.before args s = true)
    (hgood : ∀ w ∈ Cond.classLink own ik cls :: Cond.initialized cls :: vx_at0 own ic cls names, vx_ot w = true)
    (hU : vx_Zq Bundle.tN "UNASSIGNED_STACK" Bundle.steD A s s.heap) (hN : vx_Zq Bundle.tN "SUPPRESSED_SENTINEL" Bundle.listD A s s.heap) (hS : va_S A s.heap H locs) (hsize : ls.size = c.maxLocals)
    (d0 : decode cc pc = .ok (.new ik, 3)) (d3 : decode cc (pc + 3) = .ok (.dup, 1)) (d4 : decode cc (pc + 4) = .ok (.invokespecial ic, 3)) (d7 : decode cc (pc + 7) = .ok (.athrow, 1))
    (hout : ∀ x ∈ c.exceptionTable.toList, covers x (pc + 7) = false)
    (hRframes : names.length + 3 < R.frames) (hRlocals : (rest.map fun v => v.category).sum + (13 * (names.length + 1) + 42) ≤ R.locals) (hRcells : cells + 1 ≤ R.cells) (hRslots : slots + 6 ≤ R.slots) (hlocks : meth.locks = false)
    (hx : ∀ t : State, s.vm.Alike t.vm → H.size ≤ t.heap.size → (∀ q : Nat, q < H.size → t.heap[q]? = H[q]?) → XC cls s t)
    (hf : ∀ z ∈ locs, free z.base) (hc : cells + 1 ≤ mc) (hs : slots + 6 ≤ ms) :
    W p l e R s m args below meth c H locs cells slots (vx_MQ below Qc XC args s mc ms free) (F0 m pc ls rest) := by
  intro T hT X
  have htr : e.platform.stackTraces = false := (show e.platform.stackTraces = l.stackTraces by rw [X.admits.platform]).trans hl
  have Y := vx_rebase X (R' := { frames := R.frames, locals := R.locals, cells := 1, slots := 6 }) (Nat.le_refl _) (Nat.le_refl _) hRcells hRslots
  obtain ⟨s', hA⟩ : ∃ z, z = (T.setVm s.vm).setFrames (.invoking m args :: below) := ⟨_, rfl⟩
  rw [← hA] at Y
  have hvm : s'.vm = s.vm := by rw [hA]; rfl
  have hhp : s'.heap = H := by rw [hA]; exact hT
  have hW0 : s.WarmedH s'.vm := by rw [hvm]; exact State.WarmedH.refl s
  have hat' : ∀ w ∈ vx_at0 own ic cls names, w.before args s' = true := fun w hw => vx_ot_at hW0 hvm.symm (hgood w (List.mem_cons_of_mem _ (List.mem_cons_of_mem _ hw))) (hat w hw)
  have hk' : (Cond.classLink own ik cls).before args s' = true := vx_ot_at hW0 hvm.symm (hgood _ List.mem_cons_self) hk
  have hini' : (Cond.initialized cls).before args s' = true := vx_ot_at hW0 hvm.symm (hgood _ (List.mem_cons_of_mem _ List.mem_cons_self)) hini
  have hU' : vx_Zq Bundle.tN "UNASSIGNED_STACK" Bundle.steD A s' s'.heap := by rw [hhp]; exact vx_Zq.moved hW0.alike (hU.kept hS.2.1)
  have hN' : vx_Zq Bundle.tN "SUPPRESSED_SENTINEL" Bundle.listD A s' s'.heap := by rw [hhp]; exact vx_Zq.moved hW0.alike (hN.kept hS.2.1)
  have h : ∀ w ∈ Bundle.ownAtoms0 own ic cls names, w.before args s' = true := vx_own hat' (vx_isRefq hU'.1) (vx_isRefq hN'.1) hU'.2.word hN'.2.word
  have hown' : s'.vm.findClass own = some m.cls := by rw [hvm]; exact hown
  have hins : (Cond.instantiable cls 6).before args s' = true := h _ (by simp [Bundle.ownAtoms0])
  obtain ⟨vm₁, cX, kX, hfX, hkX, -, -, X₁, st1⟩ := Y.newCold hexec (own := own) (C := cls) (index := ik) (n := 6) hown' hk' hins hini'
    (g := F0 m pc ls rest) rfl (by rw [hb]; exact d0) (Nat.le_refl _) (Nat.le_refl _)
  generalize hT1 : (T.setVm vm₁).pushCell { cls := cX, slots := kX.instanceTypes.map defaultValue, vm := .none } = T1 at X₁ st1
  have hcat : (Value.ref T.heap.size).category = 1 := rfl
  have hcellA : T1.heap[T.heap.size]? = some (freshCell cX kX) := by rw [← hT1]; exact State.heap_pushCell_size _ _
  have d3' : decode c.code (pc + 3) = .ok (.dup, 1) := by rw [hb]; exact d3
  obtain ⟨U, hsteps, hrun, hend, hW, hsame, ce, hce, hO⟩ := X₁.ctorThrow0 hexec htr (own := own) (cls := cls) (names := names) (ic := ic) hown' hcls hnames h (fun x hx => nomatch hx) hfX hkX hcellA (by rw [hhp, hT]; exact Nat.le_refl _)
    (g := { method := m, pc := pc + 4, locals := ls, stack := .ref T.heap.size :: .ref T.heap.size :: rest, locked := none }) rfl hsize rfl rfl (rest := rest) rfl
    (by rw [hb]; exact d4) (by rw [hb]; exact d7) hout hRframes (by simp only [List.map_cons, List.sum_cons, hcat]; omega) hlocks
  obtain ⟨f1, f2⟩ := vx_frame hsame
  rw [hhp] at f1 f2
  have hWs : s.WarmedH U.vm := State.WarmedH.trans hW0 hW
  have hcl : s.vm.findClass cls = some ce.cls := by
    have h9 := hO.cls
    rw [hvm] at h9
    exact h9
  have hall : s.sameButNew ({ U with vm := s.vm } : State) locs mc ms := by
    subst hA
    obtain ⟨e1, e2⟩ := hsame
    rw [State.setFrames_setFrames] at e1
    have h2 : (T.setVm s.vm).sameButNew ({ U with vm := s.vm } : State) [] (0 + 1) (0 + 6) := ⟨e1, e2⟩
    have h3 := X.same.trans h2
    rw [List.append_nil] at h3
    exact h3.mono hc hs
  refine ⟨U, ?_, .threw T.heap.size, hrun, hend, Or.inr ⟨T.heap.size, rfl, cls, ce, locs, hx U hWs.alike f1 (fun q hq => f2 q hq (fun z hz => nomatch hz)), hce, hO.vm, hcl, hWs, hall, hf⟩⟩
  refine st1 _ ?_
  show Steps p.tables e below (T1.setTop { method := m, pc := pc + 3, locals := ls, stack := .ref T.heap.size :: rest, locked := none }) _
  jvm_step X₁.here [X₁.here.top, hexec, d3', Value.category]
  exact hsteps
/-- 'throw new E("text")': new; dup; ldc; invokespecial; athrow -/
theorem vx_throwS {cc : ByteArray} {pc : Nat} (hexec : p.tables.exec = Jvm.exec) (hb : c.code = cc) (hl : l.stackTraces = false) {own cls text : String} {names : List String} {ik is ic mc ms sa : Nat} {A : Nat → Prop}
    (hown : s.vm.findClass own = some m.cls) (hcls : Bundle.fit cls = true) (hnames : ∀ n ∈ names, Bundle.fit n = true)
    (hk : (Cond.classLink own ik cls).before args s = true) (hini : (Cond.initialized cls).before args s = true) (hstr : vk_R own is text sa s) (hat : ∀ w ∈ vx_atS own ic cls names, w.before args s = true)
    (hgood : ∀ w ∈ Cond.classLink own ik cls :: Cond.initialized cls :: vx_atS own ic cls names, vx_ot w = true)
    (hU : vx_Zq Bundle.tN "UNASSIGNED_STACK" Bundle.steD A s s.heap) (hN : vx_Zq Bundle.tN "SUPPRESSED_SENTINEL" Bundle.listD A s s.heap) (hS : va_S A s.heap H locs) (hsize : ls.size = c.maxLocals)
    (d0 : decode cc pc = .ok (.new ik, 3)) (d3 : decode cc (pc + 3) = .ok (.dup, 1)) (d4 : decode cc (pc + 4) = .ok (.ldc is, 2)) (d6 : decode cc (pc + 6) = .ok (.invokespecial ic, 3)) (d9 : decode cc (pc + 9) = .ok (.athrow, 1))
    (hout : ∀ x ∈ c.exceptionTable.toList, covers x (pc + 9) = false)
    (hRframes : names.length + 3 < R.frames) (hRlocals : (rest.map fun v => v.category).sum + (13 * (names.length + 1) + 43) ≤ R.locals) (hRcells : cells + 1 ≤ R.cells) (hRslots : slots + 6 ≤ R.slots) (hlocks : meth.locks = false)
    (hx : ∀ t : State, s.vm.Alike t.vm → H.size ≤ t.heap.size → (∀ q : Nat, q < H.size → t.heap[q]? = H[q]?) → XC cls s t)
    (hf : ∀ z ∈ locs, free z.base) (hc : cells + 1 ≤ mc) (hs : slots + 6 ≤ ms) :
    W p l e R s m args below meth c H locs cells slots (vx_MQ below Qc XC args s mc ms free) (F0 m pc ls rest) := by
  intro T hT X
  have htr : e.platform.stackTraces = false := (show e.platform.stackTraces = l.stackTraces by rw [X.admits.platform]).trans hl
  have Y := vx_rebase X (R' := { frames := R.frames, locals := R.locals, cells := 1, slots := 6 }) (Nat.le_refl _) (Nat.le_refl _) hRcells hRslots
  obtain ⟨s', hA⟩ : ∃ z, z = (T.setVm s.vm).setFrames (.invoking m args :: below) := ⟨_, rfl⟩
  rw [← hA] at Y
  have hvm : s'.vm = s.vm := by rw [hA]; rfl
  have hhp : s'.heap = H := by rw [hA]; exact hT
  have hW0 : s.WarmedH s'.vm := by rw [hvm]; exact State.WarmedH.refl s
  have hat' : ∀ w ∈ vx_atS own ic cls names, w.before args s' = true := fun w hw => vx_ot_at hW0 hvm.symm (hgood w (List.mem_cons_of_mem _ (List.mem_cons_of_mem _ hw))) (hat w hw)
  have hk' : (Cond.classLink own ik cls).before args s' = true := vx_ot_at hW0 hvm.symm (hgood _ List.mem_cons_self) hk
  have hini' : (Cond.initialized cls).before args s' = true := vx_ot_at hW0 hvm.symm (hgood _ (List.mem_cons_of_mem _ List.mem_cons_self)) hini
  have hU' : vx_Zq Bundle.tN "UNASSIGNED_STACK" Bundle.steD A s' s'.heap := by rw [hhp]; exact vx_Zq.moved hW0.alike (hU.kept hS.2.1)
  have hN' : vx_Zq Bundle.tN "SUPPRESSED_SENTINEL" Bundle.listD A s' s'.heap := by rw [hhp]; exact vx_Zq.moved hW0.alike (hN.kept hS.2.1)
  have h : ∀ w ∈ Bundle.ownAtoms own ic cls names, w.before args s' = true := vx_own hat' (vx_isRefq hU'.1) (vx_isRefq hN'.1) hU'.2.word hN'.2.word
  have hown' : s'.vm.findClass own = some m.cls := by rw [hvm]; exact hown
  have hins : (Cond.instantiable cls 6).before args s' = true := h _ (by simp [Bundle.ownAtoms])
  obtain ⟨vm₁, cX, kX, hfX, hkX, -, -, X₁, st1⟩ := Y.newCold hexec (own := own) (C := cls) (index := ik) (n := 6) hown' hk' hins hini'
    (g := F0 m pc ls rest) rfl (by rw [hb]; exact d0) (Nat.le_refl _) (Nat.le_refl _)
  generalize hT1 : (T.setVm vm₁).pushCell { cls := cX, slots := kX.instanceTypes.map defaultValue, vm := .none } = T1 at X₁ st1
  have hcat : (Value.ref T.heap.size).category = 1 := rfl
  have hcellA : T1.heap[T.heap.size]? = some (freshCell cX kX) := by rw [← hT1]; exact State.heap_pushCell_size _ _
  have d3' : decode c.code (pc + 3) = .ok (.dup, 1) := by rw [hb]; exact d3
  have d4' : decode c.code (pc + 4) = .ok (.ldc is, 2) := by rw [hb]; exact d4
  have hstr' : vk_R own is text sa s' := vk_R.warm hW0 hstr
  obtain ⟨U, hsteps, hrun, hend, hW, hsame, ce, hce, hO⟩ := X₁.ctorThrowS hexec htr (own := own) (cls := cls) (names := names) (ic := ic) hown' hcls hnames h (fun x hx => nomatch hx) hfX hkX hcellA (by rw [hhp, hT]; exact Nat.le_refl _) (msg := .ref sa) rfl
    (g := { method := m, pc := pc + 6, locals := ls, stack := .ref sa :: .ref T.heap.size :: .ref T.heap.size :: rest, locked := none }) rfl hsize rfl rfl (rest := rest) rfl
    (by rw [hb]; exact d6) (by rw [hb]; exact d9) hout hRframes (by simp only [List.map_cons, List.sum_cons, hcat]; omega) hlocks
  obtain ⟨f1, f2⟩ := vx_frame hsame
  rw [hhp] at f1 f2
  have hWs : s.WarmedH U.vm := State.WarmedH.trans hW0 hW
  have hcl : s.vm.findClass cls = some ce.cls := by
    have h9 := hO.cls
    rw [hvm] at h9
    exact h9
  have hall : s.sameButNew ({ U with vm := s.vm } : State) locs mc ms := by
    subst hA
    obtain ⟨e1, e2⟩ := hsame
    rw [State.setFrames_setFrames] at e1
    have h2 : (T.setVm s.vm).sameButNew ({ U with vm := s.vm } : State) [] (0 + 1) (0 + 6) := ⟨e1, e2⟩
    have h3 := X.same.trans h2
    rw [List.append_nil] at h3
    exact h3.mono hc hs
  refine ⟨U, ?_, .threw T.heap.size, hrun, hend, Or.inr ⟨T.heap.size, rfl, cls, ce, locs, hx U hWs.alike f1 (fun q hq => f2 q hq (fun z hz => nomatch hz)), hce, hO.vm, hcl, hWs, hall, hf⟩⟩
  refine st1 _ ?_
  show Steps p.tables e below (T1.setTop { method := m, pc := pc + 3, locals := ls, stack := .ref T.heap.size :: rest, locked := none }) _
  jvm_step X₁.here [X₁.here.top, hexec, d3', Value.category]
  exact X₁.ldcString hexec (own := own) (text := text) (index := is) (a := sa) hown' hstr'.1 hstr'.2
    (g := { method := m, pc := pc + 4, locals := ls, stack := .ref T.heap.size :: .ref T.heap.size :: rest, locked := none }) rfl d4' _ hsteps
/-- 'throw new E("text")', the text by a wide index -/
theorem vx_throwSW {cc : ByteArray} {pc : Nat} (hexec : p.tables.exec = Jvm.exec) (hb : c.code = cc) (hl : l.stackTraces = false) {own cls text : String} {names : List String} {ik is ic mc ms sa : Nat} {A : Nat → Prop}
    (hown : s.vm.findClass own = some m.cls) (hcls : Bundle.fit cls = true) (hnames : ∀ n ∈ names, Bundle.fit n = true)
    (hk : (Cond.classLink own ik cls).before args s = true) (hini : (Cond.initialized cls).before args s = true) (hstr : vk_R own is text sa s) (hat : ∀ w ∈ vx_atS own ic cls names, w.before args s = true)
    (hgood : ∀ w ∈ Cond.classLink own ik cls :: Cond.initialized cls :: vx_atS own ic cls names, vx_ot w = true)
    (hU : vx_Zq Bundle.tN "UNASSIGNED_STACK" Bundle.steD A s s.heap) (hN : vx_Zq Bundle.tN "SUPPRESSED_SENTINEL" Bundle.listD A s s.heap) (hS : va_S A s.heap H locs) (hsize : ls.size = c.maxLocals)
    (d0 : decode cc pc = .ok (.new ik, 3)) (d3 : decode cc (pc + 3) = .ok (.dup, 1)) (d4 : decode cc (pc + 4) = .ok (.ldc_w is, 3)) (d7 : decode cc (pc + 7) = .ok (.invokespecial ic, 3)) (d10 : decode cc (pc + 10) = .ok (.athrow, 1))
    (hout : ∀ x ∈ c.exceptionTable.toList, covers x (pc + 10) = false)
    (hRframes : names.length + 3 < R.frames) (hRlocals : (rest.map fun v => v.category).sum + (13 * (names.length + 1) + 43) ≤ R.locals) (hRcells : cells + 1 ≤ R.cells) (hRslots : slots + 6 ≤ R.slots) (hlocks : meth.locks = false)
    (hx : ∀ t : State, s.vm.Alike t.vm → H.size ≤ t.heap.size → (∀ q : Nat, q < H.size → t.heap[q]? = H[q]?) → XC cls s t)
    (hf : ∀ z ∈ locs, free z.base) (hc : cells + 1 ≤ mc) (hs : slots + 6 ≤ ms) :
    W p l e R s m args below meth c H locs cells slots (vx_MQ below Qc XC args s mc ms free) (F0 m pc ls rest) := by
  intro T hT X
  have htr : e.platform.stackTraces = false := (show e.platform.stackTraces = l.stackTraces by rw [X.admits.platform]).trans hl
  have Y := vx_rebase X (R' := { frames := R.frames, locals := R.locals, cells := 1, slots := 6 }) (Nat.le_refl _) (Nat.le_refl _) hRcells hRslots
  obtain ⟨s', hA⟩ : ∃ z, z = (T.setVm s.vm).setFrames (.invoking m args :: below) := ⟨_, rfl⟩
  rw [← hA] at Y
  have hvm : s'.vm = s.vm := by rw [hA]; rfl
  have hhp : s'.heap = H := by rw [hA]; exact hT
  have hW0 : s.WarmedH s'.vm := by rw [hvm]; exact State.WarmedH.refl s
  have hat' : ∀ w ∈ vx_atS own ic cls names, w.before args s' = true := fun w hw => vx_ot_at hW0 hvm.symm (hgood w (List.mem_cons_of_mem _ (List.mem_cons_of_mem _ hw))) (hat w hw)
  have hk' : (Cond.classLink own ik cls).before args s' = true := vx_ot_at hW0 hvm.symm (hgood _ List.mem_cons_self) hk
  have hini' : (Cond.initialized cls).before args s' = true := vx_ot_at hW0 hvm.symm (hgood _ (List.mem_cons_of_mem _ List.mem_cons_self)) hini
  have hU' : vx_Zq Bundle.tN "UNASSIGNED_STACK" Bundle.steD A s' s'.heap := by rw [hhp]; exact vx_Zq.moved hW0.alike (hU.kept hS.2.1)
  have hN' : vx_Zq Bundle.tN "SUPPRESSED_SENTINEL" Bundle.listD A s' s'.heap := by rw [hhp]; exact vx_Zq.moved hW0.alike (hN.kept hS.2.1)
  have h : ∀ w ∈ Bundle.ownAtoms own ic cls names, w.before args s' = true := vx_own hat' (vx_isRefq hU'.1) (vx_isRefq hN'.1) hU'.2.word hN'.2.word
  have hown' : s'.vm.findClass own = some m.cls := by rw [hvm]; exact hown
  have hins : (Cond.instantiable cls 6).before args s' = true := h _ (by simp [Bundle.ownAtoms])
  obtain ⟨vm₁, cX, kX, hfX, hkX, -, -, X₁, st1⟩ := Y.newCold hexec (own := own) (C := cls) (index := ik) (n := 6) hown' hk' hins hini'
    (g := F0 m pc ls rest) rfl (by rw [hb]; exact d0) (Nat.le_refl _) (Nat.le_refl _)
  generalize hT1 : (T.setVm vm₁).pushCell { cls := cX, slots := kX.instanceTypes.map defaultValue, vm := .none } = T1 at X₁ st1
  have hcat : (Value.ref T.heap.size).category = 1 := rfl
  have hcellA : T1.heap[T.heap.size]? = some (freshCell cX kX) := by rw [← hT1]; exact State.heap_pushCell_size _ _
  have d3' : decode c.code (pc + 3) = .ok (.dup, 1) := by rw [hb]; exact d3
  have d4' : decode c.code (pc + 4) = .ok (.ldc_w is, 3) := by rw [hb]; exact d4
  have hstr' : vk_R own is text sa s' := vk_R.warm hW0 hstr
  obtain ⟨U, hsteps, hrun, hend, hW, hsame, ce, hce, hO⟩ := X₁.ctorThrowS hexec htr (own := own) (cls := cls) (names := names) (ic := ic) hown' hcls hnames h (fun x hx => nomatch hx) hfX hkX hcellA (by rw [hhp, hT]; exact Nat.le_refl _) (msg := .ref sa) rfl
    (g := { method := m, pc := pc + 7, locals := ls, stack := .ref sa :: .ref T.heap.size :: .ref T.heap.size :: rest, locked := none }) rfl hsize rfl rfl (rest := rest) rfl
    (by rw [hb]; exact d7) (by rw [hb]; exact d10) hout hRframes (by simp only [List.map_cons, List.sum_cons, hcat]; omega) hlocks
  obtain ⟨f1, f2⟩ := vx_frame hsame
  rw [hhp] at f1 f2
  have hWs : s.WarmedH U.vm := State.WarmedH.trans hW0 hW
  have hcl : s.vm.findClass cls = some ce.cls := by
    have h9 := hO.cls
    rw [hvm] at h9
    exact h9
  have hall : s.sameButNew ({ U with vm := s.vm } : State) locs mc ms := by
    subst hA
    obtain ⟨e1, e2⟩ := hsame
    rw [State.setFrames_setFrames] at e1
    have h2 : (T.setVm s.vm).sameButNew ({ U with vm := s.vm } : State) [] (0 + 1) (0 + 6) := ⟨e1, e2⟩
    have h3 := X.same.trans h2
    rw [List.append_nil] at h3
    exact h3.mono hc hs
  refine ⟨U, ?_, .threw T.heap.size, hrun, hend, Or.inr ⟨T.heap.size, rfl, cls, ce, locs, hx U hWs.alike f1 (fun q hq => f2 q hq (fun z hz => nomatch hz)), hce, hO.vm, hcl, hWs, hall, hf⟩⟩
  refine st1 _ ?_
  show Steps p.tables e below (T1.setTop { method := m, pc := pc + 3, locals := ls, stack := .ref T.heap.size :: rest, locked := none }) _
  jvm_step X₁.here [X₁.here.top, hexec, d3', Value.category]
  exact X₁.ldcStringW hexec (own := own) (text := text) (index := is) (a := sa) hown' hstr'.1 hstr'.2
    (g := { method := m, pc := pc + 4, locals := ls, stack := .ref T.heap.size :: .ref T.heap.size :: rest, locked := none }) rfl d4' _ hsteps
end Ends
section Bodies
variable {l : Launch}
theorem vx_ofW {y : MethodName} {ws ws' : List Cond} {rm : Room} {Pc : Array Value → State → Prop} {Qc : Array Value → State → Outcome → State → Prop} {XC : String → State → State → Prop} {mc ms : Nat} {free : Addr → Prop} {cc : ByteArray} {maxL : Nat} {ret : Option FieldType}
    (hy : plainName y.cls = true) (hw : ws = Cond.code y cc maxL ret :: ws')
    (body : ∀ p e s m args below meth c s₁, BodyLoose p l y (headSpec ws rm) cc maxL ret e s m args below meth c s₁ → c.maxLocals = maxL → (∀ x ∈ c.exceptionTable.toList, False) → Pc args s →
      W p l e (headSpec ws rm).room s m args below meth c s.heap [] 0 0 (vx_MQ below Qc XC args s mc ms free) (entryFrame m args maxL)) : vx_Met l y ws rm Pc Qc XC mc ms free := by
  refine MetFree.of_bodyS (code := cc) (maxLocals := maxL) (ret := ret) hy ?_ ?_
  · intro args s m h hn
    obtain ⟨meth, c, h1, h2, h3, h4, h5, h6, -, -⟩ := Cond.code_spec hn (atoms_spec (ws := ws) h _ (by rw [hw]; exact List.mem_cons_self))
    exact ⟨meth, c, h1, h2, h3, h4, h5, h6⟩
  · intro p e s m args below meth c s₁ B hml hP _
    have hh0 : s₁.heap = s.heap := by rw [B.state]; rfl
    have ht : ∀ x ∈ c.exceptionTable.toList, False := by
      obtain ⟨meth9, c9, h1, h2, -, -, -, -, h7, -⟩ := Cond.code_spec B.named (atoms_spec (ws := ws) B.pre _ (by rw [hw]; exact List.mem_cons_self))
      cases Option.some.inj (h1.symm.trans B.method)
      cases Option.some.inj (h2.symm.trans (Stand.of_body B).code)
      intro x hx
      rw [Array.isEmpty_iff.mp h7] at hx
      cases hx
    obtain ⟨t, a1, o, b1, b2, b3⟩ := body p e s m args below meth c s₁ B hml ht hP s₁ hh0 (Stand.of_body B)
    exact ⟨t, o, a1, b1, b2, b3⟩
/-- the table of a body with handlers -/
theorem vx_table {p : Program} {x y : MethodName} {S : Spec} {cc bytes : ByteArray} {maxL maxL' : Nat} {ret ret' : Option FieldType} {e : Env} {s s₁ : State} {m : MethodId} {args : Array Value} {below : List Frame} {meth : Method} {c : Code} {hh : List (Nat × Nat × Nat × Nat)}
    (B : BodyLoose p l y S cc maxL ret e s m args below meth c s₁) (h : (Cond.codeWith y bytes maxL' ret' hh).before args s = true) : c.exceptionTable.toList = tableOf hh := by
  obtain ⟨m9, meth9, c9, hn9, h1, h2, -, -, h6, -⟩ := Cond.codeWith_spec h
  cases Option.some.inj (hn9.symm.trans B.named)
  cases Option.some.inj (h1.symm.trans B.method)
  cases Option.some.inj (h2.symm.trans (Stand.of_body B).code)
  rw [← h6, table_eq]
end Bodies
end VXA
/-! ===== END ===== -/
/-! ===== BEGIN a static call of a method with an exception table ===== -/
section VXS
variable {p : Program} {l : Launch} {e : Env} {R : Room} {s : State} {m : MethodId} {args : Array Value} {below : List Frame} {meth : Method} {c : Code} {T : State} {H : Heap} {locs : List Loc} {cells slots : Nat}
abbrev vx_CSW (R : Room) (s : State) (args : Array Value) (own : String) (index : Nat) (y : MethodName) (bytes : ByteArray) (maxL : Nat) (ret : Option FieldType) (hh : List (Nat × Nat × Nat × Nat)) (ws : List Cond) (rm : Room) (mc ms n : Nat) : Prop :=
  (rm.cells = mc ∧ rm.slots = ms ∧ rm.frames + 1 ≤ R.frames ∧ 8 + (maxL + 11) + rm.locals ≤ R.locals ∧ (∀ w ∈ ws, ∀ (a' : Array Value) (U : State), s.WarmedH U.vm → w.before a' U = true) ∧ Cond.codeWith y bytes maxL ret hh ∈ ws) ∧
  (Cond.codeWith y bytes maxL ret hh).before args s = true ∧ (Cond.initialized y.cls).before args s = true ∧ (y.cls ≠ "java/lang/invoke/MethodHandle" ∧ y.cls ≠ "java/lang/invoke/VarHandle") ∧
  (∀ sig, parseMethodDescriptor y.desc = some sig → n = sig.parameters.length) ∧ (Cond.methodLink own index y).before args s = true ∧ (Cond.static y).before args s = true
theorem vx_cwSW {own : String} {index maxL mc ms : Nat} {y : MethodName} {bytes : ByteArray} {ret : Option FieldType} {hh : List (Nat × Nat × Nat × Nat)} {Ts ws ws' : List Cond} {rm : Room} (n : Nat) (ht : ∀ w ∈ Ts, w.before args s = true) (hT : GoodIn Ts (va_wsS own index y ws)) (hw : ws = Cond.codeWith y bytes maxL ret hh :: ws') (hrc : rm.cells = mc) (hrs : rm.slots = ms)
    (hd : y.cls ≠ "java/lang/invoke/MethodHandle" ∧ y.cls ≠ "java/lang/invoke/VarHandle" ∧ (parseMethodDescriptor y.desc).map (fun d => d.parameters.length) = some n) (hR : rm.frames + 1 ≤ R.frames ∧ 8 + (maxL + 11) + rm.locals ≤ R.locals) :
    vx_CSW R s args own index y bytes maxL ret hh ws rm mc ms n := by
  have ok : ∀ w ∈ va_wsS own index y ws, w.before args s = true := fun w h => ht w (hT w h).1
  have hG : GoodIn Ts ws := fun w h => hT w (by unfold va_wsS; exact List.mem_append_right _ h)
  have hc : Cond.codeWith y bytes maxL ret hh ∈ ws := by rw [hw]; exact List.mem_cons_self
  refine ⟨⟨hrc, hrs, hR.1, hR.2, pay_in ht hG, hc⟩, ht _ (hG _ hc).1, ok _ (by simp [va_wsS]), ⟨hd.1, hd.2.1⟩, fun sig h => ?_, ok _ (by simp [va_wsS]), ok _ (by simp [va_wsS])⟩
  have h2 := hd.2.2
  rw [h] at h2
  exact (Option.some.inj h2).symm
theorem vx_callSW (X : Stand p l e R s m args below meth c T locs cells slots) (hexec : p.tables.exec = Jvm.exec) {own : String} {index : Nat} {y : MethodName} {bytes : ByteArray} {maxL : Nat} {ret : Option FieldType} {hh : List (Nat × Nat × Nat × Nat)}
    (hown : s.vm.findClass own = some m.cls) (hlink : (Cond.methodLink own index y).before args s = true) (hstat : (Cond.static y).before args s = true) (hinit : (Cond.initialized y.cls).before args s = true)
    (hcode : (Cond.codeWith y bytes maxL ret hh).before args s = true) (hy : y.cls ≠ "java/lang/invoke/MethodHandle" ∧ y.cls ≠ "java/lang/invoke/VarHandle")
    {W9 : Nat} {Pre : Pt → Array Value → Prop} {Post : Pt → Array Value → Option Value → Pt → Prop} (hK : Back l R p e below s args y 3 W9 Pre Post)
    {g : JFrame} (hg : g.method = m) (hsize : g.locals.size = c.maxLocals) {argsL rest : List Value} (hlen : ∀ sig, parseMethodDescriptor y.desc = some sig → argsL.length = sig.parameters.length)
    (hstack : g.stack = argsL.reverse ++ rest) (hW : 2 * g.monitorRoom + (rest.map fun v => v.category).sum ≤ W9) (hdg : decode c.code g.pc = .ok (.invokestatic index, 3))
    (hpre : ∀ vm₁, s.WarmedH vm₁ → Pre ⟨T.setVm vm₁, locs, cells, slots⟩ argsL.toArray) :
    ∃ (v : Option Value) (vm₁ : Vm) (B : Pt), s.WarmedH vm₁ ∧ Stand p l e R s m args below meth c B.U B.locs B.cells B.slots ∧ Post ⟨T.setVm vm₁, locs, cells, slots⟩ argsL.toArray v B ∧
      ∀ target, Steps p.tables e below (B.U.setTop { g with pc := g.pc + 3, stack := v.toList ++ rest }) target → Steps p.tables e below (T.setTop g) target := by
  obtain ⟨mk, methM, cM, hnamed, hmethM, -, -, -, -, -, -, hsigM⟩ := Cond.codeWith_spec hcode
  have hstatic : methM.isStatic = true := Cond.static_spec hnamed hmethM hstat
  obtain ⟨kP, hkP, -⟩ := className_of_methodNamed hnamed
  have hinitP : kP.init = .initialized := Cond.initialized_spec (findClass_of_methodNamed hnamed) hkP hinit
  obtain ⟨vm₁, X₁, hstep₁⟩ := X.invokestatic hexec hown hlink hnamed hmethM hstatic hkP hinitP hy (g := g) hg (argsL := argsL) (rest := rest) (hlen _ hsigM) hstack hdg
  obtain ⟨v, B, X', hpost, hsteps⟩ := hK m meth c ⟨T.setVm vm₁, locs, cells, slots⟩ { g with stack := rest } (.invokestatic index) mk argsL.toArray X₁ hg hsize hdg hW (X₁.named hnamed) (hpre vm₁ X₁.warmed)
  exact ⟨v, vm₁, B, X₁.warmed, X', hpost, fun target h => hstep₁ _ fun acts => by rw [doInvoke_state]; exact hsteps.trans h⟩
theorem vx_runSW {y : MethodName} {bytes cc : ByteArray} {maxL nL mc ms n index : Nat} {ret : Option FieldType} {hh : List (Nat × Nat × Nat × Nat)} {ws : List Cond} {rm : Room} {Pc : Array Value → State → Prop} {Qc : Array Value → State → Outcome → State → Prop} {free : Addr → Prop} {Ts : List Cond} {own : String} {As rest : List Value} {g : JFrame}
    (S : CallFix p m c cc nL s args Ts own) (hM : Met l y ws rm Pc Qc mc ms free) (cw : vx_CSW R s args own index y bytes maxL ret hh ws rm mc ms n) (hp : PreS s H Pc As)
    (hg : g.method = m) (hn : As.length = n) (hsize : g.locals.size = nL) (hstack : g.stack = As.reverse ++ rest) (hW : 2 * g.monitorRoom + (rest.map fun v => v.category).sum ≤ 8) (hdg : decode cc g.pc = .ok (.invokestatic index, 3)) (hf : cells + mc ≤ R.cells ∧ slots + ms ≤ R.slots) :
    va_Run p l e R s m args below meth c H locs cells slots mc ms g rest (Qc As.toArray) (free) := by
  obtain ⟨⟨hrc, hrs, hfr, hlo, hws, hcw⟩, hcode, hini, hy, hlen, hl, hstt⟩ := cw
  have hK : Back l R p e below s args y 3 8 (PreOf R mc ms Pc) (PostOf Qc mc ms free) := va_backW (hh := hh) (bytes := bytes) (maxL := maxL) (ret := ret) hM hp.1 hrc hrs hfr hlo hws hcw (fun a' U hW => word_at hW (Or.inl (by first | rfl | simp [Cond.onTables, Cond.keeps, Cond.steady])) hini)
  obtain ⟨hx, hb, hml, ho, -⟩ := S
  intro T hT X
  obtain ⟨v, vm₁, ⟨U', l2, c2, s2⟩, hW₁, X', ⟨g', mk, t, L, e1, e2, hq, h1, hL, h2, h3⟩, st⟩ := vx_callSW X hx (hh := hh) (bytes := bytes) (maxL := maxL) (ret := ret) ho hl hstt hini hcode hy hK hg (hsize.trans hml.symm) (argsL := As) (rest := rest) (fun sig h => hn.trans (hlen sig h)) hstack hW (by rw [hb]; exact hdg)
    (fun vm₁ hW₁ => ⟨hf.1, hf.2, hp.2 (T.setVm vm₁) hT hW₁⟩)
  dsimp only [Pt.U, Pt.locs, Pt.cells, Pt.slots] at X' e1 e2 h1 h2 h3 st
  subst h1; subst h2; subst h3
  exact ⟨v, (T.setVm vm₁).calling g' mk As.toArray, t, U', L, hT, X', hL, e1, e2, hq, st⟩
/-- not caught here, past rows that name other classes: it goes on to the caller -/
theorem vx_outP {p : Program} {l : Launch} {e : Env} {R : Room} {s : State} {m : MethodId} {args : Array Value} {below : List Frame} {meth : Method} {c : Code} {H : Heap} {locs : List Loc} {cells slots : Nat} {free : Addr → Prop} {ls : Array Slot} {rest : List Value} {Qc : Array Value → State → Outcome → State → Prop} {XC : String → State → State → Prop}
    {pc : Nat} {own E : String} {ce : Cell} {q : Addr} {mc ms : Nat} (hown : s.vm.findClass own = some m.cls) (hlocks : meth.locks = false)
    (hpass : ∀ z ∈ c.exceptionTable.toList, covers z pc = false ∨ (z.catchType ≠ 0 ∧ ∃ nm : String, (Cond.classLink own z.catchType nm).before args s = true ∧ va_Nc E nm s)) (hcell : H[q]? = some ce) (hv : ce.vm = .none) (hcl : s.vm.findClass E = some ce.cls)
    (hx : ∀ t : State, t.heap = H → s.vm.Alike t.vm → XC E s t) (hf : ∀ z ∈ locs, free z.base) (hc : cells ≤ mc) (hs : slots ≤ ms) :
    vx_W p l e R s m args below meth c H locs cells slots (vx_MQ below Qc XC args s mc ms free) (F0 m pc ls rest) q := by
  intro T hT X
  have hpl : e.platform.magicAccessors = ({} : Platform).magicAccessors := by rw [X.admits.platform]
  obtain ⟨vm', hW', X', st⟩ := X.outThrough hlocks q (g := F0 m pc ls rest) rfl rfl rfl (cell := ce) (by rw [hT]; exact hcell) (by rw [hv]; rfl)
    (by obtain ⟨k9, h9, -⟩ := Vm.findClass_spec hcl; exact ⟨k9, h9⟩) (fun z hz => by
      rcases hpass z hz with h | ⟨hz0, nm, hl1, hn1⟩
      · exact Or.inl h
      · obtain ⟨c6, hc6, hcl6⟩ := Cond.classLink_spec hown hl1 e.platform hpl
        obtain ⟨a8, b8, h1, h2, h3⟩ := hn1
        cases Option.some.inj (h1.symm.trans hcl)
        cases Option.some.inj (h2.symm.trans hc6)
        exact Or.inr ⟨hz0, _, hcl6, h3⟩)
  obtain ⟨g₀, hfr⟩ := X'.frames_eq
  have hcell9 : ((T.setVm vm').setFrames (.throwing q :: below)).heap[q]? = some ce := by
    show T.heap[q]? = some ce
    rw [hT]; exact hcell
  have hend : Ended ((T.setVm vm').setFrames (.throwing q :: below)) below (.threw q) := State.frames_setFrames _ (State.cur_lt_of_frames hfr)
  refine ⟨(T.setVm vm').setFrames (.throwing q :: below), ?_, .threw q, X'.here.running, hend, Or.inr ⟨q, rfl, E, ce, locs, hx _ hT (X'.ends _).1.alike, hcell9, hv, hcl, (X'.ends _).1, (X'.ends _).2.mono hc hs, hf⟩⟩
  rw [X.pushThrowing_eq]
  exact st
/-- a thing of a world lies in the heap -/
theorem vx_lt {D : va_G} {cl : List vw_C} {ws : va_W} {H1 : Heap} (h : va_P D cl ws H1) {k : Nat} {q : Nat × va_E} (hk : ws[k]? = some q) : q.1 < H1.size := (h k q hk).lt
end VXS
/-! ===== END ===== -/
/-! ===== BEGIN methods with a table of their own: called by a name, returning or throwing ===== -/
section VXH
/-! vx_backW, vx_callVX, vx_callSX, vx_callVW, vx_runVW, vx_runVX, vx_runSX, vx_ofWH follow the same proofs as their sisters above (Free/Laws.lean, Shelf42/LK1.lean); vx_outP calls Shelf42/NT130.lean (outThrough). -/
section
variable {l : Launch} {R : Room} {p : Program} {e : Env} {below : List Frame} {s : State} {sargs : Array Value} {y : MethodName} {len W9 : Nat}
theorem vx_backW {ws : List Cond} {rm : Room} {Pc : Array Value → State → Prop} {Qc : Array Value → State → Outcome → State → Prop} {XC : String → State → State → Prop} {mc ms : Nat} {free : Addr → Prop} {bytes : ByteArray} {maxL : Nat} {ret : Option FieldType} {hh : List (Nat × Nat × Nat × Nat)}
    (hM : vx_Met l y ws rm Pc Qc XC mc ms free) (hblind : FrameBlind Pc) (hrc : rm.cells = mc) (hrs : rm.slots = ms)
    (hframes : rm.frames + 1 ≤ R.frames) (hlocals : W9 + (maxL + 11) + rm.locals ≤ R.locals)
    (hws : ∀ w ∈ ws, ∀ a' U, s.WarmedH U.vm → w.before a' U = true) (hcode : Cond.codeWith y bytes maxL ret hh ∈ ws) (hinit : ∀ a' U, s.WarmedH U.vm → (Cond.initialized y.cls).before a' U = true) :
    vx_Back l R p e below s sargs y len W9 (PreOf R mc ms Pc) (PostOf Qc mc ms free) (vx_Post XC mc ms free) := by
  intro m meth c A g ig mk a X hg hsize hdg hW hn hp
  have h1 : (headSpec ws rm).pre.before a A.U = true := atoms_intro fun w hw => hws w hw _ _ X.warmed
  have h2 : (Cond.codeWith y bytes maxL ret hh).before a A.U = true := hws _ hcode _ _ X.warmed
  have h3 : (Cond.initialized y.cls).before a A.U = true := hinit _ _ X.warmed
  have h4 : A.cells + (headSpec ws rm).room.cells ≤ R.cells := by rw [show (headSpec ws rm).room.cells = mc from hrc]; exact hp.1
  have h5 : A.slots + (headSpec ws rm).room.slots ≤ R.slots := by rw [show (headSpec ws rm).room.slots = ms from hrs]; exact hp.2.1
  have hPc : Pc a (A.U.calling g mk a) := hblind _ _ _ _ hp.2.2
  obtain ⟨U, Ls, c0, s0⟩ := A
  dsimp only [Pt.U, Pt.locs, Pt.cells, Pt.slots] at h1 h2 h3 h4 h5 X hn hPc ⊢
  obtain ⟨m9, methY, cY, hn9, hmY, hcY, -, hlY, -⟩ := Cond.codeWith_spec h2
  cases Option.some.inj (hn9.symm.trans hn)
  obtain ⟨kY, hkY, -⟩ := className_of_methodNamed hn
  have hinitY : kY.init = .initialized := Cond.initialized_spec (findClass_of_methodNamed hn) hkY h3
  have h : At U g.method c below := by rw [hg]; exact X.here
  have hlocals9 : W9 + (maxL + 11) + (headSpec ws rm).room.locals ≤ R.locals := hlocals
  have happ : (headSpec ws rm).appliesLoose y e.platform (U.calling g mk a) = true :=
    Spec.appliesLoose_calling (g := g) h hdg hn hkY hinitY
      (X.room_calling (g := g) (R' := (headSpec ws rm).room) hsize hmY hcY hframes (by rw [hlY]; omega) h4 h5) h1
  obtain ⟨mid, hmid⟩ := h.above
  have hfr : (U.setTop g).frames = (.java g :: mid) ++ below := by rw [State.frames_setTop' g h.top, hmid]; rfl
  obtain ⟨o, s₂, hsteps, -, hend, hq⟩ := Steps.callFree hM p X.admits X.cas X.clock (acts := []) hfr happ hPc trivial
  have hq' : vx_Q Qc XC mc ms free a (U.calling g mk a) o s₂ := hq
  rw [State.frames_setTop' g h.top] at hend
  obtain ⟨g₀, hg0⟩ := Option.isSome_iff_exists.mp h.top
  obtain ⟨r, hr⟩ := State.topJava?_eq_some.mp hg0
  have hr' : (({ U with heap := s₂.heap, slotsUsed := s₂.slotsUsed } : State).setVm s₂.vm).frames = .java g₀ :: r := hr
  rcases hq' with ⟨hqc, L, hfe, hL⟩ | ⟨q, rfl, E, ce, L, hx, hce, hcv, hcl, hW₂, hsm, hL⟩
  · obtain ⟨⟨v, rfl⟩, hW₂, e2, q2, q3, q4, q5, q6⟩ := id hfe
    have e3 : s₂ = ({ (U.calling g mk a).setFrames s₂.frames with heap := s₂.heap, slotsUsed := s₂.slotsUsed } : State).setVm s₂.vm := by
      have : s₂ = ({ s₂ with vm := (U.calling g mk a).vm } : State).setVm s₂.vm := rfl
      rw [e2] at this
      exact this
    obtain ⟨c₂, i₂, len₂, hc₂, hd₂, hf₂⟩ := hend
    have hW' : U.WarmedH s₂.vm := hW₂
    have hcc : c₂ = c := by
      have h1 : s₂.code? g.method = U.code? g.method := by
        rw [State.code?_eq, State.code?_eq, hW'.alike.method?]
      exact Option.some.inj (hc₂.symm.trans (h1.trans h.code))
    subst hcc
    have hlen : len₂ = len := by rw [hdg] at hd₂; cases hd₂; rfl
    subst hlen
    have hs₂ : s₂ = (({ U with heap := s₂.heap, slotsUsed := s₂.slotsUsed } : State).setVm s₂.vm).setTop { g with pc := g.pc + len₂, stack := v.toList ++ g.stack } := by
      refine e3.trans ?_
      rw [hf₂, State.calling_eq h.top, State.setFrames_setFrames, State.setTop_of_frames _ hr', hr]
      rfl
    have hsame : U.sameButNew ({ U with heap := s₂.heap, slotsUsed := s₂.slotsUsed } : State) L mc ms := by
      refine ⟨?_, q2, q3, q4, q5, q6⟩
      obtain ⟨t, ht, -⟩ := State.frames_cons hr
      show ({ U with heap := s₂.heap, slotsUsed := s₂.slotsUsed } : State) = { U.setFrames U.frames with heap := s₂.heap, slotsUsed := s₂.slotsUsed }
      rw [State.setFrames_self ht]
    subst hg
    refine Or.inl ⟨v, ⟨(({ U with heap := s₂.heap, slotsUsed := s₂.slotsUsed } : State).setVm s₂.vm), Ls ++ L, c0 + mc, s0 + ms⟩,
      ⟨X.admits, X.cas, X.clock, X.frames, X.room, X.hears, X.method, X.code, (X.here.setHeapUsed s₂.heap s₂.slotsUsed).setVm hW'.alike, X.tail, State.WarmedH.trans X.warmed hW', X.limits, X.bytes, X.same.trans (hsame.setVm s.vm)⟩,
      ⟨g, mk, s₂, L, rfl, rfl, hqc, rfl, hL, rfl, rfl⟩, ?_⟩
    show Steps p.tables e below _ ((({ U with heap := s₂.heap, slotsUsed := s₂.slotsUsed } : State).setVm s₂.vm).setTop { g with pc := g.pc + len₂, stack := v.toList ++ g.stack })
    rw [← hs₂]
    exact hsteps
  · obtain ⟨e2, q2, q3, q4, q5, q6⟩ := id hsm
    have e3 : s₂ = ({ (U.calling g mk a).setFrames s₂.frames with heap := s₂.heap, slotsUsed := s₂.slotsUsed } : State).setVm s₂.vm := by
      have : s₂ = ({ s₂ with vm := (U.calling g mk a).vm } : State).setVm s₂.vm := rfl
      rw [e2] at this
      exact this
    have hf₂ : s₂.frames = .throwing q :: .java g :: U.frames.tail := hend
    have hW' : U.WarmedH s₂.vm := hW₂
    have hs₂ : s₂ = ((({ U with heap := s₂.heap, slotsUsed := s₂.slotsUsed } : State).setVm s₂.vm).setTop g).pushFrame (.throwing q) := by
      refine e3.trans ?_
      rw [hf₂, State.calling_eq h.top, State.setFrames_setFrames, State.pushFrame, State.frames_setTop _ hr', State.setTop_of_frames _ hr', State.setFrames_setFrames, hr]
      rfl
    have hsame : U.sameButNew ({ U with heap := s₂.heap, slotsUsed := s₂.slotsUsed } : State) L mc ms := by
      refine ⟨?_, q2, q3, q4, q5, q6⟩
      obtain ⟨t, ht, -⟩ := State.frames_cons hr
      show ({ U with heap := s₂.heap, slotsUsed := s₂.slotsUsed } : State) = { U.setFrames U.frames with heap := s₂.heap, slotsUsed := s₂.slotsUsed }
      rw [State.setFrames_self ht]
    subst hg
    refine Or.inr ⟨q, ⟨(({ U with heap := s₂.heap, slotsUsed := s₂.slotsUsed } : State).setVm s₂.vm), Ls ++ L, c0 + mc, s0 + ms⟩,
      ⟨X.admits, X.cas, X.clock, X.frames, X.room, X.hears, X.method, X.code, (X.here.setHeapUsed s₂.heap s₂.slotsUsed).setVm hW'.alike, X.tail, State.WarmedH.trans X.warmed hW', X.limits, X.bytes, X.same.trans (hsame.setVm s.vm)⟩,
      ⟨g, mk, s₂, L, E, ce, rfl, rfl, hx, hce, hcv, hcl, rfl, hL, rfl, rfl⟩, ?_⟩
    show Steps p.tables e below _ (((({ U with heap := s₂.heap, slotsUsed := s₂.slotsUsed } : State).setVm s₂.vm).setTop g).pushFrame (.throwing q))
    rw [← hs₂]
    exact hsteps
end
variable {p : Program} {l : Launch} {e : Env} {R : Room} {s : State} {m : MethodId} {args : Array Value} {below : List Frame} {meth : Method} {c : Code} {T : State} {H : Heap} {locs : List Loc} {cells slots : Nat}
theorem vx_callVX (X : Stand p l e R s m args below meth c T locs cells slots) (hexec : p.tables.exec = Jvm.exec) {own C : String} {index : Nat} {y : MethodName} {bytes : ByteArray} {maxL : Nat} {ret : Option FieldType} {hh : List (Nat × Nat × Nat × Nat)}
    (hown : s.vm.findClass own = some m.cls) (hlink : (Cond.methodLink own index y).before args s = true) (hinst : (Cond.instanceMethod y).before args s = true) (hsel : (Cond.selects C y y).before args s = true)
    (hcode : (Cond.codeWith y bytes maxL ret hh).before args s = true) (hy : y.cls ≠ "java/lang/invoke/MethodHandle" ∧ y.cls ≠ "java/lang/invoke/VarHandle")
    {W9 : Nat} {Pre : Pt → Array Value → Prop} {Post : Pt → Array Value → Option Value → Pt → Prop} {PostX : Pt → Array Value → Addr → Pt → Prop} (hK : vx_Back l R p e below s args y 3 W9 Pre Post PostX)
    {b : Addr} {cellB : Cell} (hcell : T.heap[b]? = some cellB) (hobj : cellB.vm.isStatics = false) (hcls : s.vm.findClass C = some cellB.cls)
    {g : JFrame} (hg : g.method = m) (hsize : g.locals.size = c.maxLocals) {argsL rest : List Value} (hlen : ∀ sig, parseMethodDescriptor y.desc = some sig → argsL.length = sig.parameters.length)
    (hstack : g.stack = argsL.reverse ++ .ref b :: rest) (hW : 2 * g.monitorRoom + (rest.map fun v => v.category).sum ≤ W9) (hdg : decode c.code g.pc = .ok (.invokevirtual index, 3))
    (hpre : ∀ vm₁, s.WarmedH vm₁ → Pre ⟨T.setVm vm₁, locs, cells, slots⟩ (Value.ref b :: argsL).toArray) :
    (∃ (v : Option Value) (vm₁ : Vm) (B : Pt), s.WarmedH vm₁ ∧ Stand p l e R s m args below meth c B.U B.locs B.cells B.slots ∧ Post ⟨T.setVm vm₁, locs, cells, slots⟩ (Value.ref b :: argsL).toArray v B ∧
      ∀ target, Steps p.tables e below (B.U.setTop { g with pc := g.pc + 3, stack := v.toList ++ rest }) target → Steps p.tables e below (T.setTop g) target) ∨
    (∃ (q : Addr) (vm₁ : Vm) (B : Pt), s.WarmedH vm₁ ∧ Stand p l e R s m args below meth c B.U B.locs B.cells B.slots ∧ PostX ⟨T.setVm vm₁, locs, cells, slots⟩ (Value.ref b :: argsL).toArray q B ∧
      Steps p.tables e below (T.setTop g) ((B.U.setTop { g with stack := rest }).pushFrame (.throwing q))) := by
  obtain ⟨mk, methM, hnamed, hmethM, hstM, habM⟩ := Cond.instanceMethod_spec hinst
  obtain ⟨m8, methM', cM, hn8, hmethM', -, -, -, -, -, -, hsigM⟩ := Cond.codeWith_spec hcode
  cases Option.some.inj (hn8.symm.trans hnamed)
  cases hmethM.symm.trans hmethM'
  obtain ⟨c2, r2, m2, q1, q2, q3, q4, kP, hkP, hkPi⟩ := Cond.selects_spec hsel
  cases hcls.symm.trans q1
  cases (State.methodFound?_of_named hnamed hy).symm.trans q2
  cases hnamed.symm.trans q3
  have hselP : selectMethod e.platform s.vm cellB.cls mk = .method mk := by rw [Launch.admits_selectMethod X.admits]; exact q4
  obtain ⟨vm₁, X₁, hstep₁⟩ := X.invokevirtual hexec hown hlink hnamed hmethM hstM hkP hkPi hy (a := b) (cell := cellB) hcell
    (fun z h => by rw [h] at hobj; cases hobj) hselP hmethM habM hkP hkPi (g := g) hg (argsL := argsL) (rest := rest) (hlen _ hsigM) hstack hdg
  rcases hK m meth c ⟨T.setVm vm₁, locs, cells, slots⟩ { g with stack := rest } (.invokevirtual index) mk (Value.ref b :: argsL).toArray X₁ hg hsize hdg hW (X₁.named hnamed) (hpre vm₁ X₁.warmed) with ⟨v, B, X', hpost, hsteps⟩ | ⟨q, B, X', hpost, hsteps⟩
  · exact Or.inl ⟨v, vm₁, B, X₁.warmed, X', hpost, fun target h => hstep₁ _ fun acts => by rw [doInvoke_state]; exact hsteps.trans h⟩
  · exact Or.inr ⟨q, vm₁, B, X₁.warmed, X', hpost, hstep₁ _ fun acts => by rw [doInvoke_state]; exact hsteps⟩
theorem vx_callSX (X : Stand p l e R s m args below meth c T locs cells slots) (hexec : p.tables.exec = Jvm.exec) {own : String} {index : Nat} {y : MethodName} {bytes : ByteArray} {maxL : Nat} {ret : Option FieldType} {hh : List (Nat × Nat × Nat × Nat)}
    (hown : s.vm.findClass own = some m.cls) (hlink : (Cond.methodLink own index y).before args s = true) (hstat : (Cond.static y).before args s = true) (hinit : (Cond.initialized y.cls).before args s = true)
    (hcode : (Cond.codeWith y bytes maxL ret hh).before args s = true) (hy : y.cls ≠ "java/lang/invoke/MethodHandle" ∧ y.cls ≠ "java/lang/invoke/VarHandle")
    {W9 : Nat} {Pre : Pt → Array Value → Prop} {Post : Pt → Array Value → Option Value → Pt → Prop} {PostX : Pt → Array Value → Addr → Pt → Prop} (hK : vx_Back l R p e below s args y 3 W9 Pre Post PostX)
    {g : JFrame} (hg : g.method = m) (hsize : g.locals.size = c.maxLocals) {argsL rest : List Value} (hlen : ∀ sig, parseMethodDescriptor y.desc = some sig → argsL.length = sig.parameters.length)
    (hstack : g.stack = argsL.reverse ++ rest) (hW : 2 * g.monitorRoom + (rest.map fun v => v.category).sum ≤ W9) (hdg : decode c.code g.pc = .ok (.invokestatic index, 3))
    (hpre : ∀ vm₁, s.WarmedH vm₁ → Pre ⟨T.setVm vm₁, locs, cells, slots⟩ argsL.toArray) :
    (∃ (v : Option Value) (vm₁ : Vm) (B : Pt), s.WarmedH vm₁ ∧ Stand p l e R s m args below meth c B.U B.locs B.cells B.slots ∧ Post ⟨T.setVm vm₁, locs, cells, slots⟩ argsL.toArray v B ∧
      ∀ target, Steps p.tables e below (B.U.setTop { g with pc := g.pc + 3, stack := v.toList ++ rest }) target → Steps p.tables e below (T.setTop g) target) ∨
    (∃ (q : Addr) (vm₁ : Vm) (B : Pt), s.WarmedH vm₁ ∧ Stand p l e R s m args below meth c B.U B.locs B.cells B.slots ∧ PostX ⟨T.setVm vm₁, locs, cells, slots⟩ argsL.toArray q B ∧
      Steps p.tables e below (T.setTop g) ((B.U.setTop { g with stack := rest }).pushFrame (.throwing q))) := by
  obtain ⟨mk, methM, cM, hnamed, hmethM, -, -, -, -, -, -, hsigM⟩ := Cond.codeWith_spec hcode
  have hstatic : methM.isStatic = true := Cond.static_spec hnamed hmethM hstat
  obtain ⟨kP, hkP, -⟩ := className_of_methodNamed hnamed
  have hinitP : kP.init = .initialized := Cond.initialized_spec (findClass_of_methodNamed hnamed) hkP hinit
  obtain ⟨vm₁, X₁, hstep₁⟩ := X.invokestatic hexec hown hlink hnamed hmethM hstatic hkP hinitP hy (g := g) hg (argsL := argsL) (rest := rest) (hlen _ hsigM) hstack hdg
  rcases hK m meth c ⟨T.setVm vm₁, locs, cells, slots⟩ { g with stack := rest } (.invokestatic index) mk argsL.toArray X₁ hg hsize hdg hW (X₁.named hnamed) (hpre vm₁ X₁.warmed) with ⟨v, B, X', hpost, hsteps⟩ | ⟨q, B, X', hpost, hsteps⟩
  · exact Or.inl ⟨v, vm₁, B, X₁.warmed, X', hpost, fun target h => hstep₁ _ fun acts => by rw [doInvoke_state]; exact hsteps.trans h⟩
  · exact Or.inr ⟨q, vm₁, B, X₁.warmed, X', hpost, hstep₁ _ fun acts => by rw [doInvoke_state]; exact hsteps⟩
theorem vx_callVW (X : Stand p l e R s m args below meth c T locs cells slots) (hexec : p.tables.exec = Jvm.exec) {own C : String} {index : Nat} {y : MethodName} {bytes : ByteArray} {maxL : Nat} {ret : Option FieldType} {hh : List (Nat × Nat × Nat × Nat)}
    (hown : s.vm.findClass own = some m.cls) (hlink : (Cond.methodLink own index y).before args s = true) (hinst : (Cond.instanceMethod y).before args s = true) (hsel : (Cond.selects C y y).before args s = true)
    (hcode : (Cond.codeWith y bytes maxL ret hh).before args s = true) (hy : y.cls ≠ "java/lang/invoke/MethodHandle" ∧ y.cls ≠ "java/lang/invoke/VarHandle")
    {W9 : Nat} {Pre : Pt → Array Value → Prop} {Post : Pt → Array Value → Option Value → Pt → Prop} (hK : Back l R p e below s args y 3 W9 Pre Post)
    {b : Addr} {cellB : Cell} (hcell : T.heap[b]? = some cellB) (hobj : cellB.vm.isStatics = false) (hcls : s.vm.findClass C = some cellB.cls)
    {g : JFrame} (hg : g.method = m) (hsize : g.locals.size = c.maxLocals) {argsL rest : List Value} (hlen : ∀ sig, parseMethodDescriptor y.desc = some sig → argsL.length = sig.parameters.length)
    (hstack : g.stack = argsL.reverse ++ .ref b :: rest) (hW : 2 * g.monitorRoom + (rest.map fun v => v.category).sum ≤ W9) (hdg : decode c.code g.pc = .ok (.invokevirtual index, 3))
    (hpre : ∀ vm₁, s.WarmedH vm₁ → Pre ⟨T.setVm vm₁, locs, cells, slots⟩ (Value.ref b :: argsL).toArray) :
    ∃ (v : Option Value) (vm₁ : Vm) (B : Pt), s.WarmedH vm₁ ∧ Stand p l e R s m args below meth c B.U B.locs B.cells B.slots ∧ Post ⟨T.setVm vm₁, locs, cells, slots⟩ (Value.ref b :: argsL).toArray v B ∧
      ∀ target, Steps p.tables e below (B.U.setTop { g with pc := g.pc + 3, stack := v.toList ++ rest }) target → Steps p.tables e below (T.setTop g) target := by
  obtain ⟨mk, methM, hnamed, hmethM, hstM, habM⟩ := Cond.instanceMethod_spec hinst
  obtain ⟨m8, methM', cM, hn8, hmethM', -, -, -, -, -, -, hsigM⟩ := Cond.codeWith_spec hcode
  cases Option.some.inj (hn8.symm.trans hnamed)
  cases hmethM.symm.trans hmethM'
  obtain ⟨c2, r2, m2, q1, q2, q3, q4, kP, hkP, hkPi⟩ := Cond.selects_spec hsel
  cases hcls.symm.trans q1
  cases (State.methodFound?_of_named hnamed hy).symm.trans q2
  cases hnamed.symm.trans q3
  have hselP : selectMethod e.platform s.vm cellB.cls mk = .method mk := by rw [Launch.admits_selectMethod X.admits]; exact q4
  obtain ⟨vm₁, X₁, hstep₁⟩ := X.invokevirtual hexec hown hlink hnamed hmethM hstM hkP hkPi hy (a := b) (cell := cellB) hcell
    (fun z h => by rw [h] at hobj; cases hobj) hselP hmethM habM hkP hkPi (g := g) hg (argsL := argsL) (rest := rest) (hlen _ hsigM) hstack hdg
  obtain ⟨v, B, X', hpost, hsteps⟩ := hK m meth c ⟨T.setVm vm₁, locs, cells, slots⟩ { g with stack := rest } (.invokevirtual index) mk (Value.ref b :: argsL).toArray X₁ hg hsize hdg hW (X₁.named hnamed) (hpre vm₁ X₁.warmed)
  exact ⟨v, vm₁, B, X₁.warmed, X', hpost, fun target h => hstep₁ _ fun acts => by rw [doInvoke_state]; exact hsteps.trans h⟩
abbrev vx_CVW (R : Room) (s : State) (args : Array Value) (own C : String) (index : Nat) (y : MethodName) (bytes : ByteArray) (maxL : Nat) (ret : Option FieldType) (hh : List (Nat × Nat × Nat × Nat)) (ws : List Cond) (rm : Room) (mc ms n : Nat) : Prop :=
  (rm.cells = mc ∧ rm.slots = ms ∧ rm.frames + 1 ≤ R.frames ∧ 8 + (maxL + 11) + rm.locals ≤ R.locals ∧ (∀ w ∈ ws, ∀ (a' : Array Value) (U : State), s.WarmedH U.vm → w.before a' U = true) ∧ Cond.codeWith y bytes maxL ret hh ∈ ws) ∧
  (Cond.codeWith y bytes maxL ret hh).before args s = true ∧ (Cond.initialized y.cls).before args s = true ∧ (y.cls ≠ "java/lang/invoke/MethodHandle" ∧ y.cls ≠ "java/lang/invoke/VarHandle") ∧
  (∀ sig, parseMethodDescriptor y.desc = some sig → n = sig.parameters.length) ∧ (Cond.methodLink own index y).before args s = true ∧ (Cond.instanceMethod y).before args s = true ∧ (Cond.selects C y y).before args s = true
theorem vx_cwVW {own C : String} {index maxL mc ms : Nat} {y : MethodName} {bytes : ByteArray} {ret : Option FieldType} {hh : List (Nat × Nat × Nat × Nat)} {Ts ws ws' : List Cond} {rm : Room} (n : Nat) (ht : ∀ w ∈ Ts, w.before args s = true) (hT : GoodIn Ts (wsV own index C y ws)) (hw : ws = Cond.codeWith y bytes maxL ret hh :: ws') (hrc : rm.cells = mc) (hrs : rm.slots = ms)
    (hd : y.cls = C ∧ y.cls ≠ "java/lang/invoke/MethodHandle" ∧ y.cls ≠ "java/lang/invoke/VarHandle" ∧ (parseMethodDescriptor y.desc).map (fun d => d.parameters.length) = some n) (hR : rm.frames + 1 ≤ R.frames ∧ 8 + (maxL + 11) + rm.locals ≤ R.locals) :
    vx_CVW R s args own C index y bytes maxL ret hh ws rm mc ms n := by
  obtain ⟨hC, hd⟩ := hd
  subst hC
  have ok : ∀ w ∈ wsV own index y.cls y ws, w.before args s = true := fun w h => ht w (hT w h).1
  have hG : GoodIn Ts ws := fun w h => hT w (by unfold wsV; exact List.mem_append_right _ h)
  have hc : Cond.codeWith y bytes maxL ret hh ∈ ws := by rw [hw]; exact List.mem_cons_self
  refine ⟨⟨hrc, hrs, hR.1, hR.2, pay_in ht hG, hc⟩, ht _ (hG _ hc).1, ok _ (by simp [wsV]), ⟨hd.1, hd.2.1⟩, fun sig h => ?_, ok _ (by simp [wsV]), ok _ (by simp [wsV]), ok _ (by simp [wsV])⟩
  have h2 := hd.2.2
  rw [h] at h2
  exact (Option.some.inj h2).symm
theorem vx_runVW {y : MethodName} {bytes cc : ByteArray} {maxL nL mc ms n index : Nat} {ret : Option FieldType} {hh : List (Nat × Nat × Nat × Nat)} {ws : List Cond} {rm : Room} {Pc : Array Value → State → Prop} {Qc : Array Value → State → Outcome → State → Prop} {free : Addr → Prop} {Ts : List Cond} {own C : String} {b : Addr} {As rest : List Value} {g : JFrame}
    (S : CallFix p m c cc nL s args Ts own) (hM : Met l y ws rm Pc Qc mc ms free) (cw : vx_CVW R s args own C index y bytes maxL ret hh ws rm mc ms n) (hp : PreV s H C b Pc As)
    (hg : g.method = m) (hn : As.length = n) (hsize : g.locals.size = nL) (hstack : g.stack = As.reverse ++ .ref b :: rest) (hW : 2 * g.monitorRoom + (rest.map fun v => v.category).sum ≤ 8) (hdg : decode cc g.pc = .ok (.invokevirtual index, 3)) (hf : cells + mc ≤ R.cells ∧ slots + ms ≤ R.slots) :
    va_Run p l e R s m args below meth c H locs cells slots mc ms g rest (Qc (Value.ref b :: As).toArray) free := by
  obtain ⟨⟨hrc, hrs, hfr, hlo, hws, hcw⟩, hcode, hini, hy, hlen, hl, hin, hse⟩ := cw
  have hK : Back l R p e below s args y 3 8 (PreOf R mc ms Pc) (PostOf Qc mc ms free) := va_backW (hh := hh) (bytes := bytes) (maxL := maxL) (ret := ret) hM hp.1 hrc hrs hfr hlo hws hcw (fun a' U hW => word_at hW (Or.inl (by first | rfl | simp [Cond.onTables, Cond.keeps, Cond.steady])) hini)
  obtain ⟨hx, hb, hml, ho, -⟩ := S
  obtain ⟨-, ⟨cellB, hcB, hoB, hclB⟩, hPc⟩ := hp
  intro T hT X
  obtain ⟨v, vm₁, ⟨U', l2, c2, s2⟩, hW₁, X', ⟨g', mk, t, L, e1, e2, hq, h1, hL, h2, h3⟩, st⟩ := vx_callVW X hx (C := C) (hh := hh) (bytes := bytes) (maxL := maxL) (ret := ret) ho hl hin hse hcode hy hK (by rw [hT]; exact hcB) hoB hclB hg (hsize.trans hml.symm) (argsL := As) (rest := rest) (fun sig h => hn.trans (hlen sig h)) hstack hW (by rw [hb]; exact hdg)
    (fun vm₁ hW₁ => ⟨hf.1, hf.2, hPc (T.setVm vm₁) hT hW₁⟩)
  dsimp only [Pt.U, Pt.locs, Pt.cells, Pt.slots] at X' e1 e2 h1 h2 h3 st
  subst h1; subst h2; subst h3
  exact ⟨v, (T.setVm vm₁).calling g' mk (Value.ref b :: As).toArray, t, U', L, hT, X', hL, e1, e2, hq, st⟩
section
variable {y : MethodName} {bytes cc : ByteArray} {maxL nL mc ms n index : Nat} {ret : Option FieldType} {ws : List Cond} {rm : Room} {Pc : Array Value → State → Prop} {Qc : Array Value → State → Outcome → State → Prop} {XC : String → State → State → Prop} {free : Addr → Prop} {Ts : List Cond} {own C : String} {b : Addr} {As rest : List Value} {g : JFrame}
theorem vx_runVX {hh : List (Nat × Nat × Nat × Nat)} (S : CallFix p m c cc nL s args Ts own) (hM : vx_Met l y ws rm Pc Qc XC mc ms free) (cw : vx_CVW R s args own C index y bytes maxL ret hh ws rm mc ms n) (hp : PreV s H C b Pc As)
    (hg : g.method = m) (hn : As.length = n) (hsize : g.locals.size = nL) (hstack : g.stack = As.reverse ++ .ref b :: rest) (hW : 2 * g.monitorRoom + (rest.map fun v => v.category).sum ≤ 8) (hdg : decode cc g.pc = .ok (.invokevirtual index, 3)) (hf : cells + mc ≤ R.cells ∧ slots + ms ≤ R.slots) :
    vx_Run p l e R s m args below meth c H locs cells slots mc ms g rest (Qc (Value.ref b :: As).toArray) XC free := by
  obtain ⟨⟨hrc, hrs, hfr, hlo, hws, hcw⟩, hcode, hini, hy, hlen, hl, hin, hse⟩ := cw
  have hK : vx_Back l R p e below s args y 3 8 (PreOf R mc ms Pc) (PostOf Qc mc ms free) (vx_Post XC mc ms free) := vx_backW (hh := hh) (bytes := bytes) (maxL := maxL) (ret := ret) hM hp.1 hrc hrs hfr hlo hws hcw (fun a' U hW => word_at hW (Or.inl (by first | rfl | simp [Cond.onTables, Cond.keeps, Cond.steady])) hini)
  obtain ⟨hx, hb, hml, ho, -⟩ := S
  obtain ⟨-, ⟨cellB, hcB, hoB, hclB⟩, hPc⟩ := hp
  intro T hT X
  rcases vx_callVX X hx (C := C) (hh := hh) (bytes := bytes) (maxL := maxL) (ret := ret) ho hl hin hse hcode hy hK (by rw [hT]; exact hcB) hoB hclB hg (hsize.trans hml.symm) (argsL := As) (rest := rest) (fun sig h => hn.trans (hlen sig h)) hstack hW (by rw [hb]; exact hdg)
    (fun vm₁ hW₁ => ⟨hf.1, hf.2, hPc (T.setVm vm₁) hT hW₁⟩) with ⟨v, vm₁, ⟨U', l2, c2, s2⟩, hW₁, X', ⟨g', mk, t, L, e1, e2, hq, h1, hL, h2, h3⟩, st⟩ | ⟨q, vm₁, ⟨U', l2, c2, s2⟩, hW₁, X', ⟨g', mk, t, L, E, ce, e1, e2, hq, hce, hcv, hcl, h1, hL, h2, h3⟩, st⟩
  · dsimp only [Pt.U, Pt.locs, Pt.cells, Pt.slots] at X' e1 e2 h1 h2 h3 st
    subst h1; subst h2; subst h3
    exact Or.inl ⟨v, (T.setVm vm₁).calling g' mk (Value.ref b :: As).toArray, t, U', L, hT, X', hL, e1, e2, hq, st⟩
  · dsimp only [Pt.U, Pt.locs, Pt.cells, Pt.slots] at X' e1 e2 h1 h2 h3 st hcl
    subst h1; subst h2; subst h3
    exact Or.inr ⟨q, (T.setVm vm₁).calling g' mk (Value.ref b :: As).toArray, t, U', L, E, ce, hT, X', hL, e1, e2, hq, hce, hcv, vx_cls hW₁ hcl, st⟩
theorem vx_runSX {hh : List (Nat × Nat × Nat × Nat)} (S : CallFix p m c cc nL s args Ts own) (hM : vx_Met l y ws rm Pc Qc XC mc ms free) (cw : vx_CSW R s args own index y bytes maxL ret hh ws rm mc ms n) (hp : PreS s H Pc As)
    (hg : g.method = m) (hn : As.length = n) (hsize : g.locals.size = nL) (hstack : g.stack = As.reverse ++ rest) (hW : 2 * g.monitorRoom + (rest.map fun v => v.category).sum ≤ 8) (hdg : decode cc g.pc = .ok (.invokestatic index, 3)) (hf : cells + mc ≤ R.cells ∧ slots + ms ≤ R.slots) :
    vx_Run p l e R s m args below meth c H locs cells slots mc ms g rest (Qc As.toArray) XC free := by
  obtain ⟨⟨hrc, hrs, hfr, hlo, hws, hcw⟩, hcode, hini, hy, hlen, hl, hstt⟩ := cw
  have hK : vx_Back l R p e below s args y 3 8 (PreOf R mc ms Pc) (PostOf Qc mc ms free) (vx_Post XC mc ms free) := vx_backW (hh := hh) (bytes := bytes) (maxL := maxL) (ret := ret) hM hp.1 hrc hrs hfr hlo hws hcw (fun a' U hW => word_at hW (Or.inl (by first | rfl | simp [Cond.onTables, Cond.keeps, Cond.steady])) hini)
  obtain ⟨hx, hb, hml, ho, -⟩ := S
  intro T hT X
  rcases vx_callSX X hx (hh := hh) (bytes := bytes) (maxL := maxL) (ret := ret) ho hl hstt hini hcode hy hK hg (hsize.trans hml.symm) (argsL := As) (rest := rest) (fun sig h => hn.trans (hlen sig h)) hstack hW (by rw [hb]; exact hdg)
    (fun vm₁ hW₁ => ⟨hf.1, hf.2, hp.2 (T.setVm vm₁) hT hW₁⟩) with ⟨v, vm₁, ⟨U', l2, c2, s2⟩, hW₁, X', ⟨g', mk, t, L, e1, e2, hq, h1, hL, h2, h3⟩, st⟩ | ⟨q, vm₁, ⟨U', l2, c2, s2⟩, hW₁, X', ⟨g', mk, t, L, E, ce, e1, e2, hq, hce, hcv, hcl, h1, hL, h2, h3⟩, st⟩
  · dsimp only [Pt.U, Pt.locs, Pt.cells, Pt.slots] at X' e1 e2 h1 h2 h3 st
    subst h1; subst h2; subst h3
    exact Or.inl ⟨v, (T.setVm vm₁).calling g' mk As.toArray, t, U', L, hT, X', hL, e1, e2, hq, st⟩
  · dsimp only [Pt.U, Pt.locs, Pt.cells, Pt.slots] at X' e1 e2 h1 h2 h3 st hcl
    subst h1; subst h2; subst h3
    exact Or.inr ⟨q, (T.setVm vm₁).calling g' mk As.toArray, t, U', L, E, ce, hT, X', hL, e1, e2, hq, hce, hcv, vx_cls hW₁ hcl, st⟩
end
end VXH
theorem vx_ofWH {l : Launch} {y : MethodName} {ws ws' : List Cond} {rm : Room} {Pc : Array Value → State → Prop} {Qc : Array Value → State → Outcome → State → Prop} {XC : String → State → State → Prop} {mc ms : Nat} {free : Addr → Prop} {cc : ByteArray} {maxL : Nat} {ret : Option FieldType} {hh : List (Nat × Nat × Nat × Nat)}
    (hy : plainName y.cls = true) (hw : ws = Cond.codeWith y cc maxL ret hh :: ws')
    (body : ∀ p e s m args below meth c s₁, BodyLoose p l y (headSpec ws rm) cc maxL ret e s m args below meth c s₁ → c.maxLocals = maxL → Pc args s →
      W p l e (headSpec ws rm).room s m args below meth c s.heap [] 0 0 (vx_MQ below Qc XC args s mc ms free) (entryFrame m args maxL)) : vx_Met l y ws rm Pc Qc XC mc ms free := by
  refine MetFree.of_bodyS (code := cc) (maxLocals := maxL) (ret := ret) hy ?_ ?_
  · intro args s m h hn
    obtain ⟨m9, meth, c, hn9, h1, h2, h3, h4, -, h5, h6, -⟩ := Cond.codeWith_spec (atoms_spec (ws := ws) h _ (by rw [hw]; exact List.mem_cons_self))
    cases hn.symm.trans hn9
    exact ⟨meth, c, h1, h2, h3, h4, h5, h6⟩
  · intro p e s m args below meth c s₁ B hml hP _
    have hh0 : s₁.heap = s.heap := by rw [B.state]; rfl
    obtain ⟨t, a1, o, b1, b2, b3⟩ := body p e s m args below meth c s₁ B hml hP s₁ hh0 (Stand.of_body B)
    exact ⟨t, o, a1, b1, b2, b3⟩
/-! ===== END ===== -/

/-! ===== BEGIN what the machine throws by itself, no traces kept ===== -/
section VXM
set_option maxHeartbeats 1000000 in
/-- the machine throws cls with the message text, no traces kept: from its note over the frame g to 'throwing' over the same frame (follows the proofs of Stand.vmThrowsMessage, Shelf/KitTracedVmS.lean, and Stand.throwsMessageColdBareV, StandMessageColdV.lean, without the step out of the frame) -/
theorem vx_vmAt {p : Program} {l : Launch} {e : Env} {R : Room} {s : State} {m₀ : MethodId} {args : Array Value} {below : List Frame} {meth : Method} {c : Code} {W : State} {locs : List Loc} {cells slots : Nat}
    (X : Stand p l e R s m₀ args below meth c W locs cells slots) (hexec : p.tables.exec = Jvm.exec) (htr : e.platform.stackTraces = false) {cls : String} {names : List String} {text : String}
    (hcls : Bundle.fit cls = true) (hnames : ∀ n ∈ names, Bundle.fit n = true) (hsoe : (cls == "java/lang/StackOverflowError") = false) (hoom : (cls == "java/lang/OutOfMemoryError") = false)
    (h : ∀ a ∈ Bundle.messageArmAtoms cls names, a.before args s = true)
    (hlocs : ∀ x ∈ locs, ∀ cell, s.heap[x.base]? = some cell → cell.vm.isStatics = false)
    (htext : (text == notModelled) = false) (hlimit : ¬ (stringBytes (stringToUtf16 text)).size > e.platform.arrayLengthLimit) (hheap : ¬ (stringBytes (stringToUtf16 text)).size * componentBytes .byte > e.platform.maxHeapBytes)
    {g : JFrame} (hg : g.method = m₀) (hsize : g.locals.size = c.maxLocals)
    (hRframes : names.length + 4 < R.frames) (hRlocals : 2 * g.monitorRoom + (g.stack.map fun v => v.category).sum + 10240 ≤ R.locals) (hshort : 13 * names.length + 55 ≤ 10240)
    (hRcells : cells + 3 ≤ R.cells) (hRslots : slots + ((stringBytes (stringToUtf16 text)).size + 4 + 6) ≤ R.slots) (hlocks : meth.locks = false) :
    ∃ (S : State) (q : Addr) (ce : Cell), (∀ target, Steps p.tables e below ((S.setTop g).pushFrame (.throwing q)) target → Steps p.tables e below ((W.setTop g).pushFrame (.throwNew cls (some text) none)) target) ∧
      Stand p l e R s m₀ args below meth c S locs (cells + 3) (slots + ((stringBytes (stringToUtf16 text)).size + 4 + 6)) ∧ S.heap[q]? = some ce ∧ s.vm.findClass cls = some ce.cls ∧ ce.vm = .none := by
  have howns : e.platform.frameOwnsMonitors = true := by rw [X.admits.platform]
  have hfin : e.platform.finalization = false := by rw [X.admits.platform]
  have hpl : e.platform.magicAccessors = ({} : Platform).magicAccessors := by rw [X.admits.platform]
  have a : ∀ x, x ∈ Bundle.messageArmAtoms cls names → x.holds args s none s [] = true := fun x hx => h x hx
  obtain ⟨T, Z0, L, -, Y⟩ := ThrowableC.of_atoms (args := args) howns hfin hpl (fun x hx => h x (by simp [Bundle.messageArmAtoms, hx]))
  obtain ⟨Z, M, LZ, LM, hnZ⟩ := Init0T.ofS_atoms (args := args) hpl L Y (fun x hx => h x (by simp [Bundle.messageArmAtoms, hx]))
  obtain ⟨P1, Ps, hlen, L1, hL, hP1m, hlink1, hlink⟩ := Bundle.chainS (args := args) hpl hnZ names cls hcls hnames (fun x hx => h x (by simp [Bundle.messageArmAtoms, hx]))
  obtain ⟨Zs, LZs, hn4, hfitv, hfitc⟩ := StringT.of_atoms (args := args) (fun x hx => h x (by simp [Bundle.messageArmAtoms, hx]))
  have hfound : s.vm.findClass cls = some P1.m.cls := findClass_of_methodNamed hP1m
  obtain ⟨c1, kX, hc1, hk, hord, -, -, hn6⟩ := Cond.instantiable_spec (a (.instantiable cls 6) (by simp [Bundle.messageArmAtoms]))
  cases Option.some.inj (hc1.symm.trans hfound)
  have hinit := Cond.initialized_spec hfound hk (a (.initialized cls) (by simp [Bundle.messageArmAtoms]))
  have hctor : kX.findMethod "<init>" "(Ljava/lang/String;)V" = some P1.m.idx := findMethod_of_methodNamed hP1m hk
  have hsel0 : selectMethod e.platform s.vm P1.m.cls T.fill0 = .method T.fill0 := by
    obtain ⟨c2, r2, m2, q1, q2, q3, q4, -⟩ := Cond.selects_spec (a (.selects cls Bundle.tFill0 Bundle.tFill0) (by simp [Bundle.messageArmAtoms]))
    cases Option.some.inj (q1.symm.trans hfound)
    cases Option.some.inj (q2.symm.trans (State.methodFound?_of_named Y.fill0 (by decide)))
    cases Option.some.inj (q3.symm.trans Y.fill0)
    rw [Launch.admits_selectMethod X.admits]; exact q4
  have hselF : selectMethod e.platform s.vm P1.m.cls T.fill = .method T.fill := by
    obtain ⟨c2, r2, m2, q1, q2, q3, q4, -⟩ := Cond.selects_spec (a (.selects cls Bundle.tFill Bundle.tFill) (by simp [Bundle.messageArmAtoms]))
    cases Option.some.inj (q1.symm.trans hfound)
    cases Option.some.inj (q2.symm.trans (State.methodFound?_of_named Y.fill (by decide)))
    cases Option.some.inj (q3.symm.trans Y.fill)
    rw [Launch.admits_selectMethod X.admits]; exact q4
  obtain ⟨cellS0, hcS0, hiss⟩ := Y.statics
  obtain ⟨u0, hu0⟩ := Cond.staticRefV Y.unassigned L.unassignedStatic L.statics hcS0 hiss (a (.isRef (.static Bundle.tN "UNASSIGNED_STACK" Bundle.steD)) (by simp [Bundle.messageArmAtoms]))
  obtain ⟨sen, hsen⟩ := Cond.staticRefV Y.sentinel L.sentinelStatic L.statics hcS0 hiss (a (.isRef (.static Bundle.tN "SUPPRESSED_SENTINEL" Bundle.listD)) (by simp [Bundle.messageArmAtoms]))
  obtain ⟨ci198, i198, fB, hk198, hg198, ha198, hsB, -, hnB, htB, hffB⟩ := Cond.ownField (t := .object "java/lang/Object") Y.found L.cls (by decide +kernel) (a (.fieldLink Bundle.tN 198 Bundle.tN "backtrace" "Ljava/lang/Object;") (by simp [Bundle.messageArmAtoms])) (a (.lays Bundle.tN Bundle.tN "backtrace" "Ljava/lang/Object;") (by simp [Bundle.messageArmAtoms])) e.platform hpl
  obtain ⟨cellS, hcS', heS, -, hkeep⟩ := X.same.2.2.2.2.2 T.aS cellS0 hcS0
  have hcellS : W.heap[T.aS]? = some cellS := hcS'
  have hout' : ∀ i, (⟨T.aS, i⟩ : Loc) ∉ locs := fun i hmem => by
    have := hlocs _ hmem cellS0 hcS0
    rw [hiss] at this; cases this
  have hknownS : cellS.vm ≠ .unknown := by
    rw [heS]; intro hu
    rw [show cellS0.vm = .unknown from hu] at hiss
    cases hiss
  have hvU : cellS.slots[T.fUnassigned.slot]? = some u0.v := by rw [hkeep _ (hout' _)]; exact hu0
  have hvSen : cellS.slots[T.fSentinel.slot]? = some sen.v := by rw [hkeep _ (hout' _)]; exact hsen
  obtain ⟨iM, hffM⟩ := Y.msg
  obtain ⟨tyC, dC, hdC, hdnC⟩ := Cond.laysAt hfound hk Y.cause (a (.lays cls Bundle.tN "cause" "Ljava/lang/Throwable;") (by simp [Bundle.messageArmAtoms]))
  obtain ⟨tyS, dS, hdS, hdnS⟩ := Cond.laysAt hfound hk Y.stack (a (.lays cls Bundle.tN "stackTrace" Bundle.steD) (by simp [Bundle.messageArmAtoms]))
  obtain ⟨tyP, dP, hdP, hdnP⟩ := Cond.laysAt hfound hk Y.supp (a (.lays cls Bundle.tN "suppressedExceptions" Bundle.listD) (by simp [Bundle.messageArmAtoms]))
  obtain ⟨tyM, dM, hdM, hdnM⟩ := Cond.laysAt hfound hk hffM (a (.lays cls Bundle.tN "detailMessage" "Ljava/lang/String;") (by simp [Bundle.messageArmAtoms]))
  obtain ⟨tyB, dB, hdB, hdnB⟩ := Cond.laysAt hfound hk hffB (a (.lays cls Bundle.tN "backtrace" "Ljava/lang/Object;") (by simp [Bundle.messageArmAtoms]))
  have bC := Cond.laysApart hdB hdC hdnB hdnC (by rw [hnB, Y.causeName]; decide)
  have bS := Cond.laysApart hdB hdS hdnB hdnS (by rw [hnB, Y.stackName]; decide)
  have bP := Cond.laysApart hdB hdP hdnB hdnP (by rw [hnB, Y.suppName]; decide)
  have hbk : ((preparedCellV T.toThrowableT (freshCell P1.m.cls kX) (W.heap.size + 2) u0 sen).withEntry W.cur).slots[fB.slot]? = some .null := by
    have := fresh_default (c := P1.m.cls) tyB
    rw [htB] at this
    simpa [preparedCellV, Cell.setSlot, Cell.withEntry, Array.getElem?_setIfInBounds, bC, bS, bP, bC.symm, bS.symm, bP.symm, defaultValue] using this
  have tkC := Takes.of_laid (v := .ref (W.heap.size + 2)) hk hord tyC (by rw [Y.causeType]; rfl)
  have tkS := Takes.of_laid (v := u0.v) hk hord tyS (by rw [Y.stackType]; exact fits_refV_array _ u0)
  have tkP := Takes.of_laid (v := sen.v) hk hord tyP (by rw [Y.suppType]; exact fits_refV_object _ sen)
  have tkM := Takes.of_laid (v := .ref (W.heap.size + 1)) hk hord tyM (by rw [Y.msgType]; rfl)
  have hskip : SkipFacts T e.platform s (fun u => u) u0 ((preparedCellV T.toThrowableT (freshCell P1.m.cls kX) (W.heap.size + 2) u0 sen).withEntry W.cur) := ⟨{ ci198 := ci198, i198 := i198, fBack := fB }, ⟨hk198, hg198, ha198, hsB⟩, hbk, fun _ _ => rfl⟩
  have h0 : At W g.method c below := by rw [hg]; exact X.here
  obtain ⟨hbeyond, hfreeW⟩ := X.vmMayThrow hsize (.throwNew cls (some text) none) (fun f hf => by cases hf) rfl hRlocals
  have hfr' : W.frames.length + Ps.length + 4 < (e.platform.stackLimits W.me).1 := by have := X.framesAbove hRframes; omega
  have hwd' : (stackUse (.java g :: W.frames.tail)).2 + 13 * Ps.length + 55 ≤ (e.platform.stackLimits W.me).2 := by have := X.stackAbove hsize (K := 13 * Ps.length + 55) (by omega); omega
  have hslots : W.slotsUsed + (stringBytes (stringToUtf16 text)).size + Zs.kS.instanceTypes.size + kX.instanceTypes.size ≤ e.platform.maxSlots := by
    have := X.slotsAbove hRslots
    rw [hn4, hn6]
    omega
  obtain ⟨vm', hW', st⟩ := Steps.vmThrowsMessageColdByV p (s₀ := s) (S := W) (g := g) h0 hexec T L Z LZ M LM X.warmed (t := W.cur) rfl Zs LZs P1 L1 Ps hL hlink1 hlink hsoe hoom hfound hk hinit hord hctor
    (Launch.admits_hotImplicitExceptions X.admits) hbeyond hfreeW htext hlimit hheap (X.cellsAbove hRcells) hslots (hfitv _) (hfitc _)
    (Nn := fun u => u) heapOnly_id (fun _ _ => rfl) (fun _ => rfl) (fun u x y => setCell_twice _ _ _ _) (fun _ => Nat.le_refl _) (cN := ((preparedCellV T.toThrowableT (freshCell P1.m.cls kX) (W.heap.size + 2) u0 sen).withEntry W.cur))
    hsel0 hcellS hknownS hvU tkS (fun _ hu => hu) (fun _ hu => hu) rfl rfl rfl (by simp [preparedCellV, Cell.setSlot, Cell.withEntry]) hskip (fun _ _ hA hW _ hroom _ hrest => L.nativeOff p htr hA hW hroom hrest) hselF hvSen tkC tkP tkM Y.objLocals rfl hfr' hwd'
  rw [plainBareV_eq T.toThrowableT (W.heap.size + 2) u0 sen (.ref (W.heap.size + 1)) W.cur rfl rfl] at st
  obtain ⟨-, -, w3, w4, -, -, -⟩ := withThrown_facts e.platform W Zs text P1.m.cls kX
  have X3 := ((X.pushed (bytesOf Zs.cB (stringToUtf16 text))).pushed (stringAt Zs.cS Zs.kS Zs.fv Zs.fc (stringToUtf16 text) W.heap.size)).pushed (freshCell P1.m.cls kX)
  rw [← withString_eq] at X3
  have X4 := X3.noted hW'
  have ha : (W.heap.size + 2) < ((withThrown W Zs text P1.m.cls kX).setVm vm').heap.size := by show _ < (withThrown W Zs text P1.m.cls kX).heap.size; rw [w3]; omega
  have hcell : ((withThrown W Zs text P1.m.cls kX).setVm vm').heap[(W.heap.size + 2)]? = some (freshCell P1.m.cls kX) := w4
  have X5 := ((((X4.stored hcell T.fCause.slot (.ref (W.heap.size + 2))).storedAgain ha T.fStack.slot u0.v).storedAgain ha T.fSupp.slot sen.v).storedAgain ha T.fStack.slot u0.v).storedAgain ha T.fMsg.slot (.ref (W.heap.size + 1))
  obtain ⟨g₁, hfrM⟩ := X5.frames_eq
  have hU : ((((withThrown W Zs text P1.m.cls kX).setVm vm').setCell (W.heap.size + 2) (plainBareV T.toThrowableT (freshCell P1.m.cls kX) (W.heap.size + 2) u0 sen (.ref (W.heap.size + 1)))).setTop g).pushFrame (.throwing (W.heap.size + 2)) = (((withThrown W Zs text P1.m.cls kX).setVm vm').setCell (W.heap.size + 2) (plainBareV T.toThrowableT (freshCell P1.m.cls kX) (W.heap.size + 2) u0 sen (.ref (W.heap.size + 1)))).setFrames (.throwing (W.heap.size + 2) :: .java g :: below) := by
    rw [State.pushFrame, State.frames_setTop _ hfrM, State.setTop_of_frames _ hfrM, State.setFrames_setFrames]
  have b1 : (bytesOf Zs.cB (stringToUtf16 text)).slots.size = (stringBytes (stringToUtf16 text)).size := by
    rw [(Cell.writeAll_facts _ _).2.2]; simp [bytes0]
  have b2 : (stringAt Zs.cS Zs.kS Zs.fv Zs.fc (stringToUtf16 text) W.heap.size).slots.size = 4 := by simp [string0, Cell.setSlot, hn4]
  have b3 : (freshCell P1.m.cls kX).slots.size = 6 := by simp [hn6]
  rw [b1, b2, b3] at X5
  have e9 : slots + (stringBytes (stringToUtf16 text)).size + 4 + 6 = slots + ((stringBytes (stringToUtf16 text)).size + 4 + 6) := by omega
  rw [e9] at X5
  simp only [List.append_assoc, List.cons_append, List.nil_append] at X5
  refine ⟨((withThrown W Zs text P1.m.cls kX).setVm vm').setCell (W.heap.size + 2) (plainBareV T.toThrowableT (freshCell P1.m.cls kX) (W.heap.size + 2) u0 sen (.ref (W.heap.size + 1))), W.heap.size + 2, _, fun target ht => st _ (by rw [X.tail, ← hU]; exact ht),
    X5.forget (fun y hy => ?_), heapAt_setCell_self _ ha, hfound, rfl⟩
  simp only [List.mem_cons, List.not_mem_nil, or_false] at hy
  have hge : s.heap.size ≤ W.heap.size := X.same.2.1
  rcases hy with rfl | rfl | rfl | rfl | rfl <;> exact Nat.le_trans hge (Nat.le_add_right _ 2)
set_option maxHeartbeats 1000000 in
/-- the machine throws NullPointerException, no traces kept: from its note over the frame g to 'throwing' over the same frame (follows the proof of Stand.vmThrowsNpe, Shelf42/KT2.lean; throwsNpeColdBareVAt, Shelf42/NT91.lean, called) -/
theorem vx_npeAt {p : Program} {l : Launch} {e : Env} {R : Room} {s : State} {m₀ : MethodId} {args : Array Value} {below : List Frame} {meth : Method} {c : Code} {W : State} {locs : List Loc} {cells slots : Nat}
    (X : Stand p l e R s m₀ args below meth c W locs cells slots) (hexec : p.tables.exec = Jvm.exec) (htr : e.platform.stackTraces = false) {n : Nat}
    (h : ∀ a ∈ Bundle.npeArmAtoms n, a.before args s = true)
    (hlocs : ∀ x ∈ locs, ∀ cell, s.heap[x.base]? = some cell → cell.vm.isStatics = false)
    {g : JFrame} (hg : g.method = m₀) (hsize : g.locals.size = c.maxLocals)
    (hRframes : 7 < R.frames) (hRlocals : 2 * g.monitorRoom + (g.stack.map fun v => v.category).sum + 10240 ≤ R.locals)
    (hRcells : cells + 1 ≤ R.cells) (hRslots : slots + n ≤ R.slots) (hlocks : meth.locks = false) :
    ∃ (S : State) (q : Addr) (ce : Cell), (∀ target, Steps p.tables e below ((S.setTop g).pushFrame (.throwing q)) target → Steps p.tables e below ((W.setTop g).pushFrame (.throwNew "java/lang/NullPointerException" none none)) target) ∧
      Stand p l e R s m₀ args below meth c S locs (cells + 1) (slots + n) ∧ S.heap[q]? = some ce ∧ s.vm.findClass "java/lang/NullPointerException" = some ce.cls ∧ ce.vm = .none := by
  have howns : e.platform.frameOwnsMonitors = true := by rw [X.admits.platform]
  have hfin : e.platform.finalization = false := by rw [X.admits.platform]
  have hpl : e.platform.magicAccessors = ({} : Platform).magicAccessors := by rw [X.admits.platform]
  have hpl2 : e.platform.arrayCloneIsPublic = true := by rw [X.admits.platform]
  have a' : ∀ x, x ∈ Bundle.npeArmAtoms n → x.holds args s none s [] = true := fun x hx => h x hx
  obtain ⟨T, Z, L, LZ, Y⟩ := ThrowableC.of_atoms (args := args) howns hfin hpl (fun x hx => h x (by simp [Bundle.npeArmAtoms, hx]))
  obtain ⟨N, LN, hcN, hnNF, hordN, hffS⟩ := NpeC.of_atoms (args := args) hpl hpl2 L Y (fun x hx => h x (by simp [Bundle.npeArmAtoms, hx]))
  obtain ⟨P1, L1, hP1m, hP1s⟩ := PassC.of_atoms (args := args) (s := s) hpl (X := Bundle.nN) (Y := Bundle.rN) (by decide) (by decide) LibCode.NullPointerException.Init0.at_0 LibCode.NullPointerException.Init0.at_1 LibCode.NullPointerException.Init0.at_4 (fun x hx => h x (by simp [Bundle.npeArmAtoms, hx]))
  obtain ⟨PR, LR, hPRm, hPRs⟩ := PassC.of_atoms (args := args) (s := s) hpl (X := Bundle.rN) (Y := Bundle.eN) (by decide) (by decide) LibCode.RuntimeException.Init0.at_0 LibCode.RuntimeException.Init0.at_1 LibCode.RuntimeException.Init0.at_4 (fun x hx => h x (by simp [Bundle.npeArmAtoms, hx]))
  obtain ⟨PE, LEx, hPEm, hPEs⟩ := PassC.of_atoms (args := args) (s := s) hpl (X := Bundle.eN) (Y := Bundle.tN) (by decide) (by decide) LibCode.Exception.Init0.at_0 LibCode.Exception.Init0.at_1 LibCode.Exception.Init0.at_4 (fun x hx => h x (by simp [Bundle.npeArmAtoms, hx]))
  have hfound : s.vm.findClass Bundle.nN = some P1.m.cls := findClass_of_methodNamed hP1m
  have ecls : N.cN = P1.m.cls := Option.some.inj (hcN.symm.trans hfound)
  have hk : s.vm.classes[P1.m.cls]? = some N.kN := by rw [← ecls]; exact LN.cls
  have hinit := Cond.initialized_spec hfound hk (a' (.initialized Bundle.nN) (by simp [Bundle.npeArmAtoms]))
  have hctor : N.kN.findMethod "<init>" "()V" = some P1.m.idx := findMethod_of_methodNamed hP1m hk
  obtain ⟨c1, k1, hc1, hk1, -, -, -, hn⟩ := Cond.instantiable_spec (a' (.instantiable Bundle.nN n) (by simp [Bundle.npeArmAtoms]))
  cases Option.some.inj (hc1.symm.trans hfound)
  cases Option.some.inj (hk1.symm.trans hk)
  have hfsz : (freshCell P1.m.cls N.kN).slots.size = n := by simp [hn]
  have hlink1 : P1.sup = PR.m := Option.some.inj (hP1s.symm.trans hPRm)
  have hlinkR : PR.sup = PE.m := Option.some.inj (hPRs.symm.trans hPEm)
  have hlinkE : PE.sup = Z.m T.toThrowableT := Option.some.inj (hPEs.symm.trans Y.init0)
  have hLs : ∀ P, P ∈ [PR, PE] → P.Links0 e.platform s := fun P hP => by
    simp only [List.mem_cons, List.not_mem_nil, or_false] at hP
    rcases hP with rfl | rfl
    · exact LR
    · exact LEx
  have hsel0 : selectMethod e.platform s.vm P1.m.cls T.fill0 = .method T.fill0 := by
    obtain ⟨c2, r2, m2, q1, q2, q3, q4, -⟩ := Cond.selects_spec (a' (.selects Bundle.nN Bundle.tFill0 Bundle.tFill0) (by simp [Bundle.npeArmAtoms]))
    cases Option.some.inj (q1.symm.trans hfound)
    cases Option.some.inj (q2.symm.trans (State.methodFound?_of_named Y.fill0 (by decide)))
    cases Option.some.inj (q3.symm.trans Y.fill0)
    rw [Launch.admits_selectMethod X.admits]; exact q4
  have hselF : selectMethod e.platform s.vm P1.m.cls T.fill = .method N.fill := by
    obtain ⟨c2, r2, m2, q1, q2, q3, q4, -⟩ := Cond.selects_spec (a' (.selects Bundle.nN Bundle.tFill Bundle.nFill) (by simp [Bundle.npeArmAtoms]))
    cases Option.some.inj (q1.symm.trans hfound)
    cases Option.some.inj (q2.symm.trans (State.methodFound?_of_named Y.fill (by decide)))
    cases Option.some.inj (q3.symm.trans hnNF)
    rw [Launch.admits_selectMethod X.admits]; exact q4
  obtain ⟨cellS0, hcS0, hiss⟩ := Y.statics
  obtain ⟨u0, hu0⟩ := Cond.staticRefV Y.unassigned L.unassignedStatic L.statics hcS0 hiss (a' (.isRef (.static Bundle.tN "UNASSIGNED_STACK" Bundle.steD)) (by simp [Bundle.npeArmAtoms]))
  obtain ⟨sen, hsen⟩ := Cond.staticRefV Y.sentinel L.sentinelStatic L.statics hcS0 hiss (a' (.isRef (.static Bundle.tN "SUPPRESSED_SENTINEL" Bundle.listD)) (by simp [Bundle.npeArmAtoms]))
  obtain ⟨ci198, i198, fB, hk198, hg198, ha198, hsB, -, hnB, htB, hffB⟩ := Cond.ownField (t := .object "java/lang/Object") Y.found L.cls (by decide +kernel) (a' (.fieldLink Bundle.tN 198 Bundle.tN "backtrace" Bundle.objD) (by simp [Bundle.npeArmAtoms])) (a' (.lays Bundle.tN Bundle.tN "backtrace" Bundle.objD) (by simp [Bundle.npeArmAtoms])) e.platform hpl
  obtain ⟨cellS, hcS', heS, -, hkeep⟩ := X.same.2.2.2.2.2 T.aS cellS0 hcS0
  have hcellS : W.heap[T.aS]? = some cellS := hcS'
  have hout' : ∀ i, (⟨T.aS, i⟩ : Loc) ∉ locs := fun i hmem => by
    have := hlocs _ hmem cellS0 hcS0
    rw [hiss] at this; cases this
  have hknownS : cellS.vm ≠ .unknown := by
    rw [heS]; intro hu
    rw [show cellS0.vm = .unknown from hu] at hiss
    cases hiss
  have hvU : cellS.slots[T.fUnassigned.slot]? = some u0.v := by rw [hkeep _ (hout' _)]; exact hu0
  have hvSen : cellS.slots[T.fSentinel.slot]? = some sen.v := by rw [hkeep _ (hout' _)]; exact hsen
  obtain ⟨tyC, dC, hdC, hdnC⟩ := Cond.laysAt hfound hk Y.cause (a' (.lays Bundle.nN Bundle.tN "cause" "Ljava/lang/Throwable;") (by simp [Bundle.npeArmAtoms]))
  obtain ⟨tyS, dS, hdS, hdnS⟩ := Cond.laysAt hfound hk Y.stack (a' (.lays Bundle.nN Bundle.tN "stackTrace" Bundle.steD) (by simp [Bundle.npeArmAtoms]))
  obtain ⟨tyP, dP, hdP, hdnP⟩ := Cond.laysAt hfound hk Y.supp (a' (.lays Bundle.nN Bundle.tN "suppressedExceptions" Bundle.listD) (by simp [Bundle.npeArmAtoms]))
  obtain ⟨tyX, dX, hdX, hdnX⟩ := Cond.laysAt hfound hk hffS (a' (.lays Bundle.nN Bundle.nN "extendedMessageState" "I") (by simp [Bundle.npeArmAtoms, Bundle.npeAtoms]))
  obtain ⟨hnX, htX⟩ := State.fieldFound?_type hffS (t := .int) (by decide +kernel)
  have xC := Cond.laysApart hdC hdX hdnC hdnX (by rw [hnX, Y.causeName]; decide)
  have xS := Cond.laysApart hdS hdX hdnS hdnX (by rw [hnX, Y.stackName]; decide)
  have xP := Cond.laysApart hdP hdX hdnP hdnX (by rw [hnX, Y.suppName]; decide)
  have hv0 : (freshCell P1.m.cls N.kN).slots[N.fState.slot]? = some (.int 0) := by
    have := fresh_default (c := P1.m.cls) tyX
    rw [htX] at this; exact this
  obtain ⟨tyB, dB, hdB, hdnB⟩ := Cond.laysAt hfound hk hffB (a' (.lays Bundle.nN Bundle.tN "backtrace" Bundle.objD) (by simp [Bundle.npeArmAtoms]))
  have bC := Cond.laysApart hdB hdC hdnB hdnC (by rw [hnB, Y.causeName]; decide)
  have bS := Cond.laysApart hdB hdS hdnB hdnS (by rw [hnB, Y.stackName]; decide)
  have bP := Cond.laysApart hdB hdP hdnB hdnP (by rw [hnB, Y.suppName]; decide)
  have bX := Cond.laysApart hdB hdX hdnB hdnX (by rw [hnB, hnX]; decide)
  have hbk : ((npeCell N.toNpeT (preparedCellV T.toThrowableT (freshCell P1.m.cls N.kN) W.heap.size u0 sen) W.cur).withEntry W.cur).slots[fB.slot]? = some .null := by
    have := fresh_default (c := P1.m.cls) tyB
    rw [htB] at this
    simpa [npeCell, preparedCellV, Cell.setSlot, Cell.withEntry, Array.getElem?_setIfInBounds, bC, bS, bP, bX, bC.symm, bS.symm, bP.symm, bX.symm, defaultValue] using this
  have tkC := Takes.of_laid (v := .ref W.heap.size) hk hordN tyC (by rw [Y.causeType]; rfl)
  have tkS := Takes.of_laid (v := u0.v) hk hordN tyS (by rw [Y.stackType]; exact fits_refV_array _ u0)
  have tkP := Takes.of_laid (v := sen.v) hk hordN tyP (by rw [Y.suppType]; exact fits_refV_object _ sen)
  have tkX := Takes.of_laid (v := .int 1) hk hordN tyX (by rw [htX]; rfl)
  have hskip : SkipFacts T e.platform s (fun u => u) u0 ((npeCell N.toNpeT (preparedCellV T.toThrowableT (freshCell P1.m.cls N.kN) W.heap.size u0 sen) W.cur).withEntry W.cur) := ⟨{ ci198 := ci198, i198 := i198, fBack := fB }, ⟨hk198, hg198, ha198, hsB⟩, hbk, fun _ _ => rfl⟩
  obtain ⟨vm', X3, st, -⟩ := X.throwsNpeColdBareVAt hexec hg hsize T L Z LZ N LN P1 L1 [PR, PE] hLs hlink1 ⟨hlinkR, hlinkE, trivial⟩ hfound hk hinit hordN hctor hsel0 hselF hcellS hknownS hvU hvSen
    hv0 xC xS xP tkC tkS tkP tkX Y.objLocals hskip (fun _ _ hA hW _ hroom _ hrest => L.nativeOff p htr hA hW hroom hrest) (by simpa using hRframes) hRlocals (by simp) hRcells (by rw [hn]; exact hRslots)
  have hlt : W.heap.size < ((W.pushCell (freshCell P1.m.cls N.kN)).setVm vm').heap.size := by
    show W.heap.size < (W.pushCell (freshCell P1.m.cls N.kN)).heap.size
    rw [State.heap_size_pushCell]; omega
  rw [hfsz] at X3
  obtain ⟨g₁, hfrM⟩ := X3.frames_eq
  have hU : ((((W.pushCell (freshCell P1.m.cls N.kN)).setVm vm').setCell W.heap.size (npeBareV T.toThrowableT N.toNpeT (freshCell P1.m.cls N.kN) W.heap.size u0 sen)).setTop g).pushFrame (.throwing W.heap.size) = (((W.pushCell (freshCell P1.m.cls N.kN)).setVm vm').setCell W.heap.size (npeBareV T.toThrowableT N.toNpeT (freshCell P1.m.cls N.kN) W.heap.size u0 sen)).setFrames (.throwing W.heap.size :: .java g :: below) := by
    rw [State.pushFrame, State.frames_setTop _ hfrM, State.setTop_of_frames _ hfrM, State.setFrames_setFrames]
  refine ⟨_, W.heap.size, _, fun target ht => st.trans (by rw [← hU]; exact ht), X3.forget (fun y hy => ?_), heapAt_setCell_self _ hlt, hfound, rfl⟩
  simp only [List.mem_cons, List.not_mem_nil, or_false] at hy
  have hge : s.heap.size ≤ W.heap.size := X.same.2.1
  rcases hy with rfl | rfl | rfl | rfl | rfl <;> exact hge
/-- the words of a machine's NullPointerException, but the four that speak of the heap -/
def vx_atN (n : Nat) : List Cond := (Bundle.npeArmAtoms n).filter vx_no
/-- the words of a machine's throw with a message, but the four that speak of the heap -/
def vx_atM (X : String) (names : List String) : List Cond := (Bundle.messageArmAtoms X names).filter vx_no
section
variable {p : Program} {l : Launch} {e : Env} {R : Room} {s : State} {m : MethodId} {args : Array Value} {below : List Frame} {meth : Method} {c : Code} {H : Heap} {locs : List Loc} {cells slots : Nat}
/-- a frame seen from a rebased start, seen from the first start again -/
theorem vx_back9 {T S : State} {R' : Room} {k n : Nat} (X : Stand p l e R s m args below meth c T locs cells slots) (Y : Stand p l e R' ((T.setVm s.vm).setFrames (.invoking m args :: below)) m args below meth c T [] 0 0) (Z : Stand p l e R' ((T.setVm s.vm).setFrames (.invoking m args :: below)) m args below meth c S [] k n) :
    Stand p l e R s m args below meth c S locs (cells + k) (slots + n) := by
  have hW0 : s.WarmedH ((T.setVm s.vm).setFrames (.invoking m args :: below)).vm := State.WarmedH.refl s
  refine { admits := X.admits, cas := X.cas, clock := X.clock, frames := X.frames, room := X.room, hears := X.hears, method := X.method, code := X.code, here := Z.here, tail := Z.tail, warmed := State.WarmedH.trans hW0 Z.warmed, limits := Z.limits.trans (Y.limits.symm.trans X.limits), bytes := Z.bytes.trans (Y.bytes.symm.trans X.bytes), same := ?_ }
  obtain ⟨e1, e2⟩ := Z.same
  rw [State.setFrames_setFrames] at e1
  have h2 : (T.setVm s.vm).sameButNew (S.setVm s.vm) [] k n := ⟨e1, e2⟩
  have h3 := X.same.trans h2
  rw [List.append_nil] at h3
  exact h3
/-- from the machine's note that E is thrown here with this text -/
def vx_Note (p : Program) (l : Launch) (e : Env) (R : Room) (s : State) (m : MethodId) (args : Array Value) (below : List Frame) (meth : Method) (c : Code) (H : Heap) (locs : List Loc) (cells slots : Nat) (Q : State → Prop) (g : JFrame) (E text : String) : Prop :=
  ∀ T : State, T.heap = H → Stand p l e R s m args below meth c T locs cells slots → ∃ t, Steps p.tables e below ((T.setTop g).pushFrame (.throwNew E (some text) none)) t ∧ Q t
theorem vx_vm {pc : Nat} {ls : Array Slot} {rest : List Value} {Q : State → Prop} (hexec : p.tables.exec = Jvm.exec) (hl : l.stackTraces = false) {cls text : String} {names : List String} {nb : Nat} {A : Nat → Prop}
    (hcls : Bundle.fit cls = true) (hnames : ∀ n ∈ names, Bundle.fit n = true) (hsoe : (cls == "java/lang/StackOverflowError") = false) (hoom : (cls == "java/lang/OutOfMemoryError") = false)
    (hat : ∀ w ∈ vx_atM cls names, w.before args s = true) (hgood : ∀ w ∈ vx_atM cls names, vx_ot w = true)
    (hU : vx_Zq Bundle.tN "UNASSIGNED_STACK" Bundle.steD A s s.heap) (hN : vx_Zq Bundle.tN "SUPPRESSED_SENTINEL" Bundle.listD A s s.heap) (hS : va_S A s.heap H locs) (hsize : ls.size = c.maxLocals)
    (htext : (text == notModelled) = false) (hnb : (stringBytes (stringToUtf16 text)).size ≤ nb) (hnb1 : nb ≤ 1000)
    (hRframes : names.length + 4 < R.frames) (hRlocals : (rest.map fun v => v.category).sum + 10240 ≤ R.locals) (hshort : 13 * names.length + 55 ≤ 10240) (hRcells : cells + 3 ≤ R.cells) (hRslots : slots + (nb + 10) ≤ R.slots) (hlocks : meth.locks = false)
    (k : ∀ (H1 : Heap) (q9 : Addr) (ce : Cell), H.size ≤ H1.size → (∀ q : Nat, q < H.size → H1[q]? = H[q]?) → va_S A s.heap H1 locs → H1[q9]? = some ce → ce.vm = .none → s.vm.findClass cls = some ce.cls → vx_W p l e R s m args below meth c H1 locs (cells + 3) (slots + (nb + 10)) Q (F0 m pc ls rest) q9) :
    vx_Note p l e R s m args below meth c H locs cells slots Q (F0 m pc ls rest) cls text := by
  intro T hT X
  have htr : e.platform.stackTraces = false := (show e.platform.stackTraces = l.stackTraces by rw [X.admits.platform]).trans hl
  have Y := vx_rebase X (R' := { frames := R.frames, locals := R.locals, cells := 3, slots := nb + 10 }) (Nat.le_refl _) (Nat.le_refl _) hRcells hRslots
  have hhp : ((T.setVm s.vm).setFrames (.invoking m args :: below)).heap = H := hT
  have hW0 : s.WarmedH ((T.setVm s.vm).setFrames (.invoking m args :: below)).vm := State.WarmedH.refl s
  have hat' : ∀ w ∈ vx_atM cls names, w.before args ((T.setVm s.vm).setFrames (.invoking m args :: below)) = true := fun w hw => vx_ot_at hW0 rfl (hgood w hw) (hat w hw)
  have hU' : vx_Zq Bundle.tN "UNASSIGNED_STACK" Bundle.steD A ((T.setVm s.vm).setFrames (.invoking m args :: below)) ((T.setVm s.vm).setFrames (.invoking m args :: below)).heap := by rw [hhp]; exact vx_Zq.moved hW0.alike (hU.kept hS.2.1)
  have hN' : vx_Zq Bundle.tN "SUPPRESSED_SENTINEL" Bundle.listD A ((T.setVm s.vm).setFrames (.invoking m args :: below)) ((T.setVm s.vm).setFrames (.invoking m args :: below)).heap := by rw [hhp]; exact vx_Zq.moved hW0.alike (hN.kept hS.2.1)
  obtain ⟨S, q, ce, st, Z, hce, hcl', hv⟩ := vx_vmAt Y hexec htr (cls := cls) (names := names) (text := text) hcls hnames hsoe hoom (vx_own hat' (vx_isRefq hU'.1) (vx_isRefq hN'.1) hU'.2.word hN'.2.word) (fun x hx => nomatch hx) htext
    (by rw [Launch.admits_arrayLengthLimit X.admits]; omega) (by rw [Launch.admits_maxHeapBytes X.admits]; simp only [componentBytes]; omega)
    (g := F0 m pc ls rest) rfl hsize hRframes (by show 2 * 0 + (rest.map fun v => v.category).sum + 10240 ≤ R.locals; omega) hshort (by show 0 + 3 ≤ 3; omega) (by show 0 + (_ + 4 + 6) ≤ nb + 10; omega) hlocks
  obtain ⟨f1, f2⟩ := vx_frame Z.same
  have f1' : H.size ≤ S.heap.size := by rw [← hT]; exact f1
  have f2' : ∀ q : Nat, q < H.size → S.heap[q]? = H[q]? := fun q hq => by
    rw [← hT]
    exact f2 q (by rw [← hT] at hq; exact hq) (fun z hz => nomatch hz)
  have X5 := vx_back9 X Y Z
  have X6 : Stand p l e R s m args below meth c S locs (cells + 3) (slots + (nb + 10)) := { X5 with same := X5.same.mono (by omega) (by omega) }
  obtain ⟨t, a1, b1⟩ := k S.heap q ce f1' f2' ⟨Nat.le_trans hS.1 f1', fun q h1 h2 => (f2' q (Nat.lt_of_lt_of_le h1 hS.1)).trans (hS.2.1 q h1 h2), hS.2.2⟩ hce hv hcl' S rfl X6
  exact ⟨t, st t a1, b1⟩
/-- from the machine's note that NullPointerException is thrown here -/
def vx_NoteN (p : Program) (l : Launch) (e : Env) (R : Room) (s : State) (m : MethodId) (args : Array Value) (below : List Frame) (meth : Method) (c : Code) (H : Heap) (locs : List Loc) (cells slots : Nat) (Q : State → Prop) (g : JFrame) : Prop :=
  ∀ T : State, T.heap = H → Stand p l e R s m args below meth c T locs cells slots → ∃ t, Steps p.tables e below ((T.setTop g).pushFrame (.throwNew "java/lang/NullPointerException" none none)) t ∧ Q t
theorem vx_npe {pc : Nat} {ls : Array Slot} {rest : List Value} {Q : State → Prop} (hexec : p.tables.exec = Jvm.exec) (hl : l.stackTraces = false) {nb : Nat} {A : Nat → Prop}
    (hat : ∀ w ∈ vx_atN nb, w.before args s = true) (hgood : ∀ w ∈ vx_atN nb, vx_ot w = true)
    (hU : vx_Zq Bundle.tN "UNASSIGNED_STACK" Bundle.steD A s s.heap) (hN : vx_Zq Bundle.tN "SUPPRESSED_SENTINEL" Bundle.listD A s s.heap) (hS : va_S A s.heap H locs) (hsize : ls.size = c.maxLocals)
    (hRframes : 7 < R.frames) (hRlocals : (rest.map fun v => v.category).sum + 10240 ≤ R.locals) (hRcells : cells + 1 ≤ R.cells) (hRslots : slots + nb ≤ R.slots) (hlocks : meth.locks = false)
    (k : ∀ (H1 : Heap) (q9 : Addr) (ce : Cell), H.size ≤ H1.size → (∀ q : Nat, q < H.size → H1[q]? = H[q]?) → va_S A s.heap H1 locs → H1[q9]? = some ce → ce.vm = .none → s.vm.findClass "java/lang/NullPointerException" = some ce.cls → vx_W p l e R s m args below meth c H1 locs (cells + 1) (slots + nb) Q (F0 m pc ls rest) q9) :
    vx_NoteN p l e R s m args below meth c H locs cells slots Q (F0 m pc ls rest) := by
  intro T hT X
  have htr : e.platform.stackTraces = false := (show e.platform.stackTraces = l.stackTraces by rw [X.admits.platform]).trans hl
  have Y := vx_rebase X (R' := { frames := R.frames, locals := R.locals, cells := 1, slots := nb }) (Nat.le_refl _) (Nat.le_refl _) hRcells hRslots
  have hhp : ((T.setVm s.vm).setFrames (.invoking m args :: below)).heap = H := hT
  have hW0 : s.WarmedH ((T.setVm s.vm).setFrames (.invoking m args :: below)).vm := State.WarmedH.refl s
  have hat' : ∀ w ∈ vx_atN nb, w.before args ((T.setVm s.vm).setFrames (.invoking m args :: below)) = true := fun w hw => vx_ot_at hW0 rfl (hgood w hw) (hat w hw)
  have hU' : vx_Zq Bundle.tN "UNASSIGNED_STACK" Bundle.steD A ((T.setVm s.vm).setFrames (.invoking m args :: below)) ((T.setVm s.vm).setFrames (.invoking m args :: below)).heap := by rw [hhp]; exact vx_Zq.moved hW0.alike (hU.kept hS.2.1)
  have hN' : vx_Zq Bundle.tN "SUPPRESSED_SENTINEL" Bundle.listD A ((T.setVm s.vm).setFrames (.invoking m args :: below)) ((T.setVm s.vm).setFrames (.invoking m args :: below)).heap := by rw [hhp]; exact vx_Zq.moved hW0.alike (hN.kept hS.2.1)
  obtain ⟨S, q, ce, st, Z, hce, hcl', hv⟩ := vx_npeAt Y hexec htr (n := nb) (vx_own hat' (vx_isRefq hU'.1) (vx_isRefq hN'.1) hU'.2.word hN'.2.word) (fun x hx => nomatch hx)
    (g := F0 m pc ls rest) rfl hsize hRframes (by show 2 * 0 + (rest.map fun v => v.category).sum + 10240 ≤ R.locals; omega) (by show 0 + 1 ≤ 1; omega) (by show 0 + nb ≤ nb; omega) hlocks
  obtain ⟨f1, f2⟩ := vx_frame Z.same
  have f1' : H.size ≤ S.heap.size := by rw [← hT]; exact f1
  have f2' : ∀ q : Nat, q < H.size → S.heap[q]? = H[q]? := fun q hq => by
    rw [← hT]
    exact f2 q (by rw [← hT] at hq; exact hq) (fun z hz => nomatch hz)
  have X5 := vx_back9 X Y Z
  have X6 : Stand p l e R s m args below meth c S locs (cells + 1) (slots + nb) := { X5 with same := X5.same.mono (by omega) (by omega) }
  obtain ⟨t, a1, b1⟩ := k S.heap q ce f1' f2' ⟨Nat.le_trans hS.1 f1', fun q h1 h2 => (f2' q (Nat.lt_of_lt_of_le h1 hS.1)).trans (hS.2.1 q h1 h2), hS.2.2⟩ hce hv hcl' S rfl X6
  exact ⟨t, st t a1, b1⟩
variable {Q : State → Prop} {cc : ByteArray} {pc : Nat} {ls : Array Slot} {rest : List Value}
theorem vx_idivZ (hexec : p.tables.exec = Jvm.exec) (hb : c.code = cc) {a b : Int32} (h0 : b = 0) (d : decode cc pc = .ok (.idiv, 1)) (k : vx_Note p l e R s m args below meth c H locs cells slots Q (F0 m pc ls rest) "java/lang/ArithmeticException" "/ by zero") :
    W p l e R s m args below meth c H locs cells slots Q (F0 m pc ls (.int b :: .int a :: rest)) := by
  intro T hT X
  obtain ⟨t, st, q⟩ := k T hT X
  exact ⟨t, X.idivZero hexec (g := F0 m pc ls (.int b :: .int a :: rest)) rfl (a := a) (rest := rest) (by rw [h0]) (by rw [hb]; exact d) t st, q⟩
theorem vx_iremZ (hexec : p.tables.exec = Jvm.exec) (hb : c.code = cc) {a b : Int32} (h0 : b = 0) (d : decode cc pc = .ok (.irem, 1)) (k : vx_Note p l e R s m args below meth c H locs cells slots Q (F0 m pc ls rest) "java/lang/ArithmeticException" "/ by zero") :
    W p l e R s m args below meth c H locs cells slots Q (F0 m pc ls (.int b :: .int a :: rest)) := by
  intro T hT X
  obtain ⟨t, st, q⟩ := k T hT X
  exact ⟨t, X.iremZero hexec (g := F0 m pc ls (.int b :: .int a :: rest)) rfl (a := a) (rest := rest) (by rw [h0]) (by rw [hb]; exact d) t st, q⟩
theorem vx_ldivZ (hexec : p.tables.exec = Jvm.exec) (hb : c.code = cc) {a b : Int64} (h0 : b = 0) (d : decode cc pc = .ok (.ldiv, 1)) (k : vx_Note p l e R s m args below meth c H locs cells slots Q (F0 m pc ls rest) "java/lang/ArithmeticException" "/ by zero") :
    W p l e R s m args below meth c H locs cells slots Q (F0 m pc ls (.long b :: .long a :: rest)) := by
  intro T hT X
  obtain ⟨t, st, q⟩ := k T hT X
  exact ⟨t, X.ldivZero hexec (g := F0 m pc ls (.long b :: .long a :: rest)) rfl (a := a) (rest := rest) (by rw [h0]) (by rw [hb]; exact d) t st, q⟩
theorem vx_lremZ (hexec : p.tables.exec = Jvm.exec) (hb : c.code = cc) {a b : Int64} (h0 : b = 0) (d : decode cc pc = .ok (.lrem, 1)) (k : vx_Note p l e R s m args below meth c H locs cells slots Q (F0 m pc ls rest) "java/lang/ArithmeticException" "/ by zero") :
    W p l e R s m args below meth c H locs cells slots Q (F0 m pc ls (.long b :: .long a :: rest)) := by
  intro T hT X
  obtain ⟨t, st, q⟩ := k T hT X
  exact ⟨t, X.lremZero hexec (g := F0 m pc ls (.long b :: .long a :: rest)) rfl (a := a) (rest := rest) (by rw [h0]) (by rw [hb]; exact d) t st, q⟩
theorem vx_ialdZ {D : va_G} {cl : List vw_C} {ws : va_W} {tys : List (ClassId × FieldType)} {a : Nat} (hexec : p.tables.exec = Jvm.exec) (hb : c.code = cc) (hK : va_K D cl tys s) (hP : va_P D cl ws H) (q0 t0 : Nat) {cA : ClassId} {n : Nat} {f : Nat → Int32} (ha : ws[q0]? = some (a, .inl (cA, n, .inl f))) (ht : tys[t0]? = some (cA, .int)) {i : Int32} (hout : ¬ vp_in i n) (hdg : decode cc pc = .ok (.iaload, 1))
    (k : ∀ tx : String, tx = (toString "Index " ++ toString i ++ toString " out of bounds for length " ++ toString n : String) → vx_Note p l e R s m args below meth c H locs cells slots Q (F0 m pc ls rest) "java/lang/ArrayIndexOutOfBoundsException" tx) : W p l e R s m args below meth c H locs cells slots Q (F0 m pc ls (.int i :: .ref a :: rest)) := by
  intro T hT X
  obtain ⟨t, st, q⟩ := k _ rfl T hT X
  refine ⟨t, ?_, q⟩
  have h1 := X.ialoadOut hexec (by rw [hT]; exact hP q0 _ ha) ((hK.2 t0 _ ht).1 n (fun j => .int (f j))) (j := i) (by show (i < 0 ∨ (arrV _ _ _).slots.size ≤ _); rw [arrV_size]; exact Classical.byContradiction hout) (g := F0 m pc ls (.int i :: .ref a :: rest)) rfl (rest := rest) rfl (by rw [hb]; exact hdg) t
  simp only [arrV_size] at h1
  exact h1 st
theorem vx_iastZ {D : va_G} {cl : List vw_C} {ws : va_W} {tys : List (ClassId × FieldType)} {a : Nat} (hexec : p.tables.exec = Jvm.exec) (hb : c.code = cc) (hK : va_K D cl tys s) (hP : va_P D cl ws H) (q0 t0 : Nat) {cA : ClassId} {n : Nat} {f : Nat → Int32} (ha : ws[q0]? = some (a, .inl (cA, n, .inl f))) (ht : tys[t0]? = some (cA, .int)) {i : Int32} {x : Int32} (hout : ¬ vp_in i n) (hdg : decode cc pc = .ok (.iastore, 1))
    (k : ∀ tx : String, tx = (toString "Index " ++ toString i ++ toString " out of bounds for length " ++ toString n : String) → vx_Note p l e R s m args below meth c H locs cells slots Q (F0 m pc ls rest) "java/lang/ArrayIndexOutOfBoundsException" tx) : W p l e R s m args below meth c H locs cells slots Q (F0 m pc ls (.int x :: .int i :: .ref a :: rest)) := by
  intro T hT X
  obtain ⟨t, st, q⟩ := k _ rfl T hT X
  refine ⟨t, ?_, q⟩
  have h1 := X.iastoreOut hexec (by rw [hT]; exact hP q0 _ ha) ((hK.2 t0 _ ht).1 n (fun j => .int (f j))) (j := i) (by show (i < 0 ∨ (arrV _ _ _).slots.size ≤ _); rw [arrV_size]; exact Classical.byContradiction hout) (g := F0 m pc ls (.int x :: .int i :: .ref a :: rest)) rfl (rest := rest) rfl (by rw [hb]; exact hdg) t
  simp only [arrV_size] at h1
  exact h1 st
theorem vx_baldZ {D : va_G} {cl : List vw_C} {ws : va_W} {tys : List (ClassId × FieldType)} {a : Nat} (hexec : p.tables.exec = Jvm.exec) (hb : c.code = cc) (hK : va_K D cl tys s) (hP : va_P D cl ws H) (q0 t0 : Nat) {cA : ClassId} {n : Nat} {f : Nat → Int32} (ha : ws[q0]? = some (a, .inl (cA, n, .inl f))) (ht : tys[t0]? = some (cA, .byte)) {i : Int32} (hout : ¬ vp_in i n) (hdg : decode cc pc = .ok (.baload, 1))
    (k : ∀ tx : String, tx = (toString "Index " ++ toString i ++ toString " out of bounds for length " ++ toString n : String) → vx_Note p l e R s m args below meth c H locs cells slots Q (F0 m pc ls rest) "java/lang/ArrayIndexOutOfBoundsException" tx) : W p l e R s m args below meth c H locs cells slots Q (F0 m pc ls (.int i :: .ref a :: rest)) := by
  intro T hT X
  obtain ⟨t, st, q⟩ := k _ rfl T hT X
  refine ⟨t, ?_, q⟩
  have h1 := X.baloadOut hexec (by rw [hT]; exact hP q0 _ ha) ((hK.2 t0 _ ht).1 n (fun j => .int (f j))) (j := i) (by show (i < 0 ∨ (arrV _ _ _).slots.size ≤ _); rw [arrV_size]; exact Classical.byContradiction hout) (g := F0 m pc ls (.int i :: .ref a :: rest)) rfl (rest := rest) rfl (by rw [hb]; exact hdg) t
  simp only [arrV_size] at h1
  exact h1 st
theorem vx_bastZ {D : va_G} {cl : List vw_C} {ws : va_W} {tys : List (ClassId × FieldType)} {a : Nat} (hexec : p.tables.exec = Jvm.exec) (hb : c.code = cc) (hK : va_K D cl tys s) (hP : va_P D cl ws H) (q0 t0 : Nat) {cA : ClassId} {n : Nat} {f : Nat → Int32} (ha : ws[q0]? = some (a, .inl (cA, n, .inl f))) (ht : tys[t0]? = some (cA, .byte)) {i : Int32} {x : Int32} (hout : ¬ vp_in i n) (hdg : decode cc pc = .ok (.bastore, 1))
    (k : ∀ tx : String, tx = (toString "Index " ++ toString i ++ toString " out of bounds for length " ++ toString n : String) → vx_Note p l e R s m args below meth c H locs cells slots Q (F0 m pc ls rest) "java/lang/ArrayIndexOutOfBoundsException" tx) : W p l e R s m args below meth c H locs cells slots Q (F0 m pc ls (.int x :: .int i :: .ref a :: rest)) := by
  intro T hT X
  obtain ⟨t, st, q⟩ := k _ rfl T hT X
  refine ⟨t, ?_, q⟩
  have h1 := X.bastoreOut hexec (by rw [hT]; exact hP q0 _ ha) ((hK.2 t0 _ ht).1 n (fun j => .int (f j))) (j := i) (by show (i < 0 ∨ (arrV _ _ _).slots.size ≤ _); rw [arrV_size]; exact Classical.byContradiction hout) (g := F0 m pc ls (.int x :: .int i :: .ref a :: rest)) rfl (rest := rest) rfl (by rw [hb]; exact hdg) t
  simp only [arrV_size] at h1
  exact h1 st
theorem vx_zaldZ {D : va_G} {cl : List vw_C} {ws : va_W} {tys : List (ClassId × FieldType)} {a : Nat} (hexec : p.tables.exec = Jvm.exec) (hb : c.code = cc) (hK : va_K D cl tys s) (hP : va_P D cl ws H) (q0 t0 : Nat) {cA : ClassId} {n : Nat} {f : Nat → Int32} (ha : ws[q0]? = some (a, .inl (cA, n, .inl f))) (ht : tys[t0]? = some (cA, .boolean)) {i : Int32} (hout : ¬ vp_in i n) (hdg : decode cc pc = .ok (.baload, 1))
    (k : ∀ tx : String, tx = (toString "Index " ++ toString i ++ toString " out of bounds for length " ++ toString n : String) → vx_Note p l e R s m args below meth c H locs cells slots Q (F0 m pc ls rest) "java/lang/ArrayIndexOutOfBoundsException" tx) : W p l e R s m args below meth c H locs cells slots Q (F0 m pc ls (.int i :: .ref a :: rest)) := by
  intro T hT X
  obtain ⟨t, st, q⟩ := k _ rfl T hT X
  refine ⟨t, ?_, q⟩
  have h1 := X.baloadOut hexec (by rw [hT]; exact hP q0 _ ha) ((hK.2 t0 _ ht).1 n (fun j => .int (f j))) (j := i) (by show (i < 0 ∨ (arrV _ _ _).slots.size ≤ _); rw [arrV_size]; exact Classical.byContradiction hout) (g := F0 m pc ls (.int i :: .ref a :: rest)) rfl (rest := rest) rfl (by rw [hb]; exact hdg) t
  simp only [arrV_size] at h1
  exact h1 st
theorem vx_zastZ {D : va_G} {cl : List vw_C} {ws : va_W} {tys : List (ClassId × FieldType)} {a : Nat} (hexec : p.tables.exec = Jvm.exec) (hb : c.code = cc) (hK : va_K D cl tys s) (hP : va_P D cl ws H) (q0 t0 : Nat) {cA : ClassId} {n : Nat} {f : Nat → Int32} (ha : ws[q0]? = some (a, .inl (cA, n, .inl f))) (ht : tys[t0]? = some (cA, .boolean)) {i : Int32} {x : Int32} (hout : ¬ vp_in i n) (hdg : decode cc pc = .ok (.bastore, 1))
    (k : ∀ tx : String, tx = (toString "Index " ++ toString i ++ toString " out of bounds for length " ++ toString n : String) → vx_Note p l e R s m args below meth c H locs cells slots Q (F0 m pc ls rest) "java/lang/ArrayIndexOutOfBoundsException" tx) : W p l e R s m args below meth c H locs cells slots Q (F0 m pc ls (.int x :: .int i :: .ref a :: rest)) := by
  intro T hT X
  obtain ⟨t, st, q⟩ := k _ rfl T hT X
  refine ⟨t, ?_, q⟩
  have h1 := X.bastoreOut hexec (by rw [hT]; exact hP q0 _ ha) ((hK.2 t0 _ ht).1 n (fun j => .int (f j))) (j := i) (by show (i < 0 ∨ (arrV _ _ _).slots.size ≤ _); rw [arrV_size]; exact Classical.byContradiction hout) (g := F0 m pc ls (.int x :: .int i :: .ref a :: rest)) rfl (rest := rest) rfl (by rw [hb]; exact hdg) t
  simp only [arrV_size] at h1
  exact h1 st
theorem vx_caldZ {D : va_G} {cl : List vw_C} {ws : va_W} {tys : List (ClassId × FieldType)} {a : Nat} (hexec : p.tables.exec = Jvm.exec) (hb : c.code = cc) (hK : va_K D cl tys s) (hP : va_P D cl ws H) (q0 t0 : Nat) {cA : ClassId} {n : Nat} {f : Nat → Int32} (ha : ws[q0]? = some (a, .inl (cA, n, .inl f))) (ht : tys[t0]? = some (cA, .char)) {i : Int32} (hout : ¬ vp_in i n) (hdg : decode cc pc = .ok (.caload, 1))
    (k : ∀ tx : String, tx = (toString "Index " ++ toString i ++ toString " out of bounds for length " ++ toString n : String) → vx_Note p l e R s m args below meth c H locs cells slots Q (F0 m pc ls rest) "java/lang/ArrayIndexOutOfBoundsException" tx) : W p l e R s m args below meth c H locs cells slots Q (F0 m pc ls (.int i :: .ref a :: rest)) := by
  intro T hT X
  obtain ⟨t, st, q⟩ := k _ rfl T hT X
  refine ⟨t, ?_, q⟩
  have h1 := X.caloadOut hexec (by rw [hT]; exact hP q0 _ ha) ((hK.2 t0 _ ht).1 n (fun j => .int (f j))) (j := i) (by show (i < 0 ∨ (arrV _ _ _).slots.size ≤ _); rw [arrV_size]; exact Classical.byContradiction hout) (g := F0 m pc ls (.int i :: .ref a :: rest)) rfl (rest := rest) rfl (by rw [hb]; exact hdg) t
  simp only [arrV_size] at h1
  exact h1 st
theorem vx_castZ {D : va_G} {cl : List vw_C} {ws : va_W} {tys : List (ClassId × FieldType)} {a : Nat} (hexec : p.tables.exec = Jvm.exec) (hb : c.code = cc) (hK : va_K D cl tys s) (hP : va_P D cl ws H) (q0 t0 : Nat) {cA : ClassId} {n : Nat} {f : Nat → Int32} (ha : ws[q0]? = some (a, .inl (cA, n, .inl f))) (ht : tys[t0]? = some (cA, .char)) {i : Int32} {x : Int32} (hout : ¬ vp_in i n) (hdg : decode cc pc = .ok (.castore, 1))
    (k : ∀ tx : String, tx = (toString "Index " ++ toString i ++ toString " out of bounds for length " ++ toString n : String) → vx_Note p l e R s m args below meth c H locs cells slots Q (F0 m pc ls rest) "java/lang/ArrayIndexOutOfBoundsException" tx) : W p l e R s m args below meth c H locs cells slots Q (F0 m pc ls (.int x :: .int i :: .ref a :: rest)) := by
  intro T hT X
  obtain ⟨t, st, q⟩ := k _ rfl T hT X
  refine ⟨t, ?_, q⟩
  have h1 := X.castoreOut hexec (by rw [hT]; exact hP q0 _ ha) ((hK.2 t0 _ ht).1 n (fun j => .int (f j))) (j := i) (by show (i < 0 ∨ (arrV _ _ _).slots.size ≤ _); rw [arrV_size]; exact Classical.byContradiction hout) (g := F0 m pc ls (.int x :: .int i :: .ref a :: rest)) rfl (rest := rest) rfl (by rw [hb]; exact hdg) t
  simp only [arrV_size] at h1
  exact h1 st
theorem vx_saldZ {D : va_G} {cl : List vw_C} {ws : va_W} {tys : List (ClassId × FieldType)} {a : Nat} (hexec : p.tables.exec = Jvm.exec) (hb : c.code = cc) (hK : va_K D cl tys s) (hP : va_P D cl ws H) (q0 t0 : Nat) {cA : ClassId} {n : Nat} {f : Nat → Int32} (ha : ws[q0]? = some (a, .inl (cA, n, .inl f))) (ht : tys[t0]? = some (cA, .short)) {i : Int32} (hout : ¬ vp_in i n) (hdg : decode cc pc = .ok (.saload, 1))
    (k : ∀ tx : String, tx = (toString "Index " ++ toString i ++ toString " out of bounds for length " ++ toString n : String) → vx_Note p l e R s m args below meth c H locs cells slots Q (F0 m pc ls rest) "java/lang/ArrayIndexOutOfBoundsException" tx) : W p l e R s m args below meth c H locs cells slots Q (F0 m pc ls (.int i :: .ref a :: rest)) := by
  intro T hT X
  obtain ⟨t, st, q⟩ := k _ rfl T hT X
  refine ⟨t, ?_, q⟩
  have h1 := X.saloadOut hexec (by rw [hT]; exact hP q0 _ ha) ((hK.2 t0 _ ht).1 n (fun j => .int (f j))) (j := i) (by show (i < 0 ∨ (arrV _ _ _).slots.size ≤ _); rw [arrV_size]; exact Classical.byContradiction hout) (g := F0 m pc ls (.int i :: .ref a :: rest)) rfl (rest := rest) rfl (by rw [hb]; exact hdg) t
  simp only [arrV_size] at h1
  exact h1 st
theorem vx_sastZ {D : va_G} {cl : List vw_C} {ws : va_W} {tys : List (ClassId × FieldType)} {a : Nat} (hexec : p.tables.exec = Jvm.exec) (hb : c.code = cc) (hK : va_K D cl tys s) (hP : va_P D cl ws H) (q0 t0 : Nat) {cA : ClassId} {n : Nat} {f : Nat → Int32} (ha : ws[q0]? = some (a, .inl (cA, n, .inl f))) (ht : tys[t0]? = some (cA, .short)) {i : Int32} {x : Int32} (hout : ¬ vp_in i n) (hdg : decode cc pc = .ok (.sastore, 1))
    (k : ∀ tx : String, tx = (toString "Index " ++ toString i ++ toString " out of bounds for length " ++ toString n : String) → vx_Note p l e R s m args below meth c H locs cells slots Q (F0 m pc ls rest) "java/lang/ArrayIndexOutOfBoundsException" tx) : W p l e R s m args below meth c H locs cells slots Q (F0 m pc ls (.int x :: .int i :: .ref a :: rest)) := by
  intro T hT X
  obtain ⟨t, st, q⟩ := k _ rfl T hT X
  refine ⟨t, ?_, q⟩
  have h1 := X.sastoreOut hexec (by rw [hT]; exact hP q0 _ ha) ((hK.2 t0 _ ht).1 n (fun j => .int (f j))) (j := i) (by show (i < 0 ∨ (arrV _ _ _).slots.size ≤ _); rw [arrV_size]; exact Classical.byContradiction hout) (g := F0 m pc ls (.int x :: .int i :: .ref a :: rest)) rfl (rest := rest) rfl (by rw [hb]; exact hdg) t
  simp only [arrV_size] at h1
  exact h1 st
theorem vx_laldZ {D : va_G} {cl : List vw_C} {ws : va_W} {tys : List (ClassId × FieldType)} {a : Nat} (hexec : p.tables.exec = Jvm.exec) (hb : c.code = cc) (hK : va_K D cl tys s) (hP : va_P D cl ws H) (q0 t0 : Nat) {cA : ClassId} {n : Nat} {f : Nat → Int64} (ha : ws[q0]? = some (a, .inl (cA, n, .inr (.inl f)))) (ht : tys[t0]? = some (cA, .long)) {i : Int32} (hout : ¬ vp_in i n) (hdg : decode cc pc = .ok (.laload, 1))
    (k : ∀ tx : String, tx = (toString "Index " ++ toString i ++ toString " out of bounds for length " ++ toString n : String) → vx_Note p l e R s m args below meth c H locs cells slots Q (F0 m pc ls rest) "java/lang/ArrayIndexOutOfBoundsException" tx) : W p l e R s m args below meth c H locs cells slots Q (F0 m pc ls (.int i :: .ref a :: rest)) := by
  intro T hT X
  obtain ⟨t, st, q⟩ := k _ rfl T hT X
  refine ⟨t, ?_, q⟩
  have h1 := X.laloadOut hexec (by rw [hT]; exact hP q0 _ ha) ((hK.2 t0 _ ht).1 n (fun j => .long (f j))) (j := i) (by show (i < 0 ∨ (arrV _ _ _).slots.size ≤ _); rw [arrV_size]; exact Classical.byContradiction hout) (g := F0 m pc ls (.int i :: .ref a :: rest)) rfl (rest := rest) rfl (by rw [hb]; exact hdg) t
  simp only [arrV_size] at h1
  exact h1 st
theorem vx_lastZ {D : va_G} {cl : List vw_C} {ws : va_W} {tys : List (ClassId × FieldType)} {a : Nat} (hexec : p.tables.exec = Jvm.exec) (hb : c.code = cc) (hK : va_K D cl tys s) (hP : va_P D cl ws H) (q0 t0 : Nat) {cA : ClassId} {n : Nat} {f : Nat → Int64} (ha : ws[q0]? = some (a, .inl (cA, n, .inr (.inl f)))) (ht : tys[t0]? = some (cA, .long)) {i : Int32} {x : Int64} (hout : ¬ vp_in i n) (hdg : decode cc pc = .ok (.lastore, 1))
    (k : ∀ tx : String, tx = (toString "Index " ++ toString i ++ toString " out of bounds for length " ++ toString n : String) → vx_Note p l e R s m args below meth c H locs cells slots Q (F0 m pc ls rest) "java/lang/ArrayIndexOutOfBoundsException" tx) : W p l e R s m args below meth c H locs cells slots Q (F0 m pc ls (.long x :: .int i :: .ref a :: rest)) := by
  intro T hT X
  obtain ⟨t, st, q⟩ := k _ rfl T hT X
  refine ⟨t, ?_, q⟩
  have h1 := X.lastoreOut hexec (by rw [hT]; exact hP q0 _ ha) ((hK.2 t0 _ ht).1 n (fun j => .long (f j))) (j := i) (by show (i < 0 ∨ (arrV _ _ _).slots.size ≤ _); rw [arrV_size]; exact Classical.byContradiction hout) (g := F0 m pc ls (.long x :: .int i :: .ref a :: rest)) rfl (rest := rest) rfl (by rw [hb]; exact hdg) t
  simp only [arrV_size] at h1
  exact h1 st
theorem vx_faldZ {D : va_G} {cl : List vw_C} {ws : va_W} {tys : List (ClassId × FieldType)} {a : Nat} (hexec : p.tables.exec = Jvm.exec) (hb : c.code = cc) (hK : va_K D cl tys s) (hP : va_P D cl ws H) (q0 t0 : Nat) {cA : ClassId} {n : Nat} {f : Nat → UInt32} (ha : ws[q0]? = some (a, .inl (cA, n, .inr (.inr (.inl f))))) (ht : tys[t0]? = some (cA, .float)) {i : Int32} (hout : ¬ vp_in i n) (hdg : decode cc pc = .ok (.faload, 1))
    (k : ∀ tx : String, tx = (toString "Index " ++ toString i ++ toString " out of bounds for length " ++ toString n : String) → vx_Note p l e R s m args below meth c H locs cells slots Q (F0 m pc ls rest) "java/lang/ArrayIndexOutOfBoundsException" tx) : W p l e R s m args below meth c H locs cells slots Q (F0 m pc ls (.int i :: .ref a :: rest)) := by
  intro T hT X
  obtain ⟨t, st, q⟩ := k _ rfl T hT X
  refine ⟨t, ?_, q⟩
  have h1 := X.faloadOut hexec (by rw [hT]; exact hP q0 _ ha) ((hK.2 t0 _ ht).1 n (fun j => .float (f j))) (j := i) (by show (i < 0 ∨ (arrV _ _ _).slots.size ≤ _); rw [arrV_size]; exact Classical.byContradiction hout) (g := F0 m pc ls (.int i :: .ref a :: rest)) rfl (rest := rest) rfl (by rw [hb]; exact hdg) t
  simp only [arrV_size] at h1
  exact h1 st
theorem vx_fastZ {D : va_G} {cl : List vw_C} {ws : va_W} {tys : List (ClassId × FieldType)} {a : Nat} (hexec : p.tables.exec = Jvm.exec) (hb : c.code = cc) (hK : va_K D cl tys s) (hP : va_P D cl ws H) (q0 t0 : Nat) {cA : ClassId} {n : Nat} {f : Nat → UInt32} (ha : ws[q0]? = some (a, .inl (cA, n, .inr (.inr (.inl f))))) (ht : tys[t0]? = some (cA, .float)) {i : Int32} {x : UInt32} (hout : ¬ vp_in i n) (hdg : decode cc pc = .ok (.fastore, 1))
    (k : ∀ tx : String, tx = (toString "Index " ++ toString i ++ toString " out of bounds for length " ++ toString n : String) → vx_Note p l e R s m args below meth c H locs cells slots Q (F0 m pc ls rest) "java/lang/ArrayIndexOutOfBoundsException" tx) : W p l e R s m args below meth c H locs cells slots Q (F0 m pc ls (.float x :: .int i :: .ref a :: rest)) := by
  intro T hT X
  obtain ⟨t, st, q⟩ := k _ rfl T hT X
  refine ⟨t, ?_, q⟩
  have h1 := X.fastoreOut hexec (by rw [hT]; exact hP q0 _ ha) ((hK.2 t0 _ ht).1 n (fun j => .float (f j))) (j := i) (by show (i < 0 ∨ (arrV _ _ _).slots.size ≤ _); rw [arrV_size]; exact Classical.byContradiction hout) (g := F0 m pc ls (.float x :: .int i :: .ref a :: rest)) rfl (rest := rest) rfl (by rw [hb]; exact hdg) t
  simp only [arrV_size] at h1
  exact h1 st
theorem vx_daldZ {D : va_G} {cl : List vw_C} {ws : va_W} {tys : List (ClassId × FieldType)} {a : Nat} (hexec : p.tables.exec = Jvm.exec) (hb : c.code = cc) (hK : va_K D cl tys s) (hP : va_P D cl ws H) (q0 t0 : Nat) {cA : ClassId} {n : Nat} {f : Nat → UInt64} (ha : ws[q0]? = some (a, .inl (cA, n, .inr (.inr (.inr (.inl f)))))) (ht : tys[t0]? = some (cA, .double)) {i : Int32} (hout : ¬ vp_in i n) (hdg : decode cc pc = .ok (.daload, 1))
    (k : ∀ tx : String, tx = (toString "Index " ++ toString i ++ toString " out of bounds for length " ++ toString n : String) → vx_Note p l e R s m args below meth c H locs cells slots Q (F0 m pc ls rest) "java/lang/ArrayIndexOutOfBoundsException" tx) : W p l e R s m args below meth c H locs cells slots Q (F0 m pc ls (.int i :: .ref a :: rest)) := by
  intro T hT X
  obtain ⟨t, st, q⟩ := k _ rfl T hT X
  refine ⟨t, ?_, q⟩
  have h1 := X.daloadOut hexec (by rw [hT]; exact hP q0 _ ha) ((hK.2 t0 _ ht).1 n (fun j => .double (f j))) (j := i) (by show (i < 0 ∨ (arrV _ _ _).slots.size ≤ _); rw [arrV_size]; exact Classical.byContradiction hout) (g := F0 m pc ls (.int i :: .ref a :: rest)) rfl (rest := rest) rfl (by rw [hb]; exact hdg) t
  simp only [arrV_size] at h1
  exact h1 st
theorem vx_dastZ {D : va_G} {cl : List vw_C} {ws : va_W} {tys : List (ClassId × FieldType)} {a : Nat} (hexec : p.tables.exec = Jvm.exec) (hb : c.code = cc) (hK : va_K D cl tys s) (hP : va_P D cl ws H) (q0 t0 : Nat) {cA : ClassId} {n : Nat} {f : Nat → UInt64} (ha : ws[q0]? = some (a, .inl (cA, n, .inr (.inr (.inr (.inl f)))))) (ht : tys[t0]? = some (cA, .double)) {i : Int32} {x : UInt64} (hout : ¬ vp_in i n) (hdg : decode cc pc = .ok (.dastore, 1))
    (k : ∀ tx : String, tx = (toString "Index " ++ toString i ++ toString " out of bounds for length " ++ toString n : String) → vx_Note p l e R s m args below meth c H locs cells slots Q (F0 m pc ls rest) "java/lang/ArrayIndexOutOfBoundsException" tx) : W p l e R s m args below meth c H locs cells slots Q (F0 m pc ls (.double x :: .int i :: .ref a :: rest)) := by
  intro T hT X
  obtain ⟨t, st, q⟩ := k _ rfl T hT X
  refine ⟨t, ?_, q⟩
  have h1 := X.dastoreOut hexec (by rw [hT]; exact hP q0 _ ha) ((hK.2 t0 _ ht).1 n (fun j => .double (f j))) (j := i) (by show (i < 0 ∨ (arrV _ _ _).slots.size ≤ _); rw [arrV_size]; exact Classical.byContradiction hout) (g := F0 m pc ls (.double x :: .int i :: .ref a :: rest)) rfl (rest := rest) rfl (by rw [hb]; exact hdg) t
  simp only [arrV_size] at h1
  exact h1 st
theorem vx_arraylengthN (hexec : p.tables.exec = Jvm.exec) (hb : c.code = cc) (hdg : decode cc pc = .ok (.arraylength, 1)) (k : vx_NoteN p l e R s m args below meth c H locs cells slots Q (F0 m pc ls rest)) : W p l e R s m args below meth c H locs cells slots Q (F0 m pc ls (.null :: rest)) := by
  intro T hT X
  obtain ⟨t, st, q⟩ := k T hT X
  exact ⟨t, X.arraylengthNull hexec (g := F0 m pc ls (.null :: rest)) rfl (rest := rest) rfl (by rw [hb]; exact hdg) t st, q⟩
theorem vx_ialoadN (hexec : p.tables.exec = Jvm.exec) (hb : c.code = cc) {i : Int32} (hdg : decode cc pc = .ok (.iaload, 1)) (k : vx_NoteN p l e R s m args below meth c H locs cells slots Q (F0 m pc ls rest)) : W p l e R s m args below meth c H locs cells slots Q (F0 m pc ls (.int i :: .null :: rest)) := by
  intro T hT X
  obtain ⟨t, st, q⟩ := k T hT X
  exact ⟨t, X.ialoadNull hexec (g := F0 m pc ls (.int i :: .null :: rest)) rfl (rest := rest) rfl (by rw [hb]; exact hdg) t st, q⟩
theorem vx_laloadN (hexec : p.tables.exec = Jvm.exec) (hb : c.code = cc) {i : Int32} (hdg : decode cc pc = .ok (.laload, 1)) (k : vx_NoteN p l e R s m args below meth c H locs cells slots Q (F0 m pc ls rest)) : W p l e R s m args below meth c H locs cells slots Q (F0 m pc ls (.int i :: .null :: rest)) := by
  intro T hT X
  obtain ⟨t, st, q⟩ := k T hT X
  exact ⟨t, X.laloadNull hexec (g := F0 m pc ls (.int i :: .null :: rest)) rfl (rest := rest) rfl (by rw [hb]; exact hdg) t st, q⟩
theorem vx_faloadN (hexec : p.tables.exec = Jvm.exec) (hb : c.code = cc) {i : Int32} (hdg : decode cc pc = .ok (.faload, 1)) (k : vx_NoteN p l e R s m args below meth c H locs cells slots Q (F0 m pc ls rest)) : W p l e R s m args below meth c H locs cells slots Q (F0 m pc ls (.int i :: .null :: rest)) := by
  intro T hT X
  obtain ⟨t, st, q⟩ := k T hT X
  exact ⟨t, X.faloadNull hexec (g := F0 m pc ls (.int i :: .null :: rest)) rfl (rest := rest) rfl (by rw [hb]; exact hdg) t st, q⟩
theorem vx_daloadN (hexec : p.tables.exec = Jvm.exec) (hb : c.code = cc) {i : Int32} (hdg : decode cc pc = .ok (.daload, 1)) (k : vx_NoteN p l e R s m args below meth c H locs cells slots Q (F0 m pc ls rest)) : W p l e R s m args below meth c H locs cells slots Q (F0 m pc ls (.int i :: .null :: rest)) := by
  intro T hT X
  obtain ⟨t, st, q⟩ := k T hT X
  exact ⟨t, X.daloadNull hexec (g := F0 m pc ls (.int i :: .null :: rest)) rfl (rest := rest) rfl (by rw [hb]; exact hdg) t st, q⟩
theorem vx_aaloadN (hexec : p.tables.exec = Jvm.exec) (hb : c.code = cc) {i : Int32} (hdg : decode cc pc = .ok (.aaload, 1)) (k : vx_NoteN p l e R s m args below meth c H locs cells slots Q (F0 m pc ls rest)) : W p l e R s m args below meth c H locs cells slots Q (F0 m pc ls (.int i :: .null :: rest)) := by
  intro T hT X
  obtain ⟨t, st, q⟩ := k T hT X
  exact ⟨t, X.aaloadNull hexec (g := F0 m pc ls (.int i :: .null :: rest)) rfl (rest := rest) rfl (by rw [hb]; exact hdg) t st, q⟩
theorem vx_baloadN (hexec : p.tables.exec = Jvm.exec) (hb : c.code = cc) {i : Int32} (hdg : decode cc pc = .ok (.baload, 1)) (k : vx_NoteN p l e R s m args below meth c H locs cells slots Q (F0 m pc ls rest)) : W p l e R s m args below meth c H locs cells slots Q (F0 m pc ls (.int i :: .null :: rest)) := by
  intro T hT X
  obtain ⟨t, st, q⟩ := k T hT X
  exact ⟨t, X.baloadNull hexec (g := F0 m pc ls (.int i :: .null :: rest)) rfl (rest := rest) rfl (by rw [hb]; exact hdg) t st, q⟩
theorem vx_caloadN (hexec : p.tables.exec = Jvm.exec) (hb : c.code = cc) {i : Int32} (hdg : decode cc pc = .ok (.caload, 1)) (k : vx_NoteN p l e R s m args below meth c H locs cells slots Q (F0 m pc ls rest)) : W p l e R s m args below meth c H locs cells slots Q (F0 m pc ls (.int i :: .null :: rest)) := by
  intro T hT X
  obtain ⟨t, st, q⟩ := k T hT X
  exact ⟨t, X.caloadNull hexec (g := F0 m pc ls (.int i :: .null :: rest)) rfl (rest := rest) rfl (by rw [hb]; exact hdg) t st, q⟩
theorem vx_saloadN (hexec : p.tables.exec = Jvm.exec) (hb : c.code = cc) {i : Int32} (hdg : decode cc pc = .ok (.saload, 1)) (k : vx_NoteN p l e R s m args below meth c H locs cells slots Q (F0 m pc ls rest)) : W p l e R s m args below meth c H locs cells slots Q (F0 m pc ls (.int i :: .null :: rest)) := by
  intro T hT X
  obtain ⟨t, st, q⟩ := k T hT X
  exact ⟨t, X.saloadNull hexec (g := F0 m pc ls (.int i :: .null :: rest)) rfl (rest := rest) rfl (by rw [hb]; exact hdg) t st, q⟩
theorem vx_iastoreN (hexec : p.tables.exec = Jvm.exec) (hb : c.code = cc) {x : Int32} {i : Int32} (hdg : decode cc pc = .ok (.iastore, 1)) (k : vx_NoteN p l e R s m args below meth c H locs cells slots Q (F0 m pc ls rest)) : W p l e R s m args below meth c H locs cells slots Q (F0 m pc ls (.int x :: .int i :: .null :: rest)) := by
  intro T hT X
  obtain ⟨t, st, q⟩ := k T hT X
  exact ⟨t, X.iastoreNull hexec (g := F0 m pc ls (.int x :: .int i :: .null :: rest)) rfl (rest := rest) rfl (by rw [hb]; exact hdg) t st, q⟩
theorem vx_lastoreN (hexec : p.tables.exec = Jvm.exec) (hb : c.code = cc) {x : Int64} {i : Int32} (hdg : decode cc pc = .ok (.lastore, 1)) (k : vx_NoteN p l e R s m args below meth c H locs cells slots Q (F0 m pc ls rest)) : W p l e R s m args below meth c H locs cells slots Q (F0 m pc ls (.long x :: .int i :: .null :: rest)) := by
  intro T hT X
  obtain ⟨t, st, q⟩ := k T hT X
  exact ⟨t, X.lastoreNull hexec (g := F0 m pc ls (.long x :: .int i :: .null :: rest)) rfl (rest := rest) rfl (by rw [hb]; exact hdg) t st, q⟩
theorem vx_fastoreN (hexec : p.tables.exec = Jvm.exec) (hb : c.code = cc) {x : UInt32} {i : Int32} (hdg : decode cc pc = .ok (.fastore, 1)) (k : vx_NoteN p l e R s m args below meth c H locs cells slots Q (F0 m pc ls rest)) : W p l e R s m args below meth c H locs cells slots Q (F0 m pc ls (.float x :: .int i :: .null :: rest)) := by
  intro T hT X
  obtain ⟨t, st, q⟩ := k T hT X
  exact ⟨t, X.fastoreNull hexec (g := F0 m pc ls (.float x :: .int i :: .null :: rest)) rfl (rest := rest) rfl (by rw [hb]; exact hdg) t st, q⟩
theorem vx_dastoreN (hexec : p.tables.exec = Jvm.exec) (hb : c.code = cc) {x : UInt64} {i : Int32} (hdg : decode cc pc = .ok (.dastore, 1)) (k : vx_NoteN p l e R s m args below meth c H locs cells slots Q (F0 m pc ls rest)) : W p l e R s m args below meth c H locs cells slots Q (F0 m pc ls (.double x :: .int i :: .null :: rest)) := by
  intro T hT X
  obtain ⟨t, st, q⟩ := k T hT X
  exact ⟨t, X.dastoreNull hexec (g := F0 m pc ls (.double x :: .int i :: .null :: rest)) rfl (rest := rest) rfl (by rw [hb]; exact hdg) t st, q⟩
theorem vx_bastoreN (hexec : p.tables.exec = Jvm.exec) (hb : c.code = cc) {x : Int32} {i : Int32} (hdg : decode cc pc = .ok (.bastore, 1)) (k : vx_NoteN p l e R s m args below meth c H locs cells slots Q (F0 m pc ls rest)) : W p l e R s m args below meth c H locs cells slots Q (F0 m pc ls (.int x :: .int i :: .null :: rest)) := by
  intro T hT X
  obtain ⟨t, st, q⟩ := k T hT X
  exact ⟨t, X.bastoreNull hexec (g := F0 m pc ls (.int x :: .int i :: .null :: rest)) rfl (rest := rest) rfl (by rw [hb]; exact hdg) t st, q⟩
theorem vx_castoreN (hexec : p.tables.exec = Jvm.exec) (hb : c.code = cc) {x : Int32} {i : Int32} (hdg : decode cc pc = .ok (.castore, 1)) (k : vx_NoteN p l e R s m args below meth c H locs cells slots Q (F0 m pc ls rest)) : W p l e R s m args below meth c H locs cells slots Q (F0 m pc ls (.int x :: .int i :: .null :: rest)) := by
  intro T hT X
  obtain ⟨t, st, q⟩ := k T hT X
  exact ⟨t, X.castoreNull hexec (g := F0 m pc ls (.int x :: .int i :: .null :: rest)) rfl (rest := rest) rfl (by rw [hb]; exact hdg) t st, q⟩
theorem vx_sastoreN (hexec : p.tables.exec = Jvm.exec) (hb : c.code = cc) {x : Int32} {i : Int32} (hdg : decode cc pc = .ok (.sastore, 1)) (k : vx_NoteN p l e R s m args below meth c H locs cells slots Q (F0 m pc ls rest)) : W p l e R s m args below meth c H locs cells slots Q (F0 m pc ls (.int x :: .int i :: .null :: rest)) := by
  intro T hT X
  obtain ⟨t, st, q⟩ := k T hT X
  exact ⟨t, X.sastoreNull hexec (g := F0 m pc ls (.int x :: .int i :: .null :: rest)) rfl (rest := rest) rfl (by rw [hb]; exact hdg) t st, q⟩
theorem vx_invokeN {own C : String} {index maxL : Nat} {y : MethodName} {bytes : ByteArray} {ret : Option FieldType} (hexec : p.tables.exec = Jvm.exec) (hb : c.code = cc) (hown : s.vm.findClass own = some m.cls) (hlink : (Cond.methodLink own index y).before args s = true) (hinst : (Cond.instanceMethod y).before args s = true) (hcode : (Cond.code y bytes maxL ret).before args s = true) (hsel : (Cond.selects C y y).before args s = true)
    (hx : y.cls ≠ "java/lang/invoke/MethodHandle" ∧ y.cls ≠ "java/lang/invoke/VarHandle") {As : List Value} (hlen : (parseMethodDescriptor y.desc).map (fun d => d.parameters.length) = some As.length) (hdg : decode cc pc = .ok (.invokevirtual index, 3))
    (k : vx_NoteN p l e R s m args below meth c H locs cells slots Q (F0 m pc ls rest)) {st0 : List Value} (hst : st0 = As.reverse ++ .null :: rest) : W p l e R s m args below meth c H locs cells slots Q (F0 m pc ls st0) := by
  intro T hT X
  obtain ⟨r0, r, hn, hrm, hstR, hsigR⟩ := va_Decl.of hinst hcode
  obtain ⟨c2, r2, m2, q1, q2, q3, q4, kP, hkP, hkPi⟩ := Cond.selects_spec hsel
  cases hn.symm.trans q3
  have hl9 : As.length = r.sig.parameters.length := by
    rw [hsigR] at hlen
    exact (Option.some.inj hlen).symm
  obtain ⟨vm', X1, st1⟩ := X.invokevirtualNull hexec hown hlink hn hrm hstR hkP hkPi hx (g := F0 m pc ls st0) rfl (argsL := As) (rest := rest) hl9 hst (by rw [hb]; exact hdg)
  obtain ⟨t, st, q⟩ := k (T.setVm vm') hT X1
  exact ⟨t, st1 t st, q⟩
theorem vx_newarrayZ {atype : ArrayType} (hexec : p.tables.exec = Jvm.exec) (hb : c.code = cc) {n : Int32} (h0 : n < 0) (hdg : decode cc pc = .ok (.newarray atype, 2)) (k : ∀ tx : String, tx = toString n → vx_Note p l e R s m args below meth c H locs cells slots Q (F0 m pc ls rest) "java/lang/NegativeArraySizeException" tx) : W p l e R s m args below meth c H locs cells slots Q (F0 m pc ls (.int n :: rest)) := by
  intro T hT X
  obtain ⟨t, st, q⟩ := k _ rfl T hT X
  exact ⟨t, X.newarrayNegative hexec (g := F0 m pc ls (.int n :: rest)) rfl h0 (rest := rest) rfl (by rw [hb]; exact hdg) t st, q⟩
end
end VXM
/-! ===== END ===== -/
end
section
/-! ===== BEGIN printed: names, fields, word lists, decode rows ===== -/
def RX0 : String := "EventVault$Disk"
def TX0 : u_T := fun k => match k with
  | 0 => ("EventVault$Disk", "on", "Z", false)
  | 1 => ("EventVault$Disk", "bytes", "I", false)
  | 2 => ("EventVault$Disk", "records", "I", false)
  | _ => ("EventVault$Disk", "failsBehind", "I", false)
def tyX0 : Nat → FieldType := fun k => match k with
  | 0 => .boolean
  | 1 => .int
  | 2 => .int
  | _ => .int
abbrev wsX00 : List Cond := u_ws RX0 TX0 4
theorem nmX0 : ∀ a, a < 4 → ∀ b, b < 4 → a ≠ b → (TX0 a).2.1 ≠ (TX0 b).2.1 := by decide +kernel
theorem tyX0_ok : ∀ k, k < 4 → parseFieldDescriptor (TX0 k).2.2.1 = some (tyX0 k) := by decide +kernel
abbrev cX0_init : ByteArray := prog_2_method_1_code
def yX0_init : MethodName := ⟨RX0, "<init>", "()V"⟩
abbrev cX0_hasRoom : ByteArray := prog_2_method_2_code
def yX0_hasRoom : MethodName := ⟨RX0, "hasRoom", "(I)Z"⟩
abbrev cX0_writes : ByteArray := prog_2_method_3_code
def yX0_writes : MethodName := ⟨RX0, "writes", "(I)Z"⟩
abbrev cX0_rewrites : ByteArray := prog_2_method_4_code
def yX0_rewrites : MethodName := ⟨RX0, "rewrites", "(I)V"⟩
abbrev cX0_turnOn : ByteArray := prog_2_method_5_code
def yX0_turnOn : MethodName := ⟨RX0, "turnOn", "()V"⟩
abbrev cX0_outlastsPower : ByteArray := prog_2_method_6_code
def yX0_outlastsPower : MethodName := ⟨RX0, "outlastsPower", "(I)Z"⟩
def RX1 : String := "EventVault$Draft"
def TX1 : u_T := fun k => match k with
  | 0 => ("EventVault$Draft", "ids", "[I", true)
  | 1 => ("EventVault$Draft", "types", "[I", true)
  | 2 => ("EventVault$Draft", "data", "[J", true)
  | _ => ("EventVault$Draft", "count", "I", false)
def tyX1 : Nat → FieldType := fun k => match k with
  | 0 => .array .int
  | 1 => .array .int
  | 2 => .array .long
  | _ => .int
abbrev wsX10 : List Cond := u_ws RX1 TX1 4
theorem nmX1 : ∀ a, a < 4 → ∀ b, b < 4 → a ≠ b → (TX1 a).2.1 ≠ (TX1 b).2.1 := by decide +kernel
theorem tyX1_ok : ∀ k, k < 4 → parseFieldDescriptor (TX1 k).2.2.1 = some (tyX1 k) := by decide +kernel
abbrev cX1_init : ByteArray := prog_3_method_1_code
def yX1_init : MethodName := ⟨RX1, "<init>", "()V"⟩
abbrev cX1_put : ByteArray := prog_3_method_2_code
def yX1_put : MethodName := ⟨RX1, "put", "(IIJ)I"⟩
abbrev cX1_clear : ByteArray := prog_3_method_3_code
def yX1_clear : MethodName := ⟨RX1, "clear", "()V"⟩
abbrev cX1_holds : ByteArray := prog_3_method_4_code
def yX1_holds : MethodName := ⟨RX1, "holds", "(I)Z"⟩
def RX2 : String := "EventVault$Events"
def TX2 : u_T := fun k => match k with
  | 0 => ("EventVault$Events", "streamOf", "[I", true)
  | 1 => ("EventVault$Events", "numberOf", "[I", true)
  | 2 => ("EventVault$Events", "idOf", "[I", true)
  | 3 => ("EventVault$Events", "typeOf", "[I", true)
  | 4 => ("EventVault$Events", "dataOf", "[J", true)
  | 5 => ("EventVault$Events", "timeOf", "[I", true)
  | 6 => ("EventVault$Events", "streams", "[LEventVault$Stream;", true)
  | 7 => ("EventVault$Events", "count", "I", false)
  | _ => ("EventVault$Events", "now", "I", false)
def tyX2 : Nat → FieldType := fun k => match k with
  | 0 => .array .int
  | 1 => .array .int
  | 2 => .array .int
  | 3 => .array .int
  | 4 => .array .long
  | 5 => .array .int
  | 6 => .array (.object "EventVault$Stream")
  | 7 => .int
  | _ => .int
abbrev wsX20 : List Cond := u_ws RX2 TX2 9
theorem nmX2 : ∀ a, a < 9 → ∀ b, b < 9 → a ≠ b → (TX2 a).2.1 ≠ (TX2 b).2.1 := by decide +kernel
theorem tyX2_ok : ∀ k, k < 9 → parseFieldDescriptor (TX2 k).2.2.1 = some (tyX2 k) := by decide +kernel
abbrev cX2_init : ByteArray := prog_4_method_1_code
def yX2_init : MethodName := ⟨RX2, "<init>", "()V"⟩
abbrev cX2_isPosition : ByteArray := prog_4_method_2_code
def yX2_isPosition : MethodName := ⟨RX2, "isPosition", "(I)Z"⟩
abbrev cX2_hasRoom : ByteArray := prog_4_method_3_code
def yX2_hasRoom : MethodName := ⟨RX2, "hasRoom", "(I)Z"⟩
abbrev cX2_isVisible : ByteArray := prog_4_method_4_code
def yX2_isVisible : MethodName := ⟨RX2, "isVisible", "(I)Z"⟩
abbrev cX2_isVisibleIn : ByteArray := prog_4_method_5_code
def yX2_isVisibleIn : MethodName := ⟨RX2, "isVisibleIn", "(II)Z"⟩
abbrev cX2_countVisible : ByteArray := prog_4_method_6_code
def yX2_countVisible : MethodName := ⟨RX2, "countVisible", "(II)I"⟩
abbrev cX2_nthVisible : ByteArray := prog_4_method_7_code
def yX2_nthVisible : MethodName := ⟨RX2, "nthVisible", "(IIIZ)I"⟩
abbrev cX2_fits : ByteArray := prog_4_method_8_code
def yX2_fits : MethodName := ⟨RX2, "fits", "(II)Z"⟩
abbrev cX2_hasVisibleId : ByteArray := prog_4_method_9_code
def yX2_hasVisibleId : MethodName := ⟨RX2, "hasVisibleId", "(LEventVault$Draft;I)Z"⟩
abbrev cX2_findDraft : ByteArray := prog_4_method_10_code
def yX2_findDraft : MethodName := ⟨RX2, "findDraft", "(LEventVault$Draft;II)I"⟩
abbrev cX2_standsFrom : ByteArray := prog_4_method_11_code
def yX2_standsFrom : MethodName := ⟨RX2, "standsFrom", "(LEventVault$Draft;I)Z"⟩
abbrev cX2_addDraft : ByteArray := prog_4_method_12_code
def yX2_addDraft : MethodName := ⟨RX2, "addDraft", "(LEventVault$Draft;I)V"⟩
abbrev cX2_addEmitted : ByteArray := prog_4_method_13_code
def yX2_addEmitted : MethodName := ⟨RX2, "addEmitted", "(LEventVault$Machine;II)V"⟩
abbrev cX2_add : ByteArray := prog_4_method_14_code
def yX2_add : MethodName := ⟨RX2, "add", "(IIIJ)V"⟩
abbrev cX2_hideOld : ByteArray := prog_4_method_15_code
def yX2_hideOld : MethodName := ⟨RX2, "hideOld", "(I)V"⟩
def RX3 : String := "EventVault$Group"
def TX3 : u_T := fun k => match k with
  | 0 => ("EventVault$Group", "marks", "[I", true)
  | 1 => ("EventVault$Group", "tries", "[I", true)
  | 2 => ("EventVault$Group", "outPositions", "[I", true)
  | 3 => ("EventVault$Group", "outTills", "[I", true)
  | 4 => ("EventVault$Group", "outCount", "I", false)
  | 5 => ("EventVault$Group", "made", "Z", false)
  | 6 => ("EventVault$Group", "stream", "I", false)
  | 7 => ("EventVault$Group", "from", "I", false)
  | _ => ("EventVault$Group", "retries", "I", false)
def tyX3 : Nat → FieldType := fun k => match k with
  | 0 => .array .int
  | 1 => .array .int
  | 2 => .array .int
  | 3 => .array .int
  | 4 => .int
  | 5 => .boolean
  | 6 => .int
  | 7 => .int
  | _ => .int
abbrev wsX30 : List Cond := u_ws RX3 TX3 9
theorem nmX3 : ∀ a, a < 9 → ∀ b, b < 9 → a ≠ b → (TX3 a).2.1 ≠ (TX3 b).2.1 := by decide +kernel
theorem tyX3_ok : ∀ k, k < 9 → parseFieldDescriptor (TX3 k).2.2.1 = some (tyX3 k) := by decide +kernel
abbrev cX3_init : ByteArray := prog_5_method_1_code
def yX3_init : MethodName := ⟨RX3, "<init>", "()V"⟩
abbrev cX3_make : ByteArray := prog_5_method_2_code
def yX3_make : MethodName := ⟨RX3, "make", "(III)V"⟩
abbrev cX3_forgetGiven : ByteArray := prog_5_method_3_code
def yX3_forgetGiven : MethodName := ⟨RX3, "forgetGiven", "()V"⟩
abbrev cX3_give : ByteArray := prog_5_method_4_code
def yX3_give : MethodName := ⟨RX3, "give", "(LEventVault$Events;)I"⟩
abbrev cX3_isOut : ByteArray := prog_5_method_5_code
def yX3_isOut : MethodName := ⟨RX3, "isOut", "(I)Z"⟩
abbrev cX3_isSpent : ByteArray := prog_5_method_6_code
def yX3_isSpent : MethodName := ⟨RX3, "isSpent", "(I)Z"⟩
abbrev cX3_finish : ByteArray := prog_5_method_7_code
def yX3_finish : MethodName := ⟨RX3, "finish", "(I)V"⟩
abbrev cX3_takeBack : ByteArray := prog_5_method_8_code
def yX3_takeBack : MethodName := ⟨RX3, "takeBack", "(I)V"⟩
abbrev cX3_takeBackDue : ByteArray := prog_5_method_9_code
def yX3_takeBackDue : MethodName := ⟨RX3, "takeBackDue", "(I)V"⟩
abbrev cX3_countDue : ByteArray := prog_5_method_10_code
def yX3_countDue : MethodName := ⟨RX3, "countDue", "(I)I"⟩
abbrev cX3_countParkedBy : ByteArray := prog_5_method_11_code
def yX3_countParkedBy : MethodName := ⟨RX3, "countParkedBy", "(I)I"⟩
abbrev cX3_countMarked : ByteArray := prog_5_method_12_code
def yX3_countMarked : MethodName := ⟨RX3, "countMarked", "(LEventVault$Events;I)I"⟩
abbrev cX3_findOut : ByteArray := prog_5_method_13_code
def yX3_findOut : MethodName := ⟨RX3, "findOut", "(I)I"⟩
abbrev cX3_dropOut : ByteArray := prog_5_method_14_code
def yX3_dropOut : MethodName := ⟨RX3, "dropOut", "(I)V"⟩
def RX4 : String := "EventVault$Machine"
def TX4 : u_T := fun k => match k with
  | 0 => ("EventVault$Machine", "stack", "[J", true)
  | 1 => ("EventVault$Machine", "variables", "[J", true)
  | 2 => ("EventVault$Machine", "emittedTypes", "[I", true)
  | 3 => ("EventVault$Machine", "emittedData", "[J", true)
  | 4 => ("EventVault$Machine", "emitted", "I", false)
  | 5 => ("EventVault$Machine", "height", "I", false)
  | 6 => ("EventVault$Machine", "next", "I", false)
  | 7 => ("EventVault$Machine", "behindLast", "I", false)
  | _ => ("EventVault$Machine", "broken", "Z", false)
def tyX4 : Nat → FieldType := fun k => match k with
  | 0 => .array .long
  | 1 => .array .long
  | 2 => .array .int
  | 3 => .array .long
  | 4 => .int
  | 5 => .int
  | 6 => .int
  | 7 => .int
  | _ => .boolean
abbrev wsX40 : List Cond := u_ws RX4 TX4 9
theorem nmX4 : ∀ a, a < 9 → ∀ b, b < 9 → a ≠ b → (TX4 a).2.1 ≠ (TX4 b).2.1 := by decide +kernel
theorem tyX4_ok : ∀ k, k < 9 → parseFieldDescriptor (TX4 k).2.2.1 = some (tyX4 k) := by decide +kernel
abbrev cX4_init : ByteArray := prog_6_method_1_code
def yX4_init : MethodName := ⟨RX4, "<init>", "()V"⟩
abbrev cX4_run : ByteArray := prog_6_method_2_code
def yX4_run : MethodName := ⟨RX4, "run", "(LEventVault$Projection;LEventVault$Events;I)V"⟩
abbrev cX4_isRunning : ByteArray := prog_6_method_3_code
def yX4_isRunning : MethodName := ⟨RX4, "isRunning", "()Z"⟩
abbrev cX4_work : ByteArray := prog_6_method_4_code
def yX4_work : MethodName := ⟨RX4, "work", "(IILEventVault$Events;I)V"⟩
abbrev cX4_pushed : ByteArray := prog_6_method_5_code
def yX4_pushed : MethodName := ⟨RX4, "pushed", "(IILEventVault$Events;I)J"⟩
abbrev cX4_joined : ByteArray := prog_6_method_6_code
def yX4_joined : MethodName := ⟨RX4, "joined", "(IJJ)J"⟩
abbrev cX4_divided : ByteArray := prog_6_method_7_code
def yX4_divided : MethodName := ⟨RX4, "divided", "(JJ)J"⟩
abbrev cX4_workRest : ByteArray := prog_6_method_8_code
def yX4_workRest : MethodName := ⟨RX4, "workRest", "(II)V"⟩
abbrev cX4_pushTwice : ByteArray := prog_6_method_9_code
def yX4_pushTwice : MethodName := ⟨RX4, "pushTwice", "(J)V"⟩
abbrev cX4_pushChanged : ByteArray := prog_6_method_10_code
def yX4_pushChanged : MethodName := ⟨RX4, "pushChanged", "(JJ)V"⟩
abbrev cX4_emit : ByteArray := prog_6_method_11_code
def yX4_emit : MethodName := ⟨RX4, "emit", "(IJ)V"⟩
abbrev cX4_push : ByteArray := prog_6_method_12_code
def yX4_push : MethodName := ⟨RX4, "push", "(J)V"⟩
abbrev cX4_pop : ByteArray := prog_6_method_13_code
def yX4_pop : MethodName := ⟨RX4, "pop", "()J"⟩
def RX5 : String := "EventVault$Program"
def TX5 : u_T := fun k => match k with
  | 0 => ("EventVault$Program", "ops", "[I", true)
  | 1 => ("EventVault$Program", "args", "[I", true)
  | _ => ("EventVault$Program", "count", "I", false)
def tyX5 : Nat → FieldType := fun k => match k with
  | 0 => .array .int
  | 1 => .array .int
  | _ => .int
abbrev wsX50 : List Cond := u_ws RX5 TX5 3
theorem nmX5 : ∀ a, a < 3 → ∀ b, b < 3 → a ≠ b → (TX5 a).2.1 ≠ (TX5 b).2.1 := by decide +kernel
theorem tyX5_ok : ∀ k, k < 3 → parseFieldDescriptor (TX5 k).2.2.1 = some (tyX5 k) := by decide +kernel
abbrev cX5_init : ByteArray := prog_7_method_1_code
def yX5_init : MethodName := ⟨RX5, "<init>", "()V"⟩
abbrev cX5_isInstruction : ByteArray := prog_7_method_2_code
def yX5_isInstruction : MethodName := ⟨RX5, "isInstruction", "(II)Z"⟩
abbrev cX5_put : ByteArray := prog_7_method_3_code
def yX5_put : MethodName := ⟨RX5, "put", "(II)I"⟩
abbrev cX5_clear : ByteArray := prog_7_method_4_code
def yX5_clear : MethodName := ⟨RX5, "clear", "()V"⟩
abbrev cX5_jumpsInside : ByteArray := prog_7_method_5_code
def yX5_jumpsInside : MethodName := ⟨RX5, "jumpsInside", "()Z"⟩
abbrev cX5_copy : ByteArray := prog_7_method_6_code
def yX5_copy : MethodName := ⟨RX5, "copy", "(LEventVault$Program;)V"⟩
def RX6 : String := "EventVault$Projection"
def TX6 : u_T := fun k => match k with
  | 0 => ("EventVault$Projection", "program", "LEventVault$Program;", true)
  | 1 => ("EventVault$Projection", "variables", "[J", true)
  | 2 => ("EventVault$Projection", "made", "Z", false)
  | 3 => ("EventVault$Projection", "streams", "I", false)
  | 4 => ("EventVault$Projection", "types", "I", false)
  | 5 => ("EventVault$Projection", "whole", "Z", false)
  | 6 => ("EventVault$Projection", "cursor", "I", false)
  | _ => ("EventVault$Projection", "broken", "Z", false)
def tyX6 : Nat → FieldType := fun k => match k with
  | 0 => .object "EventVault$Program"
  | 1 => .array .long
  | 2 => .boolean
  | 3 => .int
  | 4 => .int
  | 5 => .boolean
  | 6 => .int
  | _ => .boolean
abbrev wsX60 : List Cond := u_ws RX6 TX6 8
theorem nmX6 : ∀ a, a < 8 → ∀ b, b < 8 → a ≠ b → (TX6 a).2.1 ≠ (TX6 b).2.1 := by decide +kernel
theorem tyX6_ok : ∀ k, k < 8 → parseFieldDescriptor (TX6 k).2.2.1 = some (tyX6 k) := by decide +kernel
abbrev cX6_init : ByteArray := prog_8_method_1_code
def yX6_init : MethodName := ⟨RX6, "<init>", "()V"⟩
abbrev cX6_make : ByteArray := prog_8_method_2_code
def yX6_make : MethodName := ⟨RX6, "make", "(LEventVault$Program;IIZ)V"⟩
abbrev cX6_findNext : ByteArray := prog_8_method_3_code
def yX6_findNext : MethodName := ⟨RX6, "findNext", "(LEventVault$Events;)I"⟩
abbrev cX6_wants : ByteArray := prog_8_method_4_code
def yX6_wants : MethodName := ⟨RX6, "wants", "(II)Z"⟩
abbrev cX6_firstVariable : ByteArray := prog_8_method_5_code
def yX6_firstVariable : MethodName := ⟨RX6, "firstVariable", "(I)I"⟩
abbrev cX6_keep : ByteArray := prog_8_method_6_code
def yX6_keep : MethodName := ⟨RX6, "keep", "(LEventVault$Machine;I)V"⟩
abbrev cX6_countStreamsWithVariables : ByteArray := prog_8_method_7_code
def yX6_countStreamsWithVariables : MethodName := ⟨RX6, "countStreamsWithVariables", "()I"⟩
def RX7 : String := "EventVault$Stream"
def TX7 : u_T := fun k => match k with
  | 0 => ("EventVault$Stream", "version", "I", false)
  | 1 => ("EventVault$Stream", "most", "I", false)
  | 2 => ("EventVault$Stream", "age", "I", false)
  | 3 => ("EventVault$Stream", "from", "I", false)
  | 4 => ("EventVault$Stream", "ended", "Z", false)
  | _ => ("EventVault$Stream", "firstVisible", "I", false)
def tyX7 : Nat → FieldType := fun k => match k with
  | 0 => .int
  | 1 => .int
  | 2 => .int
  | 3 => .int
  | 4 => .boolean
  | _ => .int
abbrev wsX70 : List Cond := u_ws RX7 TX7 6
theorem nmX7 : ∀ a, a < 6 → ∀ b, b < 6 → a ≠ b → (TX7 a).2.1 ≠ (TX7 b).2.1 := by decide +kernel
theorem tyX7_ok : ∀ k, k < 6 → parseFieldDescriptor (TX7 k).2.2.1 = some (tyX7 k) := by decide +kernel
abbrev cX7_init : ByteArray := prog_9_method_1_code
def yX7_init : MethodName := ⟨RX7, "<init>", "()V"⟩
abbrev cX7_set : ByteArray := prog_9_method_2_code
def yX7_set : MethodName := ⟨RX7, "set", "(III)V"⟩
abbrev cX7_hideByNumber : ByteArray := prog_9_method_3_code
def yX7_hideByNumber : MethodName := ⟨RX7, "hideByNumber", "()V"⟩
abbrev cX7_hideBelow : ByteArray := prog_9_method_4_code
def yX7_hideBelow : MethodName := ⟨RX7, "hideBelow", "(I)V"⟩
abbrev cX7_isUsed : ByteArray := prog_9_method_5_code
def yX7_isUsed : MethodName := ⟨RX7, "isUsed", "()Z"⟩
def RX8 : String := "EventVault"
def TX8 : u_T := fun k => match k with
  | 0 => ("EventVault", "disk", "LEventVault$Disk;", true)
  | 1 => ("EventVault", "drafted", "LEventVault$Draft;", true)
  | 2 => ("EventVault", "composed", "LEventVault$Program;", true)
  | 3 => ("EventVault", "events", "LEventVault$Events;", true)
  | 4 => ("EventVault", "machine", "LEventVault$Machine;", true)
  | 5 => ("EventVault", "groups", "[LEventVault$Group;", true)
  | _ => ("EventVault", "projections", "[LEventVault$Projection;", true)
def tyX8 : Nat → FieldType := fun k => match k with
  | 0 => .object "EventVault$Disk"
  | 1 => .object "EventVault$Draft"
  | 2 => .object "EventVault$Program"
  | 3 => .object "EventVault$Events"
  | 4 => .object "EventVault$Machine"
  | 5 => .array (.object "EventVault$Group")
  | _ => .array (.object "EventVault$Projection")
abbrev wsX80 : List Cond := u_ws RX8 TX8 7
theorem nmX8 : ∀ a, a < 7 → ∀ b, b < 7 → a ≠ b → (TX8 a).2.1 ≠ (TX8 b).2.1 := by decide +kernel
theorem tyX8_ok : ∀ k, k < 7 → parseFieldDescriptor (TX8 k).2.2.1 = some (tyX8 k) := by decide +kernel
abbrev cX8_init : ByteArray := prog_1_method_1_code
def yX8_init : MethodName := ⟨RX8, "<init>", "()V"⟩
abbrev cX8_draft : ByteArray := prog_1_method_2_code
def yX8_draft : MethodName := ⟨RX8, "draft", "(IIJ)I"⟩
abbrev cX8_append : ByteArray := prog_1_method_3_code
def yX8_append : MethodName := ⟨RX8, "append", "(II)I"⟩
abbrev cX8_settings : ByteArray := prog_1_method_4_code
def yX8_settings : MethodName := ⟨RX8, "settings", "(IIII)I"⟩
abbrev cX8_end : ByteArray := prog_1_method_5_code
def yX8_end : MethodName := ⟨RX8, "end", "(I)I"⟩
abbrev cX8_tick : ByteArray := prog_1_method_6_code
def yX8_tick : MethodName := ⟨RX8, "tick", "(I)I"⟩
abbrev cX8_read : ByteArray := prog_1_method_7_code
def yX8_read : MethodName := ⟨RX8, "read", "(IIIZ)I"⟩
abbrev cX8_event : ByteArray := prog_1_method_8_code
def yX8_event : MethodName := ⟨RX8, "event", "(II)J"⟩
abbrev cX8_group : ByteArray := prog_1_method_9_code
def yX8_group : MethodName := ⟨RX8, "group", "(IIII)I"⟩
abbrev cX8_take : ByteArray := prog_1_method_10_code
def yX8_take : MethodName := ⟨RX8, "take", "(I)I"⟩
abbrev cX8_acknowledge : ByteArray := prog_1_method_11_code
def yX8_acknowledge : MethodName := ⟨RX8, "acknowledge", "(II)I"⟩
abbrev cX8_refuse : ByteArray := prog_1_method_12_code
def yX8_refuse : MethodName := ⟨RX8, "refuse", "(II)I"⟩
abbrev cX8_code : ByteArray := prog_1_method_13_code
def yX8_code : MethodName := ⟨RX8, "code", "(II)I"⟩
abbrev cX8_projection : ByteArray := prog_1_method_14_code
def yX8_projection : MethodName := ⟨RX8, "projection", "(IIIZ)I"⟩
abbrev cX8_step : ByteArray := prog_1_method_15_code
def yX8_step : MethodName := ⟨RX8, "step", "(I)I"⟩
abbrev cX8_variable : ByteArray := prog_1_method_16_code
def yX8_variable : MethodName := ⟨RX8, "variable", "(III)J"⟩
abbrev cX8_scavenge : ByteArray := prog_1_method_17_code
def yX8_scavenge : MethodName := ⟨RX8, "scavenge", "()I"⟩
abbrev cX8_power : ByteArray := prog_1_method_18_code
def yX8_power : MethodName := ⟨RX8, "power", "(I)V"⟩
abbrev cX8_reopen : ByteArray := prog_1_method_19_code
def yX8_reopen : MethodName := ⟨RX8, "reopen", "()I"⟩
abbrev cX8_told : ByteArray := prog_1_method_20_code
def yX8_told : MethodName := ⟨RX8, "told", "(I)I"⟩
abbrev cX8_check : ByteArray := prog_1_method_21_code
def yX8_check : MethodName := ⟨RX8, "check", "()I"⟩
abbrev cX8_isPlainStream : ByteArray := prog_1_method_22_code
def yX8_isPlainStream : MethodName := ⟨RX8, "isPlainStream", "(I)Z"⟩
abbrev cX8_isStream : ByteArray := prog_1_method_23_code
def yX8_isStream : MethodName := ⟨RX8, "isStream", "(I)Z"⟩
abbrev cX8_isStreamOrAll : ByteArray := prog_1_method_24_code
def yX8_isStreamOrAll : MethodName := ⟨RX8, "isStreamOrAll", "(I)Z"⟩
abbrev cX8_isGroup : ByteArray := prog_1_method_25_code
def yX8_isGroup : MethodName := ⟨RX8, "isGroup", "(I)Z"⟩
abbrev cX8_isProjection : ByteArray := prog_1_method_26_code
def yX8_isProjection : MethodName := ⟨RX8, "isProjection", "(I)Z"⟩
abbrev cX8_isQuestion : ByteArray := prog_1_method_27_code
def yX8_isQuestion : MethodName := ⟨RX8, "isQuestion", "(I)Z"⟩
abbrev cX8_toldOfState : ByteArray := prog_1_method_28_code
def yX8_toldOfState : MethodName := ⟨RX8, "toldOfState", "(I)I"⟩
abbrev cX8_toldOfAll : ByteArray := prog_1_method_29_code
def yX8_toldOfAll : MethodName := ⟨RX8, "toldOfAll", "(I)I"⟩
abbrev cX8_toldOfGroup : ByteArray := prog_1_method_30_code
def yX8_toldOfGroup : MethodName := ⟨RX8, "toldOfGroup", "(LEventVault$Group;I)I"⟩
abbrev cX8_requireOn : ByteArray := prog_1_method_31_code
def yX8_requireOn : MethodName := ⟨RX8, "requireOn", "()V"⟩
abbrev cX8_requireRoom : ByteArray := prog_1_method_32_code
def yX8_requireRoom : MethodName := ⟨RX8, "requireRoom", "(I)V"⟩
abbrev cX8_requireNotEnded : ByteArray := prog_1_method_33_code
def yX8_requireNotEnded : MethodName := ⟨RX8, "requireNotEnded", "(I)V"⟩
abbrev cX8_requireOut : ByteArray := prog_1_method_34_code
def yX8_requireOut : MethodName := ⟨RX8, "requireOut", "(II)V"⟩
abbrev cX8_throwIfPowerFailed : ByteArray := prog_1_method_35_code
def yX8_throwIfPowerFailed : MethodName := ⟨RX8, "throwIfPowerFailed", "()V"⟩
abbrev cX8_forgetWhatDoesNotLast : ByteArray := prog_1_method_36_code
def yX8_forgetWhatDoesNotLast : MethodName := ⟨RX8, "forgetWhatDoesNotLast", "()V"⟩
abbrev cX8_passTo : ByteArray := prog_1_method_37_code
def yX8_passTo : MethodName := ⟨RX8, "passTo", "(I)V"⟩
abbrev cX8_breakAt : ByteArray := prog_1_method_38_code
def yX8_breakAt : MethodName := ⟨RX8, "breakAt", "(LEventVault$Projection;I)I"⟩
abbrev cX8_keepWork : ByteArray := prog_1_method_39_code
def yX8_keepWork : MethodName := ⟨RX8, "keepWork", "(II)I"⟩
abbrev cX8_keptBytes : ByteArray := prog_1_method_40_code
def yX8_keptBytes : MethodName := ⟨RX8, "keptBytes", "()I"⟩
abbrev cX8_keptGroupBytes : ByteArray := prog_1_method_41_code
def yX8_keptGroupBytes : MethodName := ⟨RX8, "keptGroupBytes", "(LEventVault$Group;)I"⟩
abbrev cX8_keptProjectionBytes : ByteArray := prog_1_method_42_code
def yX8_keptProjectionBytes : MethodName := ⟨RX8, "keptProjectionBytes", "(LEventVault$Projection;)I"⟩
def RX9 : String := "EventVaultModel"
def TX9 : u_T := fun k => match k with
  | 0 => ("EventVaultModel", "thrown", "I", false)
  | 1 => ("EventVaultModel", "on", "Z", false)
  | 2 => ("EventVaultModel", "time", "I", false)
  | 3 => ("EventVaultModel", "bytes", "I", false)
  | 4 => ("EventVaultModel", "records", "I", false)
  | 5 => ("EventVaultModel", "power", "I", false)
  | 6 => ("EventVaultModel", "stream", "[I", true)
  | 7 => ("EventVaultModel", "number", "[I", true)
  | 8 => ("EventVaultModel", "id", "[I", true)
  | 9 => ("EventVaultModel", "type", "[I", true)
  | 10 => ("EventVaultModel", "data", "[J", true)
  | 11 => ("EventVaultModel", "came", "[I", true)
  | 12 => ("EventVaultModel", "hidden", "[Z", true)
  | 13 => ("EventVaultModel", "events", "I", false)
  | 14 => ("EventVaultModel", "version", "[I", true)
  | 15 => ("EventVaultModel", "most", "[I", true)
  | 16 => ("EventVaultModel", "age", "[I", true)
  | 17 => ("EventVaultModel", "low", "[I", true)
  | 18 => ("EventVaultModel", "ended", "[Z", true)
  | 19 => ("EventVaultModel", "draftId", "[I", true)
  | 20 => ("EventVaultModel", "draftType", "[I", true)
  | 21 => ("EventVaultModel", "draftData", "[J", true)
  | 22 => ("EventVaultModel", "drafts", "I", false)
  | 23 => ("EventVaultModel", "grouped", "[Z", true)
  | 24 => ("EventVaultModel", "wants", "[I", true)
  | 25 => ("EventVaultModel", "from", "[I", true)
  | 26 => ("EventVaultModel", "retries", "[I", true)
  | 27 => ("EventVaultModel", "state", "[B", true)
  | 28 => ("EventVaultModel", "till", "[I", true)
  | 29 => ("EventVaultModel", "tries", "[I", true)
  | 30 => ("EventVaultModel", "newOp", "[I", true)
  | 31 => ("EventVaultModel", "newArg", "[I", true)
  | 32 => ("EventVaultModel", "codes", "I", false)
  | 33 => ("EventVaultModel", "made", "[Z", true)
  | 34 => ("EventVaultModel", "many", "[I", true)
  | 35 => ("EventVaultModel", "op", "[I", true)
  | 36 => ("EventVaultModel", "arg", "[I", true)
  | 37 => ("EventVaultModel", "streams", "[I", true)
  | 38 => ("EventVaultModel", "types", "[I", true)
  | 39 => ("EventVaultModel", "whole", "[Z", true)
  | 40 => ("EventVaultModel", "cursor", "[I", true)
  | 41 => ("EventVaultModel", "broken", "[Z", true)
  | 42 => ("EventVaultModel", "variable", "[J", true)
  | 43 => ("EventVaultModel", "failed", "Z", false)
  | 44 => ("EventVaultModel", "stack", "[J", true)
  | 45 => ("EventVaultModel", "top", "I", false)
  | 46 => ("EventVaultModel", "four", "[J", true)
  | 47 => ("EventVaultModel", "emitType", "[I", true)
  | 48 => ("EventVaultModel", "emitData", "[J", true)
  | 49 => ("EventVaultModel", "emits", "I", false)
  | _ => ("EventVaultModel", "wrong", "Z", false)
def tyX9 : Nat → FieldType := fun k => match k with
  | 0 => .int
  | 1 => .boolean
  | 2 => .int
  | 3 => .int
  | 4 => .int
  | 5 => .int
  | 6 => .array .int
  | 7 => .array .int
  | 8 => .array .int
  | 9 => .array .int
  | 10 => .array .long
  | 11 => .array .int
  | 12 => .array .boolean
  | 13 => .int
  | 14 => .array .int
  | 15 => .array .int
  | 16 => .array .int
  | 17 => .array .int
  | 18 => .array .boolean
  | 19 => .array .int
  | 20 => .array .int
  | 21 => .array .long
  | 22 => .int
  | 23 => .array .boolean
  | 24 => .array .int
  | 25 => .array .int
  | 26 => .array .int
  | 27 => .array .byte
  | 28 => .array .int
  | 29 => .array .int
  | 30 => .array .int
  | 31 => .array .int
  | 32 => .int
  | 33 => .array .boolean
  | 34 => .array .int
  | 35 => .array .int
  | 36 => .array .int
  | 37 => .array .int
  | 38 => .array .int
  | 39 => .array .boolean
  | 40 => .array .int
  | 41 => .array .boolean
  | 42 => .array .long
  | 43 => .boolean
  | 44 => .array .long
  | 45 => .int
  | 46 => .array .long
  | 47 => .array .int
  | 48 => .array .long
  | 49 => .int
  | _ => .boolean
abbrev wsX90 : List Cond := u_ws RX9 TX9 51
theorem nmX9 : ∀ a, a < 51 → ∀ b, b < 51 → a ≠ b → (TX9 a).2.1 ≠ (TX9 b).2.1 := by decide +kernel
theorem tyX9_ok : ∀ k, k < 51 → parseFieldDescriptor (TX9 k).2.2.1 = some (tyX9 k) := by decide +kernel
abbrev cX9_init : ByteArray := prog_11_method_1_code
def yX9_init : MethodName := ⟨RX9, "<init>", "()V"⟩
abbrev cX9_thrown : ByteArray := prog_11_method_2_code
def yX9_thrown : MethodName := ⟨RX9, "thrown", "()I"⟩
abbrev cX9_bad : ByteArray := prog_11_method_3_code
def yX9_bad : MethodName := ⟨RX9, "bad", "(ZI)Z"⟩
abbrev cX9_in : ByteArray := prog_11_method_4_code
def yX9_in : MethodName := ⟨RX9, "in", "(III)Z"⟩
abbrev cX9_off : ByteArray := prog_11_method_5_code
def yX9_off : MethodName := ⟨RX9, "off", "()V"⟩
abbrev cX9_isFull : ByteArray := prog_11_method_6_code
def yX9_isFull : MethodName := ⟨RX9, "isFull", "(I)Z"⟩
abbrev cX9_lasts : ByteArray := prog_11_method_7_code
def yX9_lasts : MethodName := ⟨RX9, "lasts", "(I)Z"⟩
abbrev cX9_fails : ByteArray := prog_11_method_8_code
def yX9_fails : MethodName := ⟨RX9, "fails", "(I)V"⟩
abbrev cX9_hide : ByteArray := prog_11_method_9_code
def yX9_hide : MethodName := ⟨RX9, "hide", "()V"⟩
abbrev cX9_comes : ByteArray := prog_11_method_10_code
def yX9_comes : MethodName := ⟨RX9, "comes", "(IIIJ)V"⟩
abbrev cX9_draft : ByteArray := prog_11_method_11_code
def yX9_draft : MethodName := ⟨RX9, "draft", "(IIJ)I"⟩
abbrev cX9_at : ByteArray := prog_11_method_12_code
def yX9_at : MethodName := ⟨RX9, "at", "(II)I"⟩
abbrev cX9_stands : ByteArray := prog_11_method_13_code
def yX9_stands : MethodName := ⟨RX9, "stands", "(III)I"⟩
abbrev cX9_append : ByteArray := prog_11_method_14_code
def yX9_append : MethodName := ⟨RX9, "append", "(II)I"⟩
abbrev cX9_visible : ByteArray := prog_11_method_15_code
def yX9_visible : MethodName := ⟨RX9, "visible", "(I)I"⟩
abbrev cX9_settings : ByteArray := prog_11_method_16_code
def yX9_settings : MethodName := ⟨RX9, "settings", "(IIII)I"⟩
abbrev cX9_end : ByteArray := prog_11_method_17_code
def yX9_end : MethodName := ⟨RX9, "end", "(I)I"⟩
abbrev cX9_tick : ByteArray := prog_11_method_18_code
def yX9_tick : MethodName := ⟨RX9, "tick", "(I)I"⟩
abbrev cX9_read : ByteArray := prog_11_method_19_code
def yX9_read : MethodName := ⟨RX9, "read", "(IIIZ)I"⟩
abbrev cX9_event : ByteArray := prog_11_method_20_code
def yX9_event : MethodName := ⟨RX9, "event", "(II)J"⟩
abbrev cX9_isWanted : ByteArray := prog_11_method_21_code
def yX9_isWanted : MethodName := ⟨RX9, "isWanted", "(II)Z"⟩
abbrev cX9_group : ByteArray := prog_11_method_22_code
def yX9_group : MethodName := ⟨RX9, "group", "(IIII)I"⟩
abbrev cX9_isGroup : ByteArray := prog_11_method_23_code
def yX9_isGroup : MethodName := ⟨RX9, "isGroup", "(I)Z"⟩
abbrev cX9_outs : ByteArray := prog_11_method_24_code
def yX9_outs : MethodName := ⟨RX9, "outs", "(I)I"⟩
abbrev cX9_take : ByteArray := prog_11_method_25_code
def yX9_take : MethodName := ⟨RX9, "take", "(I)I"⟩
abbrev cX9_isOut : ByteArray := prog_11_method_26_code
def yX9_isOut : MethodName := ⟨RX9, "isOut", "(II)Z"⟩
abbrev cX9_acknowledge : ByteArray := prog_11_method_27_code
def yX9_acknowledge : MethodName := ⟨RX9, "acknowledge", "(II)I"⟩
abbrev cX9_refuse : ByteArray := prog_11_method_28_code
def yX9_refuse : MethodName := ⟨RX9, "refuse", "(II)I"⟩
abbrev cX9_code : ByteArray := prog_11_method_29_code
def yX9_code : MethodName := ⟨RX9, "code", "(II)I"⟩
abbrev cX9_projection : ByteArray := prog_11_method_30_code
def yX9_projection : MethodName := ⟨RX9, "projection", "(IIIZ)I"⟩
abbrev cX9_push : ByteArray := prog_11_method_31_code
def yX9_push : MethodName := ⟨RX9, "push", "(J)V"⟩
abbrev cX9_pop : ByteArray := prog_11_method_32_code
def yX9_pop : MethodName := ⟨RX9, "pop", "()J"⟩
abbrev cX9_works : ByteArray := prog_11_method_33_code
def yX9_works : MethodName := ⟨RX9, "works", "(II)Z"⟩
abbrev cX9_does : ByteArray := prog_11_method_34_code
def yX9_does : MethodName := ⟨RX9, "does", "(III)V"⟩
abbrev cX9_step : ByteArray := prog_11_method_35_code
def yX9_step : MethodName := ⟨RX9, "step", "(I)I"⟩
abbrev cX9_variable : ByteArray := prog_11_method_36_code
def yX9_variable : MethodName := ⟨RX9, "variable", "(III)J"⟩
abbrev cX9_scavenge : ByteArray := prog_11_method_37_code
def yX9_scavenge : MethodName := ⟨RX9, "scavenge", "()I"⟩
abbrev cX9_power : ByteArray := prog_11_method_38_code
def yX9_power : MethodName := ⟨RX9, "power", "(I)V"⟩
abbrev cX9_reopen : ByteArray := prog_11_method_39_code
def yX9_reopen : MethodName := ⟨RX9, "reopen", "()I"⟩
abbrev cX9_counted : ByteArray := prog_11_method_40_code
def yX9_counted : MethodName := ⟨RX9, "counted", "(II)I"⟩
abbrev cX9_told : ByteArray := prog_11_method_41_code
def yX9_told : MethodName := ⟨RX9, "told", "(I)I"⟩
abbrev cX9_check : ByteArray := prog_11_method_42_code
def yX9_check : MethodName := ⟨RX9, "check", "()I"⟩
def RJx145de : String := "java/io/Serializable"
def TJx145de : u_T := fun k => match k with
  | _ => ("", "", "", false)
def tyJx145de : Nat → FieldType := fun k => match k with
  | _ => .int
abbrev wsJx145de0 : List Cond := u_ws RJx145de TJx145de 0
theorem nmJx145de : ∀ a, a < 0 → ∀ b, b < 0 → a ≠ b → (TJx145de a).2.1 ≠ (TJx145de b).2.1 := by decide +kernel
theorem tyJx145de_ok : ∀ k, k < 0 → parseFieldDescriptor (TJx145de k).2.2.1 = some (tyJx145de k) := by decide +kernel
def RJ9 : String := "java/lang/Math"
def TJ9 : u_T := fun k => match k with
  | _ => ("", "", "", false)
def tyJ9 : Nat → FieldType := fun k => match k with
  | _ => .int
abbrev wsJ90 : List Cond := u_ws RJ9 TJ9 0
theorem nmJ9 : ∀ a, a < 0 → ∀ b, b < 0 → a ≠ b → (TJ9 a).2.1 ≠ (TJ9 b).2.1 := by decide +kernel
theorem tyJ9_ok : ∀ k, k < 0 → parseFieldDescriptor (TJ9 k).2.2.1 = some (tyJ9 k) := by decide +kernel
abbrev cJ9_max_7cf53 : ByteArray := prog_17_method_65_code
def yJ9_max_7cf53 : MethodName := ⟨RJ9, "max", "(II)I"⟩
abbrev cJ9_min_7cf53 : ByteArray := prog_17_method_69_code
def yJ9_min_7cf53 : MethodName := ⟨RJ9, "min", "(II)I"⟩
def RJ0 : String := "java/lang/String"
def TJ0 : u_T := fun k => match k with
  | 0 => ("java/lang/String", "value", "[B", true)
  | _ => ("java/lang/String", "coder", "B", true)
def tyJ0 : Nat → FieldType := fun k => match k with
  | 0 => .array .byte
  | _ => .byte
abbrev wsJ00 : List Cond := u_ws RJ0 TJ0 2
theorem nmJ0 : ∀ a, a < 2 → ∀ b, b < 2 → a ≠ b → (TJ0 a).2.1 ≠ (TJ0 b).2.1 := by decide +kernel
theorem tyJ0_ok : ∀ k, k < 2 → parseFieldDescriptor (TJ0 k).2.2.1 = some (tyJ0 k) := by decide +kernel
def RJ10 : String := "java/lang/System"
def TJ10 : u_T := fun k => match k with
  | _ => ("", "", "", false)
def tyJ10 : Nat → FieldType := fun k => match k with
  | _ => .int
abbrev wsJ100 : List Cond := u_ws RJ10 TJ10 0
theorem nmJ10 : ∀ a, a < 0 → ∀ b, b < 0 → a ≠ b → (TJ10 a).2.1 ≠ (TJ10 b).2.1 := by decide +kernel
theorem tyJ10_ok : ∀ k, k < 0 → parseFieldDescriptor (TJ10 k).2.2.1 = some (tyJ10 k) := by decide +kernel
def RJ7 : String := "java/util/Arrays"
def TJ7 : u_T := fun k => match k with
  | _ => ("", "", "", false)
def tyJ7 : Nat → FieldType := fun k => match k with
  | _ => .int
abbrev wsJ70 : List Cond := u_ws RJ7 TJ7 0
theorem nmJ7 : ∀ a, a < 0 → ∀ b, b < 0 → a ≠ b → (TJ7 a).2.1 ≠ (TJ7 b).2.1 := by decide +kernel
theorem tyJ7_ok : ∀ k, k < 0 → parseFieldDescriptor (TJ7 k).2.2.1 = some (tyJ7 k) := by decide +kernel
abbrev cJ7_fill_d0a16 : ByteArray := prog_22_method_101_code
def yJ7_fill_d0a16 : MethodName := ⟨RJ7, "fill", "([JJ)V"⟩
abbrev cJ7_fill_53178 : ByteArray := prog_22_method_103_code
def yJ7_fill_53178 : MethodName := ⟨RJ7, "fill", "([II)V"⟩
def RL : String := "EventVaultLaw"
abbrev cL_draft : ByteArray := method_3_code
def yL_draft : MethodName := ⟨RL, "draft", "(LEventVault;IIJ[J)I"⟩
abbrev cL_append : ByteArray := method_4_code
def yL_append : MethodName := ⟨RL, "append", "(LEventVault;II[J)I"⟩
abbrev cL_settings : ByteArray := method_5_code
def yL_settings : MethodName := ⟨RL, "settings", "(LEventVault;IIII[J)I"⟩
abbrev cL_end : ByteArray := method_6_code
def yL_end : MethodName := ⟨RL, "end", "(LEventVault;I[J)I"⟩
abbrev cL_tick : ByteArray := method_7_code
def yL_tick : MethodName := ⟨RL, "tick", "(LEventVault;I[J)I"⟩
abbrev cL_read : ByteArray := method_8_code
def yL_read : MethodName := ⟨RL, "read", "(LEventVault;IIIZ[J)I"⟩
abbrev cL_event : ByteArray := method_9_code
def yL_event : MethodName := ⟨RL, "event", "(LEventVault;II[J)I"⟩
abbrev cL_group : ByteArray := method_10_code
def yL_group : MethodName := ⟨RL, "group", "(LEventVault;IIII[J)I"⟩
abbrev cL_take : ByteArray := method_11_code
def yL_take : MethodName := ⟨RL, "take", "(LEventVault;I[J)I"⟩
abbrev cL_acknowledge : ByteArray := method_12_code
def yL_acknowledge : MethodName := ⟨RL, "acknowledge", "(LEventVault;II[J)I"⟩
abbrev cL_refuse : ByteArray := method_13_code
def yL_refuse : MethodName := ⟨RL, "refuse", "(LEventVault;II[J)I"⟩
abbrev cL_code : ByteArray := method_14_code
def yL_code : MethodName := ⟨RL, "code", "(LEventVault;II[J)I"⟩
abbrev cL_projection : ByteArray := method_15_code
def yL_projection : MethodName := ⟨RL, "projection", "(LEventVault;IIIZ[J)I"⟩
abbrev cL_step : ByteArray := method_16_code
def yL_step : MethodName := ⟨RL, "step", "(LEventVault;I[J)I"⟩
abbrev cL_variable : ByteArray := method_17_code
def yL_variable : MethodName := ⟨RL, "variable", "(LEventVault;III[J)I"⟩
abbrev cL_scavenge : ByteArray := method_18_code
def yL_scavenge : MethodName := ⟨RL, "scavenge", "(LEventVault;[J)I"⟩
abbrev cL_power : ByteArray := method_19_code
def yL_power : MethodName := ⟨RL, "power", "(LEventVault;I)I"⟩
abbrev cL_told : ByteArray := method_20_code
def yL_told : MethodName := ⟨RL, "told", "(LEventVault;I[J)I"⟩
abbrev cL_law : ByteArray := code
def yL_law : MethodName := ⟨RL, "law", "([I)Z"⟩
def wsX0_init : List Cond := .code yX0_init cX0_init 1 none :: ([.methodLink RX0 3 objectInit, .instanceMethod objectInit, .code objectInit ⟨#[0xb1]⟩ 1 none, .fieldLink RX0 9 "EventVault$Disk" "on" "Z", .fieldLink RX0 15 "EventVault$Disk" "failsBehind" "I"] ++ wsX00)
def wsX0_hasRoom : List Cond := .code yX0_hasRoom cX0_hasRoom 2 (some .boolean) :: ([.constant RX0 19 (100000), .fieldLink RX0 20 "EventVault$Disk" "bytes" "I"] ++ wsX00)
def wsX0_outlastsPower : List Cond := .code yX0_outlastsPower cX0_outlastsPower 2 (some .boolean) :: ([.fieldLink RX0 15 "EventVault$Disk" "failsBehind" "I", .fieldLink RX0 9 "EventVault$Disk" "on" "Z"] ++ wsX00)
def wsX0_writes : List Cond := .code yX0_writes cX0_writes 3 (some .boolean) :: ([.fieldLink RX0 20 "EventVault$Disk" "bytes" "I", .fieldLink RX0 27 "EventVault$Disk" "records" "I", .methodLink RX0 23 yX0_outlastsPower, .instanceMethod yX0_outlastsPower, .selects RX0 yX0_outlastsPower yX0_outlastsPower, .initialized RX0, .code yX0_outlastsPower cX0_outlastsPower 2 (some .boolean), .fieldLink RX0 15 "EventVault$Disk" "failsBehind" "I", .fieldLink RX0 9 "EventVault$Disk" "on" "Z"] ++ wsX00)
def wsX0_rewrites : List Cond := .code yX0_rewrites cX0_rewrites 2 none :: ([.fieldLink RX0 20 "EventVault$Disk" "bytes" "I", .fieldLink RX0 27 "EventVault$Disk" "records" "I", .methodLink RX0 23 yX0_outlastsPower, .instanceMethod yX0_outlastsPower, .selects RX0 yX0_outlastsPower yX0_outlastsPower, .initialized RX0, .code yX0_outlastsPower cX0_outlastsPower 2 (some .boolean), .fieldLink RX0 15 "EventVault$Disk" "failsBehind" "I", .fieldLink RX0 9 "EventVault$Disk" "on" "Z"] ++ wsX00)
end
section
-- classes by number: 0 to 9 the ten with objects, 10 the law, 11 Math, 12 Arrays
def eCN (c : Nat) : String := match c with
  | 0 => RX0
  | 1 => RX1
  | 2 => RX2
  | 3 => RX3
  | 4 => RX4
  | 5 => RX5
  | 6 => RX6
  | 7 => RX7
  | 8 => RX8
  | 9 => RX9
  | 10 => RL
  | 11 => RJ9
  | _ => RJ7
abbrev eCl : List vw_C := [(RX0, TX0, 4), (RX1, TX1, 4), (RX2, TX2, 9), (RX3, TX3, 9), (RX4, TX4, 9), (RX5, TX5, 3), (RX6, TX6, 8), (RX7, TX7, 6), (RX8, TX8, 7), (RX9, TX9, 51)]
def eT (c : Nat) : u_T := match c with
  | 0 => TX0
  | 1 => TX1
  | 2 => TX2
  | 3 => TX3
  | 4 => TX4
  | 5 => TX5
  | 6 => TX6
  | 7 => TX7
  | 8 => TX8
  | _ => TX9
def eTy (c : Nat) : Nat → FieldType := match c with
  | 0 => tyX0
  | 1 => tyX1
  | 2 => tyX2
  | 3 => tyX3
  | 4 => tyX4
  | 5 => tyX5
  | 6 => tyX6
  | 7 => tyX7
  | 8 => tyX8
  | _ => tyX9
def eNF (c : Nat) : Nat := match c with
  | 0 => 4
  | 1 => 4
  | 2 => 9
  | 3 => 9
  | 4 => 9
  | 5 => 3
  | 6 => 8
  | 7 => 6
  | 8 => 7
  | _ => 51
def eRf (c k : Nat) : Bool := match eTy c k with | .object _ => true | .array _ => true | _ => false
def eEN (e : Nat) : String := match e with
  | 0 => "java/lang/IllegalArgumentException"
  | 1 => "java/lang/IllegalStateException"
  | 2 => "java/lang/ArithmeticException"
  | _ => "java/util/NoSuchElementException"
-- methods: name, code, locals, what it answers, class, depth, parameters, kind (0 of an object, 1 static, 2 constructor, 3 static with handlers, 4 the law)
abbrev eMT : Type := MethodName × ByteArray × Nat × Option FieldType × Nat × Nat × Nat × Nat
def eMs0 : List eMT := [(yX0_init, prog_2_method_1_code, 1, none, 0, 1, 0, 2),
  (yX0_hasRoom, prog_2_method_2_code, 2, (some .boolean), 0, 1, 1, 0),
  (yX0_writes, prog_2_method_3_code, 3, (some .boolean), 0, 2, 1, 0),
  (yX0_rewrites, prog_2_method_4_code, 2, none, 0, 2, 1, 0),
  (yX0_turnOn, prog_2_method_5_code, 1, none, 0, 1, 0, 0),
  (yX0_outlastsPower, prog_2_method_6_code, 2, (some .boolean), 0, 1, 1, 0),
  (yX1_init, prog_3_method_1_code, 1, none, 1, 1, 0, 2),
  (yX1_put, prog_3_method_2_code, 5, (some .int), 1, 1, 3, 0),
  (yX1_clear, prog_3_method_3_code, 1, none, 1, 1, 0, 0),
  (yX1_holds, prog_3_method_4_code, 3, (some .boolean), 1, 1, 1, 0),
  (yX2_init, prog_4_method_1_code, 2, none, 2, 2, 0, 2),
  (yX2_isPosition, prog_4_method_2_code, 2, (some .boolean), 2, 1, 1, 0),
  (yX2_hasRoom, prog_4_method_3_code, 2, (some .boolean), 2, 1, 1, 0),
  (yX2_isVisible, prog_4_method_4_code, 2, (some .boolean), 2, 1, 1, 0),
  (yX2_isVisibleIn, prog_4_method_5_code, 3, (some .boolean), 2, 2, 2, 0),
  (yX2_countVisible, prog_4_method_6_code, 5, (some .int), 2, 3, 2, 0),
  (yX2_nthVisible, prog_4_method_7_code, 9, (some .int), 2, 3, 4, 0),
  (yX2_fits, prog_4_method_8_code, 3, (some .boolean), 2, 1, 2, 0),
  (yX2_hasVisibleId, prog_4_method_9_code, 4, (some .boolean), 2, 3, 2, 0),
  (yX2_findDraft, prog_4_method_10_code, 6, (some .int), 2, 3, 3, 0),
  (yX2_standsFrom, prog_4_method_11_code, 5, (some .boolean), 2, 1, 2, 0),
  (yX2_addDraft, prog_4_method_12_code, 4, none, 2, 4, 2, 0),
  (yX2_addEmitted, prog_4_method_13_code, 5, none, 2, 4, 3, 0),
  (yX2_add, prog_4_method_14_code, 6, none, 2, 1, 4, 0),
  (yX2_hideOld, prog_4_method_15_code, 4, none, 2, 3, 1, 0),
  (yX3_init, prog_5_method_1_code, 1, none, 3, 1, 0, 2),
  (yX3_make, prog_5_method_2_code, 4, none, 3, 3, 3, 0),
  (yX3_forgetGiven, prog_5_method_3_code, 1, none, 3, 2, 0, 0),
  (yX3_give, prog_5_method_4_code, 3, (some .int), 3, 3, 1, 0),
  (yX3_isOut, prog_5_method_5_code, 2, (some .boolean), 3, 2, 1, 0),
  (yX3_isSpent, prog_5_method_6_code, 2, (some .boolean), 3, 1, 1, 0),
  (yX3_finish, prog_5_method_7_code, 2, none, 3, 2, 1, 0),
  (yX3_takeBack, prog_5_method_8_code, 2, none, 3, 2, 1, 0),
  (yX3_takeBackDue, prog_5_method_9_code, 3, none, 3, 3, 1, 0),
  (yX3_countDue, prog_5_method_10_code, 4, (some .int), 3, 1, 1, 0),
  (yX3_countParkedBy, prog_5_method_11_code, 4, (some .int), 3, 2, 1, 0),
  (yX3_countMarked, prog_5_method_12_code, 5, (some .int), 3, 2, 2, 0),
  (yX3_findOut, prog_5_method_13_code, 3, (some .int), 3, 1, 1, 0),
  (yX3_dropOut, prog_5_method_14_code, 2, none, 3, 1, 1, 0),
  (yX4_init, prog_6_method_1_code, 1, none, 4, 1, 0, 2)]
def eMs1 : List eMT := [(yX4_run, prog_6_method_2_code, 9, none, 4, 5, 3, 0),
  (yX4_isRunning, prog_6_method_3_code, 1, (some .boolean), 4, 1, 0, 0),
  (yX4_work, prog_6_method_4_code, 7, none, 4, 4, 4, 0),
  (yX4_pushed, prog_6_method_5_code, 5, (some .long), 4, 1, 4, 0),
  (yX4_joined, prog_6_method_6_code, 6, (some .long), 4, 2, 3, 0),
  (yX4_divided, prog_6_method_7_code, 5, (some .long), 4, 1, 2, 0),
  (yX4_workRest, prog_6_method_8_code, 3, none, 4, 3, 2, 0),
  (yX4_pushTwice, prog_6_method_9_code, 3, none, 4, 2, 1, 0),
  (yX4_pushChanged, prog_6_method_10_code, 5, none, 4, 2, 2, 0),
  (yX4_emit, prog_6_method_11_code, 4, none, 4, 1, 2, 0),
  (yX4_push, prog_6_method_12_code, 3, none, 4, 1, 1, 0),
  (yX4_pop, prog_6_method_13_code, 1, (some .long), 4, 1, 0, 0),
  (yX5_init, prog_7_method_1_code, 1, none, 5, 1, 0, 2),
  (yX5_isInstruction, prog_7_method_2_code, 2, (some .boolean), 5, 1, 2, 1),
  (yX5_put, prog_7_method_3_code, 3, (some .int), 5, 1, 2, 0),
  (yX5_clear, prog_7_method_4_code, 1, none, 5, 1, 0, 0),
  (yX5_jumpsInside, prog_7_method_5_code, 3, (some .boolean), 5, 1, 0, 0),
  (yX5_copy, prog_7_method_6_code, 2, none, 5, 1, 1, 0),
  (yX6_init, prog_8_method_1_code, 1, none, 6, 2, 0, 2),
  (yX6_make, prog_8_method_2_code, 5, none, 6, 2, 4, 0),
  (yX6_findNext, prog_8_method_3_code, 3, (some .int), 6, 2, 1, 0),
  (yX6_wants, prog_8_method_4_code, 3, (some .boolean), 6, 1, 2, 0),
  (yX6_firstVariable, prog_8_method_5_code, 2, (some .int), 6, 1, 1, 0),
  (yX6_keep, prog_8_method_6_code, 3, none, 6, 2, 2, 0),
  (yX6_countStreamsWithVariables, prog_8_method_7_code, 6, (some .int), 6, 1, 0, 0),
  (yX7_init, prog_9_method_1_code, 1, none, 7, 1, 0, 2),
  (yX7_set, prog_9_method_2_code, 4, none, 7, 1, 3, 0),
  (yX7_hideByNumber, prog_9_method_3_code, 1, none, 7, 2, 0, 0),
  (yX7_hideBelow, prog_9_method_4_code, 2, none, 7, 1, 1, 0),
  (yX7_isUsed, prog_9_method_5_code, 1, (some .boolean), 7, 1, 0, 0),
  (yX8_init, prog_1_method_1_code, 2, none, 8, 3, 0, 2),
  (yX8_draft, prog_1_method_2_code, 5, (some .int), 8, 6, 3, 0),
  (yX8_append, prog_1_method_3_code, 8, (some .int), 8, 7, 2, 0),
  (yX8_settings, prog_1_method_4_code, 5, (some .int), 8, 8, 4, 0),
  (yX8_end, prog_1_method_5_code, 3, (some .int), 8, 8, 1, 0),
  (yX8_tick, prog_1_method_6_code, 6, (some .int), 8, 7, 1, 0),
  (yX8_read, prog_1_method_7_code, 5, (some .int), 8, 7, 4, 0),
  (yX8_event, prog_1_method_8_code, 3, (some .long), 8, 7, 2, 0),
  (yX8_group, prog_1_method_9_code, 5, (some .int), 8, 7, 4, 0),
  (yX8_take, prog_1_method_10_code, 2, (some .int), 8, 7, 1, 0)]
def eMs2 : List eMT := [(yX8_acknowledge, prog_1_method_11_code, 3, (some .int), 8, 8, 2, 0),
  (yX8_refuse, prog_1_method_12_code, 3, (some .int), 8, 8, 2, 0),
  (yX8_code, prog_1_method_13_code, 3, (some .int), 8, 6, 2, 0),
  (yX8_projection, prog_1_method_14_code, 7, (some .int), 8, 7, 4, 0),
  (yX8_step, prog_1_method_15_code, 4, (some .int), 8, 8, 1, 0),
  (yX8_variable, prog_1_method_16_code, 4, (some .long), 8, 7, 3, 0),
  (yX8_scavenge, prog_1_method_17_code, 2, (some .int), 8, 7, 0, 0),
  (yX8_power, prog_1_method_18_code, 2, none, 8, 6, 1, 0),
  (yX8_reopen, prog_1_method_19_code, 1, (some .int), 8, 4, 0, 0),
  (yX8_told, prog_1_method_20_code, 2, (some .int), 8, 6, 1, 0),
  (yX8_check, prog_1_method_21_code, 1, (some .int), 8, 1, 0, 0),
  (yX8_isPlainStream, prog_1_method_22_code, 1, (some .boolean), 8, 1, 1, 1),
  (yX8_isStream, prog_1_method_23_code, 1, (some .boolean), 8, 1, 1, 1),
  (yX8_isStreamOrAll, prog_1_method_24_code, 1, (some .boolean), 8, 2, 1, 1),
  (yX8_isGroup, prog_1_method_25_code, 1, (some .boolean), 8, 1, 1, 1),
  (yX8_isProjection, prog_1_method_26_code, 1, (some .boolean), 8, 1, 1, 1),
  (yX8_isQuestion, prog_1_method_27_code, 2, (some .boolean), 8, 2, 1, 1),
  (yX8_toldOfState, prog_1_method_28_code, 3, (some .int), 8, 5, 1, 0),
  (yX8_toldOfAll, prog_1_method_29_code, 2, (some .int), 8, 4, 1, 0),
  (yX8_toldOfGroup, prog_1_method_30_code, 3, (some .int), 8, 3, 2, 0),
  (yX8_requireOn, prog_1_method_31_code, 1, none, 8, 6, 0, 0),
  (yX8_requireRoom, prog_1_method_32_code, 2, none, 8, 6, 1, 0),
  (yX8_requireNotEnded, prog_1_method_33_code, 2, none, 8, 7, 1, 0),
  (yX8_requireOut, prog_1_method_34_code, 3, none, 8, 7, 2, 0),
  (yX8_throwIfPowerFailed, prog_1_method_35_code, 1, none, 8, 6, 0, 0),
  (yX8_forgetWhatDoesNotLast, prog_1_method_36_code, 2, none, 8, 3, 0, 0),
  (yX8_passTo, prog_1_method_37_code, 3, none, 8, 4, 1, 0),
  (yX8_breakAt, prog_1_method_38_code, 3, (some .int), 8, 7, 2, 0),
  (yX8_keepWork, prog_1_method_39_code, 4, (some .int), 8, 7, 2, 0),
  (yX8_keptBytes, prog_1_method_40_code, 3, (some .int), 8, 4, 0, 0),
  (yX8_keptGroupBytes, prog_1_method_41_code, 3, (some .int), 8, 3, 1, 0),
  (yX8_keptProjectionBytes, prog_1_method_42_code, 1, (some .int), 8, 2, 1, 1),
  (yX9_init, prog_11_method_1_code, 2, none, 9, 1, 0, 2),
  (yX9_thrown, prog_11_method_2_code, 1, (some .int), 9, 1, 0, 0),
  (yX9_bad, prog_11_method_3_code, 3, (some .boolean), 9, 1, 2, 0),
  (yX9_in, prog_11_method_4_code, 3, (some .boolean), 9, 1, 3, 1),
  (yX9_off, prog_11_method_5_code, 2, none, 9, 1, 0, 0),
  (yX9_isFull, prog_11_method_6_code, 2, (some .boolean), 9, 1, 1, 0),
  (yX9_lasts, prog_11_method_7_code, 2, (some .boolean), 9, 1, 1, 0),
  (yX9_fails, prog_11_method_8_code, 2, none, 9, 2, 1, 0)]
def eMs3 : List eMT := [(yX9_hide, prog_11_method_9_code, 3, none, 9, 1, 0, 0),
  (yX9_comes, prog_11_method_10_code, 7, none, 9, 1, 4, 0),
  (yX9_draft, prog_11_method_11_code, 5, (some .int), 9, 2, 3, 0),
  (yX9_at, prog_11_method_12_code, 4, (some .int), 9, 1, 2, 0),
  (yX9_stands, prog_11_method_13_code, 6, (some .int), 9, 2, 3, 0),
  (yX9_append, prog_11_method_14_code, 8, (some .int), 9, 3, 2, 0),
  (yX9_visible, prog_11_method_15_code, 4, (some .int), 9, 1, 1, 0),
  (yX9_settings, prog_11_method_16_code, 6, (some .int), 9, 3, 4, 0),
  (yX9_end, prog_11_method_17_code, 3, (some .int), 9, 3, 1, 0),
  (yX9_tick, prog_11_method_18_code, 7, (some .int), 9, 3, 1, 0),
  (yX9_read, prog_11_method_19_code, 9, (some .int), 9, 2, 4, 0),
  (yX9_event, prog_11_method_20_code, 3, (some .long), 9, 2, 2, 0),
  (yX9_isWanted, prog_11_method_21_code, 3, (some .boolean), 9, 1, 2, 0),
  (yX9_group, prog_11_method_22_code, 7, (some .int), 9, 3, 4, 0),
  (yX9_isGroup, prog_11_method_23_code, 2, (some .boolean), 9, 2, 1, 0),
  (yX9_outs, prog_11_method_24_code, 4, (some .int), 9, 1, 1, 0),
  (yX9_take, prog_11_method_25_code, 4, (some .int), 9, 3, 1, 0),
  (yX9_isOut, prog_11_method_26_code, 3, (some .boolean), 9, 3, 2, 0),
  (yX9_acknowledge, prog_11_method_27_code, 4, (some .int), 9, 4, 2, 0),
  (yX9_refuse, prog_11_method_28_code, 4, (some .int), 9, 4, 2, 0),
  (yX9_code, prog_11_method_29_code, 3, (some .int), 9, 2, 2, 0),
  (yX9_projection, prog_11_method_30_code, 8, (some .int), 9, 3, 4, 0),
  (yX9_push, prog_11_method_31_code, 3, none, 9, 1, 1, 0),
  (yX9_pop, prog_11_method_32_code, 1, (some .long), 9, 1, 0, 0),
  (yX9_works, prog_11_method_33_code, 7, (some .boolean), 9, 3, 2, 0),
  (yX9_does, prog_11_method_34_code, 8, none, 9, 2, 3, 0),
  (yX9_step, prog_11_method_35_code, 7, (some .int), 9, 4, 1, 0),
  (yX9_variable, prog_11_method_36_code, 4, (some .long), 9, 2, 3, 0),
  (yX9_scavenge, prog_11_method_37_code, 6, (some .int), 9, 3, 0, 0),
  (yX9_power, prog_11_method_38_code, 2, none, 9, 2, 1, 0),
  (yX9_reopen, prog_11_method_39_code, 1, (some .int), 9, 2, 0, 0),
  (yX9_counted, prog_11_method_40_code, 5, (some .int), 9, 1, 2, 0),
  (yX9_told, prog_11_method_41_code, 4, (some .int), 9, 2, 1, 0),
  (yX9_check, prog_11_method_42_code, 1, (some .int), 9, 1, 0, 0),
  (yJ7_fill_d0a16, prog_22_method_101_code, 5, none, 12, 1, 2, 1),
  (yJ7_fill_53178, prog_22_method_103_code, 4, none, 12, 1, 2, 1),
  (yL_draft, method_3_code, 7, (some .int), 10, 7, 5, 3),
  (yL_append, method_4_code, 5, (some .int), 10, 8, 4, 3),
  (yL_settings, method_5_code, 7, (some .int), 10, 9, 6, 3),
  (yL_end, method_6_code, 4, (some .int), 10, 9, 3, 3)]
def eMs4 : List eMT := [(yL_tick, method_7_code, 4, (some .int), 10, 8, 3, 3),
  (yL_read, method_8_code, 7, (some .int), 10, 8, 6, 3),
  (yL_event, method_9_code, 5, (some .int), 10, 8, 4, 3),
  (yL_group, method_10_code, 7, (some .int), 10, 8, 6, 3),
  (yL_take, method_11_code, 4, (some .int), 10, 8, 3, 3),
  (yL_acknowledge, method_12_code, 5, (some .int), 10, 9, 4, 3),
  (yL_refuse, method_13_code, 5, (some .int), 10, 9, 4, 3),
  (yL_code, method_14_code, 5, (some .int), 10, 7, 4, 3),
  (yL_projection, method_15_code, 7, (some .int), 10, 8, 6, 3),
  (yL_step, method_16_code, 4, (some .int), 10, 9, 3, 3),
  (yL_variable, method_17_code, 6, (some .int), 10, 8, 5, 3),
  (yL_scavenge, method_18_code, 3, (some .int), 10, 8, 2, 3),
  (yL_power, method_19_code, 3, (some .int), 10, 7, 2, 3),
  (yL_told, method_20_code, 4, (some .int), 10, 7, 3, 3),
  (yL_law, code, 8, (some .boolean), 10, 10, 1, 4)]
def eMs : List eMT := eMs0 ++ (eMs1 ++ (eMs2 ++ (eMs3 ++ (eMs4))))
def eM (r : Nat) : eMT := (eMs[r]?).getD (yL_law, code, 8, some .boolean, 10, 1, 0, 9)
def eY (r : Nat) : MethodName := (eM r).1
def eB (r : Nat) : ByteArray := (eM r).2.1
def eL (r : Nat) : Nat := (eM r).2.2.1
def eRt (r : Nat) : Option FieldType := (eM r).2.2.2.1
def eC (r : Nat) : Nat := (eM r).2.2.2.2.1
def eDp (r : Nat) : Nat := (eM r).2.2.2.2.2.1
def eNP (r : Nat) : Nat := (eM r).2.2.2.2.2.2.1
def eKd (r : Nat) : Nat := (eM r).2.2.2.2.2.2.2
def eLF : List (Nat × Nat × Nat × Nat × Bool × Nat) := [(0, 9, 0, 0, false, 36), (8, 330, 0, 0, true, 37), (0, 20, 0, 1, false, 38), (8, 312, 0, 1, true, 39), (0, 27, 0, 2, false, 40), (8, 333, 0, 2, true, 41), (0, 15, 0, 3, false, 42), (8, 318, 0, 3, true, 43), (1, 9, 1, 0, false, 59), (2, 66, 1, 0, true, 60), (1, 13, 1, 1, false, 61), (2, 69, 1, 1, true, 62), (1, 16, 1, 2, false, 63), (2, 72, 1, 2, true, 64), (1, 20, 1, 3, false, 65), (8, 65, 1, 3, true, 66), (2, 65, 1, 3, true, 67), (5, 11, 5, 0, false, 85), (4, 73, 5, 0, true, 86), (5, 15, 5, 1, false, 87), (4, 76, 5, 1, true, 88), (4, 57, 5, 2, true, 89), (5, 20, 5, 2, false, 90), (8, 256, 5, 2, true, 91), (7, 7, 7, 0, false, 112), (2, 53, 7, 0, true, 113), (8, 342, 7, 0, true, 114), (7, 13, 7, 1, false, 115), (7, 16, 7, 2, false, 116), (2, 100, 7, 2, true, 117), (7, 19, 7, 3, false, 118), (7, 26, 7, 4, false, 119), (8, 108, 7, 4, true, 120), (7, 30, 7, 5, false, 121), (2, 42, 7, 5, true, 122), (8, 150, 7, 5, true, 123), (2, 9, 2, 0, false, 137), (4, 31, 2, 0, true, 138), (6, 57, 2, 0, true, 139), (8, 194, 2, 0, true, 140), (2, 15, 2, 1, false, 141), (4, 109, 2, 1, true, 142), (8, 198, 2, 1, true, 143), (2, 18, 2, 2, false, 144), (8, 201, 2, 2, true, 145), (2, 21, 2, 3, false, 146), (6, 61, 2, 3, true, 147), (4, 106, 2, 3, true, 148), (8, 204, 2, 3, true, 149), (2, 24, 2, 4, false, 150), (4, 103, 2, 4, true, 151), (8, 207, 2, 4, true, 152), (2, 28, 2, 5, false, 153), (8, 211, 2, 5, true, 154), (2, 33, 2, 6, false, 155), (8, 104, 2, 6, true, 156), (2, 38, 2, 7, false, 157), (6, 52, 2, 7, true, 158), (8, 120, 2, 7, true, 159), (3, 50, 2, 7, true, 160), (3, 63, 2, 8, true, 161), (8, 161, 2, 8, true, 162), (2, 94, 2, 8, false, 163), (4, 11, 4, 0, false, 189), (4, 15, 4, 1, false, 190), (6, 72, 4, 1, true, 191), (4, 18, 4, 2, false, 192), (2, 88, 4, 2, true, 193), (4, 22, 4, 3, false, 194), (2, 91, 4, 3, true, 195), (4, 47, 4, 4, false, 196), (2, 83, 4, 4, true, 197), (8, 378, 4, 4, true, 198), (4, 51, 4, 5, false, 199), (4, 54, 4, 6, false, 200), (4, 62, 4, 7, false, 201), (4, 65, 4, 8, false, 202), (8, 289, 4, 8, true, 203), (3, 9, 3, 0, false, 232), (3, 15, 3, 1, false, 233), (3, 18, 3, 2, false, 234), (3, 21, 3, 3, false, 235), (3, 47, 3, 4, false, 236), (8, 242, 3, 4, true, 237), (3, 24, 3, 5, false, 238), (8, 226, 3, 5, true, 239), (3, 28, 3, 6, false, 240), (3, 32, 3, 7, false, 241), (3, 35, 3, 8, false, 242), (6, 12, 6, 0, false, 269), (4, 25, 6, 0, true, 270), (8, 402, 6, 0, true, 271), (6, 18, 6, 1, false, 272), (4, 40, 6, 1, true, 273), (8, 299, 6, 1, true, 274), (6, 32, 6, 2, false, 275), (8, 274, 6, 2, true, 276), (6, 36, 6, 3, false, 277), (6, 40, 6, 4, false, 278), (6, 43, 6, 5, false, 279), (6, 46, 6, 6, false, 280), (8, 349, 6, 6, true, 281), (6, 49, 6, 7, false, 282), (8, 277, 6, 7, true, 283), (8, 10, 8, 0, false, 301), (8, 19, 8, 1, false, 302), (8, 26, 8, 2, false, 303), (8, 33, 8, 3, false, 304), (8, 40, 8, 4, false, 305), (8, 46, 8, 5, false, 306), (8, 52, 8, 6, false, 307), (9, 135, 9, 0, false, 968), (9, 7, 9, 1, false, 969), (9, 160, 9, 2, false, 970), (9, 144, 9, 3, false, 971), (9, 151, 9, 4, false, 972), (9, 13, 9, 5, false, 973), (9, 17, 9, 6, false, 974), (9, 21, 9, 7, false, 975), (9, 24, 9, 8, false, 976), (9, 27, 9, 9, false, 977), (9, 30, 9, 10, false, 978), (9, 34, 9, 11, false, 979), (9, 37, 9, 12, false, 980), (9, 157, 9, 13, false, 981), (9, 41, 9, 14, false, 982), (9, 44, 9, 15, false, 983), (9, 47, 9, 16, false, 984), (9, 50, 9, 17, false, 985), (9, 53, 9, 18, false, 986), (9, 56, 9, 19, false, 987), (9, 59, 9, 20, false, 988), (9, 62, 9, 21, false, 989), (9, 138, 9, 22, false, 990), (9, 65, 9, 23, false, 991), (9, 68, 9, 24, false, 992), (9, 71, 9, 25, false, 993), (9, 74, 9, 26, false, 994), (9, 77, 9, 27, false, 995), (9, 81, 9, 28, false, 996), (9, 84, 9, 29, false, 997), (9, 87, 9, 30, false, 998), (9, 90, 9, 31, false, 999), (9, 141, 9, 32, false, 1000), (9, 93, 9, 33, false, 1001), (9, 96, 9, 34, false, 1002), (9, 99, 9, 35, false, 1003), (9, 102, 9, 36, false, 1004), (9, 105, 9, 37, false, 1005), (9, 108, 9, 38, false, 1006), (9, 111, 9, 39, false, 1007), (9, 114, 9, 40, false, 1008), (9, 117, 9, 41, false, 1009), (9, 120, 9, 42, false, 1010), (9, 148, 9, 43, false, 1011), (9, 123, 9, 44, false, 1012), (9, 214, 9, 45, false, 1013), (9, 126, 9, 46, false, 1014), (9, 129, 9, 47, false, 1015), (9, 132, 9, 48, false, 1016), (9, 220, 9, 49, false, 1017), (9, 217, 9, 50, false, 1018)]
def eLM : List (Nat × Nat × Nat × Bool × Nat) := [(10, 80, 70, false, 24), (8, 9, 0, true, 32), (8, 18, 6, true, 55), (8, 25, 52, true, 81), (8, 32, 10, false, 101), (2, 37, 65, true, 108), (8, 39, 39, true, 185), (8, 56, 25, true, 228), (8, 57, 58, true, 263), (6, 11, 52, true, 268), (10, 150, 88, false, 323), (8, 321, 105, false, 327), (8, 101, 8, false, 331), (8, 273, 55, false, 335), (8, 372, 27, false, 339), (3, 38, 155, false, 343), (8, 324, 4, false, 346), (10, 157, 90, false, 350), (10, 86, 156, false, 354), (10, 7, 71, false, 359), (8, 74, 7, false, 448), (10, 95, 157, false, 452), (10, 17, 72, false, 474), (8, 78, 91, false, 478), (8, 84, 100, false, 482), (8, 89, 17, false, 488), (8, 93, 18, false, 492), (2, 49, 14, false, 496), (2, 45, 13, false, 500), (2, 56, 9, false, 504), (8, 97, 19, false, 508), (2, 61, 20, false, 512), (8, 114, 12, false, 516), (8, 117, 1, false, 520), (8, 121, 2, false, 526), (0, 23, 5, false, 530), (8, 124, 21, false, 534), (2, 75, 23, false, 538), (2, 79, 24, false, 542), (2, 97, 67, false, 546), (7, 22, 68, false, 550), (2, 103, 68, false, 560), (8, 128, 104, false, 561), (10, 99, 158, false, 568), (10, 23, 73, false, 571), (8, 131, 92, false, 575), (8, 136, 102, false, 579), (8, 140, 101, false, 584), (8, 143, 66, false, 589), (8, 147, 24, false, 593), (10, 103, 159, false, 594), (10, 27, 74, false, 597), (8, 155, 15, false, 602), (10, 107, 160, false, 606), (10, 31, 75, false, 609), (8, 164, 34, false, 614), (8, 168, 35, false, 618), (3, 74, 30, false, 622), (8, 171, 106, false, 626), (8, 375, 33, false, 630), (3, 77, 32, false, 634), (3, 66, 37, false, 638), (3, 70, 38, false, 642), (10, 110, 161, false, 646), (10, 34, 76, false, 649), (8, 174, 93, false, 653), (8, 179, 16, false, 657), (10, 114, 162, false, 661), (10, 38, 77, false, 665), (8, 183, 11, false, 669), (8, 186, 13, false, 673), (10, 117, 163, false, 691), (10, 44, 78, false, 694), (8, 216, 94, false, 698), (8, 223, 26, false, 703), (3, 44, 27, false, 707), (10, 120, 164, false, 708), (10, 47, 79, false, 711), (8, 231, 28, false, 716), (3, 55, 29, false, 720), (3, 59, 14, false, 724), (10, 123, 165, false, 725), (10, 50, 80, false, 728), (8, 235, 103, false, 732), (8, 362, 29, false, 736), (8, 239, 31, false, 738), (10, 126, 166, false, 742), (10, 53, 81, false, 745), (8, 245, 30, false, 749), (8, 248, 32, false, 750), (10, 129, 167, false, 751), (10, 56, 82, false, 754), (8, 251, 53, false, 758), (8, 259, 54, false, 763), (10, 132, 168, false, 767), (10, 59, 83, false, 770), (8, 261, 95, false, 774), (8, 264, 56, false, 777), (8, 270, 59, false, 782), (6, 22, 57, false, 786), (6, 26, 154, false, 793), (10, 135, 169, false, 796), (10, 62, 84, false, 799), (8, 282, 60, false, 805), (6, 64, 61, false, 809), (6, 68, 13, false, 813), (8, 285, 40, false, 814), (4, 36, 62, false, 818), (4, 69, 41, false, 823), (4, 79, 42, false, 827), (4, 83, 43, false, 831), (4, 87, 50, false, 835), (4, 91, 51, false, 839), (4, 95, 44, false, 843), (4, 112, 45, false, 847), (4, 99, 46, false, 851), (4, 116, 47, false, 855), (4, 119, 48, false, 859), (4, 123, 49, false, 863), (8, 290, 107, false, 867), (8, 294, 108, false, 871), (8, 383, 63, false, 876), (6, 75, 62, false, 880), (8, 387, 22, false, 882), (10, 138, 170, false, 886), (10, 65, 85, false, 889), (10, 142, 171, false, 894), (10, 69, 86, false, 897), (8, 302, 109, false, 901), (8, 391, 69, false, 905), (8, 394, 110, false, 909), (8, 352, 36, false, 913), (3, 80, 13, false, 917), (8, 398, 111, false, 918), (8, 405, 64, false, 921), (8, 309, 3, false, 927), (10, 146, 172, false, 931), (10, 73, 87, false, 934), (10, 154, 173, false, 940), (10, 77, 89, false, 943), (8, 327, 96, false, 947), (8, 336, 97, false, 950), (8, 339, 98, false, 954), (8, 345, 99, false, 958), (10, 83, 112, false, 964), (10, 92, 113, false, 1123), (10, 91, 122, false, 1127), (9, 163, 115, false, 1131), (9, 167, 114, false, 1134), (10, 98, 125, false, 1138), (9, 175, 124, false, 1142), (9, 171, 123, false, 1146), (9, 179, 117, false, 1150), (9, 183, 118, false, 1155), (9, 186, 121, false, 1159), (9, 190, 120, false, 1163), (9, 193, 119, false, 1167), (9, 154, 116, false, 1171), (10, 102, 127, false, 1175), (10, 106, 128, false, 1179), (9, 197, 126, false, 1183), (10, 109, 129, false, 1187), (10, 113, 130, false, 1191), (10, 116, 131, false, 1195), (10, 119, 133, false, 1199), (10, 122, 136, false, 1203), (9, 201, 134, false, 1207), (9, 204, 135, false, 1211), (9, 207, 132, false, 1215), (10, 125, 138, false, 1219), (9, 211, 137, false, 1223), (10, 128, 139, false, 1227), (10, 131, 140, false, 1231), (10, 134, 141, false, 1235), (10, 137, 146, false, 1239), (9, 235, 144, false, 1243), (9, 223, 143, false, 1247), (9, 227, 145, false, 1251), (9, 231, 142, false, 1255), (10, 141, 147, false, 1259), (10, 145, 148, false, 1263), (10, 149, 149, false, 1267), (10, 153, 150, false, 1272), (10, 156, 152, false, 1276), (9, 239, 151, false, 1280), (10, 160, 153, false, 1284)]
def eLC : List (Nat × Nat × Int × Nat) := [(0, 19, 100000, 524), (8, 306, 100000, 925), (8, 315, 70000, 938), (9, 147, 100000, 1154), (9, 238, 70000, 1271)]
def eLL : List (Nat × Nat × Nat × Nat) := [(10, 84, 4294967295, 1288)]
def eLN : List (Nat × Nat × Nat × Nat) := [(10, 8, 8, 22), (8, 7, 0, 30), (8, 16, 1, 53), (8, 23, 5, 79), (8, 30, 2, 99), (2, 31, 7, 105), (8, 37, 4, 183), (8, 44, 3, 223), (8, 50, 6, 225), (6, 9, 5, 267), (10, 81, 9, 962)]
def eLE : List (Nat × Nat × Nat × Nat) := [(10, 13, 0, 357), (10, 15, 1, 358), (8, 58, 0, 363), (8, 69, 1, 432), (10, 21, 2, 455), (8, 367, 2, 565), (10, 42, 3, 664), (8, 189, 3, 674)]
def eLI : List (Nat × Nat × Nat × Nat) := [(8, 62, 0, 406), (8, 73, 1, 442), (8, 371, 2, 567), (8, 193, 3, 684)]
def eLX : List (Nat × Nat × Nat × Nat) := [(7, 33, 0, 554), (7, 39, 1, 557)]
def eLO : List (Nat × Nat × Nat) := [(8, 1, 27), (0, 3, 35), (1, 1, 58), (5, 3, 84), (2, 3, 104), (7, 1, 111), (4, 3, 188), (3, 3, 231), (6, 3, 266), (9, 1, 967)]
def eLP : List (Nat × Nat × Nat) := [(5, 24, 790), (4, 41, 822), (6, 79, 881)]
def eLS : List (Nat × String × Nat) := [(60, "no such type", 405), (71, "the draft is full", 441), (82, "no such stream or version", 481), (356, "it is off", 486), (87, "the draft is empty", 487), (118, "the draft cannot be appended", 525), (369, "power failed", 566), (134, "no such stream or setting", 578), (360, "the stream is ended", 583), (358, "the disk is full", 588), (153, "no such stream", 601), (159, "no such tick", 613), (177, "no such stream or place", 656), (191, "no visible event there", 683), (214, "no such question", 690), (219, "no such group or stream", 701), (221, "no such position or retries", 702), (229, "no such group", 715), (365, "it is not out for such a group", 737), (254, "no such instruction", 761), (257, "the program is full", 762), (268, "no such projection or program", 781), (275, "no such projection", 803), (280, "the projection is broken", 804), (381, "there would be too many events", 875), (297, "no such variable", 893), (307, "the disk would be full", 926), (316, "no such byte", 939)]
def eFw (t : Nat × Nat × Nat × Nat × Bool × Nat) : Cond := if t.2.2.2.2.1 then .fieldLinkNest (eCN t.1) t.2.1 (eT t.2.2.1 t.2.2.2.1).1 (eT t.2.2.1 t.2.2.2.1).2.1 (eT t.2.2.1 t.2.2.2.1).2.2.1 "EventVault" else .fieldLink (eCN t.1) t.2.1 (eT t.2.2.1 t.2.2.2.1).1 (eT t.2.2.1 t.2.2.2.1).2.1 (eT t.2.2.1 t.2.2.2.1).2.2.1
def eMw (t : Nat × Nat × Nat × Bool × Nat) : Cond := if t.2.2.2.1 then .methodLinkNest (eCN t.1) t.2.1 (eY t.2.2.1) "EventVault" else .methodLink (eCN t.1) t.2.1 (eY t.2.2.1)
def eAt (i : Nat) (w : Cond) : Bool := decide (tables_1[i]? = some w)
theorem eAt_mem {i : Nat} {w : Cond} (h : eAt i w = true) : w ∈ lw_tbl := List.mem_append_right _ (List.mem_of_getElem? (of_decide_eq_true h))
theorem eLF_ok : (eLF.all fun t => eAt t.2.2.2.2.2 (eFw t) && decide (t.2.2.2.1 < eNF t.2.2.1) && decide (t.2.2.1 < 10)) = true := by decide +kernel
theorem eLM_ok : (eLM.all fun t => eAt t.2.2.2.2 (eMw t) && decide (t.2.2.1 < 175)) = true := by decide +kernel
theorem eLC_ok : (eLC.all fun t => eAt t.2.2.2 (.constant (eCN t.1) t.2.1 (Int32.ofInt t.2.2.1))) = true := by decide +kernel
theorem eLL_ok : (eLL.all fun t => eAt t.2.2.2 (.constantLong (eCN t.1) t.2.1 (Int64.ofNat t.2.2.1))) = true := by decide +kernel
theorem eLN_ok : (eLN.all fun t => eAt t.2.2.2 (.classLink (eCN t.1) t.2.1 (eCN t.2.2.1)) && decide (t.2.2.1 < 10)) = true := by decide +kernel
theorem eLE_ok : (eLE.all fun t => eAt t.2.2.2 (.classLink (eCN t.1) t.2.1 (eEN t.2.2.1))) = true := by decide +kernel
theorem eLI_ok : (eLI.all fun t => eAt t.2.2.2 (.methodLink (eCN t.1) t.2.1 (Bundle.initS (eEN t.2.2.1)))) = true := by decide +kernel
theorem eLX_ok : (eLX.all fun t => eAt t.2.2.2 (.methodLink (eCN t.1) t.2.1 (if t.2.2.1 = 1 then Lib.Math.max.name else Lib.Math.min.name))) = true := by decide +kernel
theorem eLO_ok : (eLO.all fun t => eAt t.2.2 (.methodLink (eCN t.1) t.2.1 objectInit)) = true := by decide +kernel
theorem eLP_ok : (eLP.all fun t => eAt t.2.2 (.methodLink (eCN t.1) t.2.1 arraycopyName)) = true := by decide +kernel
theorem eLS_ok : (eLS.all fun t => eAt t.2.2 (.stringRef RX8 t.1 t.2.1)) = true := by decide +kernel
def ePos : List (Nat × Nat × Nat × Nat) := [(34, 2, 33, 0), (523, 2, 521, 573), (529, 2, 527, 579), (930, 2, 928, 980), (349, 2, 347, 399), (533, 2, 532, 4), (57, 3, 56, 0), (451, 3, 449, 501), (334, 3, 332, 384), (507, 3, 505, 557), (103, 5, 102, 0), (672, 5, 670, 722), (519, 5, 517, 569), (503, 5, 501, 553), (499, 5, 497, 549), (605, 5, 603, 655), (660, 5, 658, 710), (491, 5, 489, 541), (495, 5, 493, 545), (511, 5, 509, 561), (515, 5, 514, 3), (537, 5, 535, 587), (885, 5, 883, 935), (541, 5, 540, 5), (545, 5, 543, 595), (230, 8, 229, 0), (706, 8, 704, 756), (342, 8, 340, 392), (719, 8, 717, 769), (723, 8, 721, 773), (625, 8, 623, 675), (741, 8, 739, 791), (637, 8, 635, 687), (633, 8, 631, 683), (617, 8, 615, 667), (621, 8, 619, 671), (916, 8, 914, 966), (641, 8, 640, 10), (645, 8, 644, 11), (187, 7, 186, 0), (817, 7, 815, 867), (826, 7, 825, 14), (830, 7, 829, 15), (834, 7, 833, 16), (846, 7, 845, 19), (850, 7, 849, 20), (854, 7, 853, 21), (858, 7, 857, 22), (862, 7, 861, 23), (866, 7, 865, 24), (838, 7, 837, 17), (842, 7, 841, 18), (83, 4, 82, 0), (760, 4, 759, 0), (766, 4, 764, 816), (338, 4, 336, 388), (780, 4, 778, 830), (789, 4, 787, 839), (265, 9, 264, 0), (785, 9, 783, 835), (808, 9, 806, 858), (812, 9, 811, 13), (821, 9, 819, 871), (879, 9, 877, 929), (924, 9, 922, 974), (110, 6, 109, 0), (592, 6, 590, 642), (549, 6, 547, 599), (553, 6, 551, 603), (908, 6, 906, 958), (26, 1, 25, 0), (362, 1, 360, 412), (477, 1, 475, 527), (574, 1, 572, 624), (600, 1, 598, 650), (612, 1, 610, 662), (652, 1, 650, 702), (668, 1, 666, 718), (697, 1, 695, 747), (714, 1, 712, 764), (731, 1, 729, 781), (748, 1, 746, 798), (757, 1, 755, 807), (773, 1, 771, 823), (802, 1, 800, 852), (892, 1, 890, 942), (900, 1, 898, 950), (937, 1, 935, 987), (326, 1, 324, 376), (946, 1, 944, 996), (353, 1, 351, 403), (480, 1, 479, 0), (577, 1, 576, 0), (655, 1, 654, 0), (700, 1, 699, 0), (776, 1, 775, 0), (949, 1, 948, 0), (953, 1, 952, 29), (957, 1, 956, 30), (961, 1, 960, 31), (485, 1, 484, 2), (587, 1, 586, 8), (582, 1, 581, 7), (735, 1, 734, 12), (564, 1, 563, 6), (330, 1, 329, 0), (629, 1, 628, 9), (870, 1, 869, 25), (874, 1, 873, 26), (904, 1, 903, 27), (912, 1, 911, 28), (920, 1, 919, 0), (966, 10, 965, 0), (1126, 10, 1124, 1176), (1137, 10, 1136, 32), (1133, 10, 1132, 0), (1174, 10, 1173, 40), (1153, 10, 1152, 35), (1158, 10, 1157, 36), (1170, 10, 1169, 39), (1166, 10, 1165, 38), (1162, 10, 1161, 37), (1130, 10, 1128, 1180), (1149, 10, 1148, 34), (1145, 10, 1144, 33), (1141, 10, 1139, 1191), (1186, 10, 1185, 41), (1178, 10, 1176, 1228), (1182, 10, 1180, 1232), (1190, 10, 1188, 1240), (1194, 10, 1192, 1244), (1198, 10, 1196, 1248), (1218, 10, 1217, 44), (1202, 10, 1200, 1252), (1210, 10, 1209, 42), (1214, 10, 1213, 43), (1206, 10, 1204, 1256), (1226, 10, 1225, 45), (1222, 10, 1220, 1272), (1230, 10, 1228, 1280), (1234, 10, 1232, 1284), (1238, 10, 1236, 1288), (1258, 10, 1257, 49), (1250, 10, 1249, 47), (1246, 10, 1245, 46), (1254, 10, 1253, 48), (1242, 10, 1240, 1292), (1262, 10, 1260, 1312), (1266, 10, 1264, 1316), (1270, 10, 1268, 1320), (1275, 10, 1273, 1325), (1283, 10, 1282, 50), (1279, 10, 1277, 1329), (1287, 10, 1285, 1337), (795, 19, 794, 0), (345, 19, 344, 0), (356, 0, 355, 0), (454, 0, 453, 0), (570, 0, 569, 0), (596, 0, 595, 0), (608, 0, 607, 0), (648, 0, 647, 0), (663, 0, 662, 0), (693, 0, 692, 0), (710, 0, 709, 0), (727, 0, 726, 0), (744, 0, 743, 0), (753, 0, 752, 0), (769, 0, 768, 0), (798, 0, 797, 0), (888, 0, 887, 0), (896, 0, 895, 0), (933, 0, 932, 0), (942, 0, 941, 0), (0, 0, 0, 0)]
def eHL (r : Nat) : List (Nat × Nat × Nat × Nat) := match r with
  | 156 => [((0), (12), (15), (13)), ((0), (12), (19), (15))]
  | 157 => [((0), (10), (13), (13)), ((0), (10), (17), (15)), ((0), (10), (21), (21))]
  | 158 => [((0), (14), (17), (13)), ((0), (14), (21), (15)), ((0), (14), (25), (21))]
  | 159 => [((0), (9), (12), (13)), ((0), (9), (15), (15)), ((0), (9), (18), (21))]
  | 160 => [((0), (9), (12), (13)), ((0), (9), (15), (15)), ((0), (9), (18), (21))]
  | 161 => [((0), (14), (17), (13)), ((0), (14), (21), (15))]
  | 162 => [((0), (9), (12), (42)), ((0), (9), (16), (13)), ((0), (9), (20), (15))]
  | 163 => [((0), (14), (17), (13)), ((0), (14), (21), (15)), ((0), (14), (25), (21))]
  | 164 => [((0), (9), (12), (42)), ((0), (9), (15), (15))]
  | 165 => [((0), (10), (13), (42)), ((0), (10), (17), (15)), ((0), (10), (21), (21))]
  | 166 => [((0), (10), (13), (42)), ((0), (10), (17), (15)), ((0), (10), (21), (21))]
  | 167 => [((0), (10), (13), (13)), ((0), (10), (17), (15))]
  | 168 => [((0), (14), (17), (13)), ((0), (14), (21), (15)), ((0), (14), (25), (21))]
  | 169 => [((0), (9), (12), (42)), ((0), (9), (15), (15)), ((0), (9), (18), (21))]
  | 170 => [((0), (11), (14), (42)), ((0), (11), (18), (13)), ((0), (11), (22), (15))]
  | 171 => [((0), (8), (11), (15)), ((0), (8), (14), (21))]
  | 172 => [((0), (5), (8), (13))]
  | 173 => [((0), (9), (12), (13))]
  | _ => []
def eCw (r : Nat) : Cond := if eKd r = 3 then .codeWith (eY r) (eB r) (eL r) (eRt r) (eHL r) else .code (eY r) (eB r) (eL r) (eRt r)
def eBq (a b : ByteArray) : Bool := decide (a.data.toList = b.data.toList)
theorem eBq_eq {a b : ByteArray} (h : eBq a b = true) : a = b := by
  have h1 : a.data.toList = b.data.toList := of_decide_eq_true h
  have h2 : a.data = b.data := Array.toList_inj.mp h1
  cases a; cases b; cases h2; rfl
/-- the code word stands at the place i (its bytes are held against one another as lists) -/
def eCat (i r : Nat) : Bool := match tables_1[i]? with
  | some (.code y b n t) => decide (y = eY r) && eBq b (eB r) && decide (n = eL r) && decide (t = eRt r) && !(eKd r == 3)
  | some (.codeWith y b n t h) => decide (y = eY r) && eBq b (eB r) && decide (n = eL r) && decide (t = eRt r) && decide (h = eHL r) && (eKd r == 3)
  | _ => false
theorem eCat_mem {i r : Nat} (h : eCat i r = true) : eCw r ∈ lw_tbl := by
  unfold eCat at h
  split at h
  · rename_i y b n t hw
    simp only [Bool.and_eq_true, decide_eq_true_eq, Bool.not_eq_true', beq_eq_false_iff_ne, ne_eq] at h
    obtain ⟨⟨⟨⟨h1, h2⟩, h3⟩, h4⟩, h5⟩ := h
    have h2 := eBq_eq h2
    subst h1 h2 h3 h4
    have e : eCw r = .code (eY r) (eB r) (eL r) (eRt r) := by unfold eCw; rw [if_neg h5]
    rw [e]
    exact List.mem_append_right _ (List.mem_of_getElem? hw)
  · rename_i y b n t hh hw
    simp only [Bool.and_eq_true, decide_eq_true_eq, beq_iff_eq] at h
    obtain ⟨⟨⟨⟨⟨h1, h2⟩, h3⟩, h4⟩, h6⟩, h5⟩ := h
    have h2 := eBq_eq h2
    subst h1 h2 h3 h4 h6
    have e : eCw r = .codeWith (eY r) (eB r) (eL r) (eRt r) (eHL r) := by unfold eCw; rw [if_pos h5]
    rw [e]
    exact List.mem_append_right _ (List.mem_of_getElem? hw)
  · cases h
def eMok (r : Nat) (p : Nat × Nat × Nat × Nat) : Bool :=
  (eKd r == 4) || (eCat p.1 r && goodWord (eCw r) && eAt p.2.1 (.initialized (eY r).cls) && decide ((eY r).cls = eCN (eC r)) && plainName (eY r).cls && decide ((eY r).cls ≠ "java/lang/invoke/MethodHandle") && decide ((eY r).cls ≠ "java/lang/invoke/VarHandle")
   && decide ((parseMethodDescriptor (eY r).desc).map (fun d => d.parameters.length) = some (eNP r))
   && (if eKd r = 0 then eAt p.2.2.1 (.instanceMethod (eY r)) && decide (lw_tbl[p.2.2.2]? = some (.selects (eY r).cls (eY r) (eY r)))
       else if eKd r = 2 then eAt p.2.2.1 (.instanceMethod (eY r)) && decide ((eY r).name = "<init>")
       else eAt p.2.2.1 (.static (eY r))))
def eMokR (r : Nat) : Bool := eMok r ((ePos[r]?).getD (0, 0, 0, 0))
theorem eM_ok0 : ((List.range 6).all fun r => eMokR (0 + r)) = true := by decide +kernel
theorem eM_ok1 : ((List.range 6).all fun r => eMokR (6 + r)) = true := by decide +kernel
theorem eM_ok2 : ((List.range 6).all fun r => eMokR (12 + r)) = true := by decide +kernel
theorem eM_ok3 : ((List.range 6).all fun r => eMokR (18 + r)) = true := by decide +kernel
theorem eM_ok4 : ((List.range 6).all fun r => eMokR (24 + r)) = true := by decide +kernel
theorem eM_ok5 : ((List.range 6).all fun r => eMokR (30 + r)) = true := by decide +kernel
theorem eM_ok6 : ((List.range 6).all fun r => eMokR (36 + r)) = true := by decide +kernel
theorem eM_ok7 : ((List.range 6).all fun r => eMokR (42 + r)) = true := by decide +kernel
theorem eM_ok8 : ((List.range 6).all fun r => eMokR (48 + r)) = true := by decide +kernel
theorem eM_ok9 : ((List.range 6).all fun r => eMokR (54 + r)) = true := by decide +kernel
theorem eM_ok10 : ((List.range 6).all fun r => eMokR (60 + r)) = true := by decide +kernel
theorem eM_ok11 : ((List.range 6).all fun r => eMokR (66 + r)) = true := by decide +kernel
theorem eM_ok12 : ((List.range 6).all fun r => eMokR (72 + r)) = true := by decide +kernel
theorem eM_ok13 : ((List.range 6).all fun r => eMokR (78 + r)) = true := by decide +kernel
theorem eM_ok14 : ((List.range 6).all fun r => eMokR (84 + r)) = true := by decide +kernel
theorem eM_ok15 : ((List.range 6).all fun r => eMokR (90 + r)) = true := by decide +kernel
theorem eM_ok16 : ((List.range 6).all fun r => eMokR (96 + r)) = true := by decide +kernel
theorem eM_ok17 : ((List.range 6).all fun r => eMokR (102 + r)) = true := by decide +kernel
theorem eM_ok18 : ((List.range 6).all fun r => eMokR (108 + r)) = true := by decide +kernel
theorem eM_ok19 : ((List.range 6).all fun r => eMokR (114 + r)) = true := by decide +kernel
theorem eM_ok20 : ((List.range 6).all fun r => eMokR (120 + r)) = true := by decide +kernel
theorem eM_ok21 : ((List.range 6).all fun r => eMokR (126 + r)) = true := by decide +kernel
theorem eM_ok22 : ((List.range 6).all fun r => eMokR (132 + r)) = true := by decide +kernel
theorem eM_ok23 : ((List.range 6).all fun r => eMokR (138 + r)) = true := by decide +kernel
theorem eM_ok24 : ((List.range 6).all fun r => eMokR (144 + r)) = true := by decide +kernel
theorem eM_ok25 : ((List.range 6).all fun r => eMokR (150 + r)) = true := by decide +kernel
theorem eM_ok26 : ((List.range 6).all fun r => eMokR (156 + r)) = true := by decide +kernel
theorem eM_ok27 : ((List.range 6).all fun r => eMokR (162 + r)) = true := by decide +kernel
theorem eM_ok28 : ((List.range 6).all fun r => eMokR (168 + r)) = true := by decide +kernel
theorem eM_ok29 : ((List.range 1).all fun r => eMokR (174 + r)) = true := by decide +kernel
theorem eM_chunk {a n : Nat} (h : ((List.range n).all fun r => eMokR (a + r)) = true) {r : Nat} (h1 : a ≤ r) (h2 : r < a + n) : eMokR r = true := by
  have h3 := List.all_eq_true.mp h (r - a) (List.mem_range.mpr (by omega))
  rwa [show a + (r - a) = r by omega] at h3
theorem eM_ok {r : Nat} (h : r < 175) : eMokR r = true := by
  by_cases c0 : r < 6
  · exact eM_chunk eM_ok0 (by omega) (by omega)
  by_cases c1 : r < 12
  · exact eM_chunk eM_ok1 (by omega) (by omega)
  by_cases c2 : r < 18
  · exact eM_chunk eM_ok2 (by omega) (by omega)
  by_cases c3 : r < 24
  · exact eM_chunk eM_ok3 (by omega) (by omega)
  by_cases c4 : r < 30
  · exact eM_chunk eM_ok4 (by omega) (by omega)
  by_cases c5 : r < 36
  · exact eM_chunk eM_ok5 (by omega) (by omega)
  by_cases c6 : r < 42
  · exact eM_chunk eM_ok6 (by omega) (by omega)
  by_cases c7 : r < 48
  · exact eM_chunk eM_ok7 (by omega) (by omega)
  by_cases c8 : r < 54
  · exact eM_chunk eM_ok8 (by omega) (by omega)
  by_cases c9 : r < 60
  · exact eM_chunk eM_ok9 (by omega) (by omega)
  by_cases c10 : r < 66
  · exact eM_chunk eM_ok10 (by omega) (by omega)
  by_cases c11 : r < 72
  · exact eM_chunk eM_ok11 (by omega) (by omega)
  by_cases c12 : r < 78
  · exact eM_chunk eM_ok12 (by omega) (by omega)
  by_cases c13 : r < 84
  · exact eM_chunk eM_ok13 (by omega) (by omega)
  by_cases c14 : r < 90
  · exact eM_chunk eM_ok14 (by omega) (by omega)
  by_cases c15 : r < 96
  · exact eM_chunk eM_ok15 (by omega) (by omega)
  by_cases c16 : r < 102
  · exact eM_chunk eM_ok16 (by omega) (by omega)
  by_cases c17 : r < 108
  · exact eM_chunk eM_ok17 (by omega) (by omega)
  by_cases c18 : r < 114
  · exact eM_chunk eM_ok18 (by omega) (by omega)
  by_cases c19 : r < 120
  · exact eM_chunk eM_ok19 (by omega) (by omega)
  by_cases c20 : r < 126
  · exact eM_chunk eM_ok20 (by omega) (by omega)
  by_cases c21 : r < 132
  · exact eM_chunk eM_ok21 (by omega) (by omega)
  by_cases c22 : r < 138
  · exact eM_chunk eM_ok22 (by omega) (by omega)
  by_cases c23 : r < 144
  · exact eM_chunk eM_ok23 (by omega) (by omega)
  by_cases c24 : r < 150
  · exact eM_chunk eM_ok24 (by omega) (by omega)
  by_cases c25 : r < 156
  · exact eM_chunk eM_ok25 (by omega) (by omega)
  by_cases c26 : r < 162
  · exact eM_chunk eM_ok26 (by omega) (by omega)
  by_cases c27 : r < 168
  · exact eM_chunk eM_ok27 (by omega) (by omega)
  by_cases c28 : r < 174
  · exact eM_chunk eM_ok28 (by omega) (by omega)
  exact eM_chunk eM_ok29 (by omega) (by omega)
/-- the words of the classes' fields -/
def eUp : List (List Nat) := [[44, 46, 48, 50], [68, 70, 72, 74], [164, 166, 168, 170, 172, 174, 176, 178, 180], [243, 245, 247, 249, 251, 253, 255, 257, 259], [204, 206, 208, 210, 212, 214, 216, 218, 220], [92, 94, 96], [284, 286, 288, 290, 292, 294, 296, 298], [124, 126, 128, 130, 132, 134], [308, 310, 312, 314, 316, 318, 320], [1019, 1021, 1023, 1025, 1027, 1029, 1031, 1033, 1035, 1037, 1039, 1041, 1043, 1045, 1047, 1049, 1051, 1053, 1055, 1057, 1059, 1061, 1063, 1065, 1067, 1069, 1071, 1073, 1075, 1077, 1079, 1081, 1083, 1085, 1087, 1089, 1091, 1093, 1095, 1097, 1099, 1101, 1103, 1105, 1107, 1109, 1111, 1113, 1115, 1117, 1119]]
theorem eU_ok : ((List.range 10).all fun c => decide (u_ws (eCN c) (eT c) (eNF c) = ((eUp[c]?).getD []).filterMap (fun i => tables_1[i]?))) = true := by decide +kernel
end
section
/-! The pure picture of a run: a store of numbered cells; what a row of instructions does to it ('wp', backwards); 'Run', the least relation closed under rows of instructions. -/
/-- ints, longs, references (0: null), kinds (an object of a class by number, or an array), how many cells there are (0 is the script), how many were thrown, how many slots were made -/
abbrev eS : Type := (Nat → Nat → Int32) × (Nat → Nat → Int64) × (Nat → Nat → Nat) × (Nat → Nat ⊕ (FieldType × Nat)) × (Nat × Nat × Nat)
abbrev sI (σ : eS) : Nat → Nat → Int32 := σ.1
abbrev sL (σ : eS) : Nat → Nat → Int64 := σ.2.1
abbrev sR (σ : eS) : Nat → Nat → Nat := σ.2.2.1
abbrev sK (σ : eS) : Nat → Nat ⊕ (FieldType × Nat) := σ.2.2.2.1
abbrev sN (σ : eS) : Nat := σ.2.2.2.2.1
abbrev sH (σ : eS) : Nat := σ.2.2.2.2.2.1
abbrev sZ (σ : eS) : Nat := σ.2.2.2.2.2.2
def u2 {α : Type} (f : Nat → Nat → α) (a i : Nat) (x : α) : Nat → Nat → α := fun b j => if b = a then (if j = i then x else f b j) else f b j
def u1 {α : Type} (f : Nat → Nat → α) (a : Nat) (g : Nat → α) : Nat → Nat → α := fun b j => if b = a then g j else f b j
abbrev setI (σ : eS) (a i : Nat) (x : Int32) : eS := (u2 (sI σ) a i x, sL σ, sR σ, sK σ, σ.2.2.2.2)
abbrev setL (σ : eS) (a i : Nat) (x : Int64) : eS := (sI σ, u2 (sL σ) a i x, sR σ, sK σ, σ.2.2.2.2)
abbrev setR (σ : eS) (a i : Nat) (x : Nat) : eS := (sI σ, sL σ, u2 (sR σ) a i x, sK σ, σ.2.2.2.2)
abbrev newK (σ : eS) (kd : Nat ⊕ (FieldType × Nat)) (z : Nat) : eS := (u1 (sI σ) (sN σ) (fun _ => 0), u1 (sL σ) (sN σ) (fun _ => 0), u1 (sR σ) (sN σ) (fun _ => 0), (fun b => if b = sN σ then kd else sK σ b), (sN σ + 1, sH σ, sZ σ + z))
abbrev thrS (σ : eS) : eS := (sI σ, sL σ, sR σ, sK σ, (sN σ, sH σ + 1, sZ σ + 6))
abbrev cpyI (σ : eS) (a0 a sp dp n : Nat) : eS := (u1 (sI σ) a (va_cpy (sI σ a0) (sI σ a) sp dp n), sL σ, sR σ, sK σ, σ.2.2.2.2)
abbrev cpyL (σ : eS) (a0 a sp dp n : Nat) : eS := (sI σ, u1 (sL σ) a (va_cpy (sL σ a0) (sL σ a) sp dp n), sR σ, sK σ, σ.2.2.2.2)
def isO (σ : eS) (a ci : Nat) : Prop := 0 < a ∧ a < sN σ ∧ sK σ a = .inl ci
def isA (σ : eS) (a : Nat) (ty : FieldType) (n : Nat) : Prop := a < sN σ ∧ sK σ a = .inr (ty, n)
/-- the receiver of a call is there -/
def recvOk (q : Nat) (as : List Value) (σ : eS) : Prop := match eKd q with
  | 0 => (match as with | .ref b :: _ => isO σ b (eC q) | _ => False)
  | 2 => (match as with | .ref b :: _ => isO σ b (eC q) | _ => False)
  | _ => True
def retI (rt : Option FieldType) (x : Int32) (A : Prop) : Prop := match rt with | some ty => narrow ty (.int x) = .int x ∧ A | none => False
abbrev eLs : Type := List (Nat × Value)
def lk (ls : eLs) (i : Nat) : Option Value := match ls with
  | [] => none
  | q :: r => if q.1 = i then some q.2 else lk r i
abbrev fl1 (ls : eLs) (i : Nat) : eLs := ls.filter (fun q => !(q.1 == i) && !(q.1 + 1 == i && q.2.category == 2))
abbrev fl2 (ls : eLs) (i : Nat) : eLs := ls.filter (fun q => !(q.1 == i) && (!(q.1 == i + 1) && !(q.1 + 1 == i && q.2.category == 2)))
def okI (ty : FieldType) (x : Int32) : Prop := narrow ty (.int x) = .int x ∧ fits ty (.int x) = true
def stw (st : List Value) : Nat := (st.map fun v => v.category).sum
abbrev eO : Type := Option Value ⊕ Nat
abbrev eD : Type := Nat → List Value → eS → eO → eS → Prop
abbrev jmp (pc : Nat) (off : Int) : Nat := ((pc : Int) + off).toNat
/-- where a switch goes -/
def swT (dflt lo hi : Int) (offs : Array Int) (x : Int32) : Option Int := if x.toInt < lo ∨ hi < x.toInt then some dflt else offs[(x.toInt - lo).toNat]?
section
variable (D : eD) (rt : Option FieldType) (Rt : Option Value → eS → Prop) (Th : Nat → Nat → eLs → eS → Prop) (Q : Nat → eLs → List Value → eS → Prop)
def wp1 (op : Instr) (pc : Nat) (ls : eLs) (st : List Value) (σ : eS) (k : eLs → List Value → eS → Prop) : Prop :=
  match op with
  | .aload_n n => match lk ls n with | some (.ref a) => k ls (.ref a :: st) σ | _ => False
  | .aload n => match lk ls n with | some (.ref a) => k ls (.ref a :: st) σ | _ => False
  | .iload_n n => match lk ls n with | some (.int x) => k ls (.int x :: st) σ | _ => False
  | .iload n => match lk ls n with | some (.int x) => k ls (.int x :: st) σ | _ => False
  | .lload_n n => match lk ls n with | some (.long x) => k ls (.long x :: st) σ | _ => False
  | .lload n => match lk ls n with | some (.long x) => k ls (.long x :: st) σ | _ => False
  | .iconst v => k ls (.int (Int32.ofInt v) :: st) σ
  | .lconst v => k ls (.long (Int64.ofNat v) :: st) σ
  | .ldc2_w v => k ls (.long (Int64.ofNat v) :: st) σ
  | .istore_n i => match st with | .int x :: r => k ((i, .int x) :: fl1 ls i) r σ | _ => False
  | .istore i => match st with | .int x :: r => k ((i, .int x) :: fl1 ls i) r σ | _ => False
  | .astore_n i => match st with | .ref x :: r => k ((i, .ref x) :: fl1 ls i) r σ | _ => False
  | .astore i => match st with | .ref x :: r => k ((i, .ref x) :: fl1 ls i) r σ | _ => False
  | .lstore_n i => match st with | .long x :: r => k ((i, .long x) :: fl2 ls i) r σ | _ => False
  | .lstore i => match st with | .long x :: r => k ((i, .long x) :: fl2 ls i) r σ | _ => False
  | .iinc i n => match lk ls i with | some (.int x) => k ((i, .int (x + Int32.ofInt n)) :: fl1 ls i) st σ | _ => False
  | .iadd => match st with | .int y :: .int x :: r => k ls (.int (x + y) :: r) σ | _ => False
  | .isub => match st with | .int y :: .int x :: r => k ls (.int (x - y) :: r) σ | _ => False
  | .imul => match st with | .int y :: .int x :: r => k ls (.int (x * y) :: r) σ | _ => False
  | .idiv => match st with | .int y :: .int x :: r => ¬ y = 0 ∧ k ls (.int (x / y) :: r) σ | _ => False
  | .irem => match st with | .int y :: .int x :: r => ¬ y = 0 ∧ k ls (.int (x - x / y * y) :: r) σ | _ => False
  | .iand => match st with | .int y :: .int x :: r => k ls (.int (x &&& y) :: r) σ | _ => False
  | .ishr => match st with | .int y :: .int x :: r => k ls (.int (x >>> (y &&& 31)) :: r) σ | _ => False
  | .iushr => match st with | .int y :: .int x :: r => k ls (.int (x.toUInt32 >>> (y.toUInt32 &&& Int32.toUInt32 31)).toInt32 :: r) σ | _ => False
  | .i2l => match st with | .int x :: r => k ls (.long x.toInt64 :: r) σ | _ => False
  | .ladd => match st with | .long y :: .long x :: r => k ls (.long (x + y) :: r) σ | _ => False
  | .lsub => match st with | .long y :: .long x :: r => k ls (.long (x - y) :: r) σ | _ => False
  | .lmul => match st with | .long y :: .long x :: r => k ls (.long (x * y) :: r) σ | _ => False
  | .ldiv => match st with | .long y :: .long x :: r => ¬ y = 0 ∧ k ls (.long (x / y) :: r) σ | _ => False
  | .land => match st with | .long y :: .long x :: r => k ls (.long (x &&& y) :: r) σ | _ => False
  | .lor => match st with | .long y :: .long x :: r => k ls (.long (x ||| y) :: r) σ | _ => False
  | .lshl => match st with | .int y :: .long x :: r => k ls (.long (x <<< (y.toInt64 &&& 63)) :: r) σ | _ => False
  | .lcmp => match st with | .long y :: .long x :: r => k ls (.int (lg_cmp x y) :: r) σ | _ => False
  | .dup => match st with | v :: r => v.category = 1 ∧ k ls (v :: v :: r) σ | _ => False
  | .dup2 => match st with | v :: w :: r => v.category = 1 ∧ w.category = 1 ∧ k ls (v :: w :: v :: w :: r) σ | _ => False
  | .pop2 => match st with | .long _ :: r => k ls r σ | _ => False
  | .goto off => Q (jmp pc off) ls st σ
  | .ifCond c off => match st with
    | .int x :: r => (match c with
      | .eq => (x = 0 → Q (jmp pc off) ls r σ) ∧ (¬ x = 0 → k ls r σ)
      | .ne => (¬ x = 0 → Q (jmp pc off) ls r σ) ∧ (x = 0 → k ls r σ)
      | .lt => (x < 0 → Q (jmp pc off) ls r σ) ∧ (¬ x < 0 → k ls r σ)
      | .ge => (0 ≤ x → Q (jmp pc off) ls r σ) ∧ (¬ 0 ≤ x → k ls r σ)
      | .gt => (0 < x → Q (jmp pc off) ls r σ) ∧ (¬ 0 < x → k ls r σ)
      | .le => (x ≤ 0 → Q (jmp pc off) ls r σ) ∧ (¬ x ≤ 0 → k ls r σ))
    | _ => False
  | .if_icmp c off => match st with
    | .int y :: .int x :: r => (match c with
      | .eq => (x = y → Q (jmp pc off) ls r σ) ∧ (¬ x = y → k ls r σ)
      | .ne => (¬ x = y → Q (jmp pc off) ls r σ) ∧ (x = y → k ls r σ)
      | .lt => (x < y → Q (jmp pc off) ls r σ) ∧ (¬ x < y → k ls r σ)
      | .ge => (y ≤ x → Q (jmp pc off) ls r σ) ∧ (¬ y ≤ x → k ls r σ)
      | .gt => (y < x → Q (jmp pc off) ls r σ) ∧ (¬ y < x → k ls r σ)
      | .le => (x ≤ y → Q (jmp pc off) ls r σ) ∧ (¬ x ≤ y → k ls r σ))
    | _ => False
  | .tableswitch dflt lo hi offs => match st with
    | .int x :: r => ∃ off, swT dflt lo hi offs x = some off ∧ 0 ≤ (pc : Int) + off ∧ Q (jmp pc off) ls r σ
    | _ => False
  | .lookupswitch dflt ps => match st with
    | .int x :: r => 0 ≤ (pc : Int) + Op.lookupswitch.offset ps.toList dflt x.toInt ∧ Q (jmp pc (Op.lookupswitch.offset ps.toList dflt x.toInt)) ls r σ
    | _ => False
  | .getfield f => match st with
    | .ref a :: r => isO σ a (f / 64) ∧ (match eRf (f / 64) (f % 64) with
      | true => ¬ sR σ a (f % 64) = 0 ∧ k ls (.ref (sR σ a (f % 64)) :: r) σ
      | false => k ls (.int (sI σ a (f % 64)) :: r) σ)
    | _ => False
  | .putfield f => match st with
    | v :: .ref a :: r => isO σ a (f / 64) ∧ (match eRf (f / 64) (f % 64) with
      | true => (match v with | .ref b => 0 < b ∧ k ls r (setR σ a (f % 64) b) | _ => False)
      | false => (match v with | .int x => okI (eTy (f / 64) (f % 64)) x ∧ k ls r (setI σ a (f % 64) x) | _ => False))
    | _ => False
  | .iaload => match st with
    | .int i :: .ref a :: r => ∃ n, isA σ a .int n ∧ vp_in i n ∧ k ls (.int (sI σ a i.toNatClampNeg) :: r) σ
    | _ => False
  | .baload => match st with
    | .int i :: .ref a :: r => ∃ ty n, (ty = .boolean ∨ ty = .byte) ∧ 0 < a ∧ isA σ a ty n ∧ vp_in i n ∧ k ls (.int (sI σ a i.toNatClampNeg) :: r) σ
    | _ => False
  | .laload => match st with
    | .int i :: .ref a :: r => ∃ n, 0 < a ∧ isA σ a .long n ∧ vp_in i n ∧ k ls (.long (sL σ a i.toNatClampNeg) :: r) σ
    | _ => False
  | .aaload => match st with
    | .int i :: .ref a :: r => ∃ C n, 0 < a ∧ isA σ a (.object C) n ∧ vp_in i n ∧ ¬ sR σ a i.toNatClampNeg = 0 ∧ k ls (.ref (sR σ a i.toNatClampNeg) :: r) σ
    | _ => False
  | .iastore => match st with
    | .int x :: .int i :: .ref a :: r => ∃ n, 0 < a ∧ isA σ a .int n ∧ vp_in i n ∧ k ls r (setI σ a i.toNatClampNeg x)
    | _ => False
  | .bastore => match st with
    | .int x :: .int i :: .ref a :: r => ∃ ty n, (ty = .boolean ∨ ty = .byte) ∧ 0 < a ∧ isA σ a ty n ∧ vp_in i n ∧ k ls r (setI σ a i.toNatClampNeg (vp_nar ty x))
    | _ => False
  | .lastore => match st with
    | .long x :: .int i :: .ref a :: r => ∃ n, 0 < a ∧ isA σ a .long n ∧ vp_in i n ∧ k ls r (setL σ a i.toNatClampNeg x)
    | _ => False
  | .aastore => match st with
    | .ref v :: .int i :: .ref a :: r => ∃ ci n, ci < 10 ∧ 0 < a ∧ isA σ a (.object (eCN ci)) n ∧ vp_in i n ∧ isO σ v ci ∧ k ls r (setR σ a i.toNatClampNeg v)
    | _ => False
  | .arraylength => match st with
    | .ref a :: r => ∃ ty n, isA σ a ty n ∧ k ls (.int (Int32.ofNat n) :: r) σ
    | _ => False
  | .new c => sH σ = 0 ∧ k ls (.ref (sN σ) :: st) (newK σ (.inl c) (eNF c))
  | .newarray t => match st with
    | .int n :: r => sH σ = 0 ∧ ¬ n < 0 ∧ n.toNatClampNeg ≤ 100000 ∧ k ls (.ref (sN σ) :: r) (newK σ (.inr (newarray.typeOf t, n.toNatClampNeg)) n.toNatClampNeg)
    | _ => False
  | .anewarray c => match st with
    | .int n :: r => sH σ = 0 ∧ ¬ n < 0 ∧ n.toNatClampNeg ≤ 100000 ∧ k ls (.ref (sN σ) :: r) (newK σ (.inr (.object (eCN c), n.toNatClampNeg)) n.toNatClampNeg)
    | _ => False
  | .dadd => match st with | .int y :: .int x :: r => stw r ≤ 8 ∧ k ls (.int (if x < y then y else x) :: r) σ | _ => False
  | .dsub => match st with | .int y :: .int x :: r => stw r ≤ 8 ∧ k ls (.int (if y < x then y else x) :: r) σ | _ => False
  | .monitorenter => match st with | .ref _ :: r => stw r ≤ 8 ∧ k ls r σ | _ => False
  | .monitorexit => match st with
    | .int n :: .int dp :: .ref a :: .int sp :: .ref a0 :: r => stw r ≤ 8 ∧ ¬ sp < 0 ∧ ¬ dp < 0 ∧ ¬ n < 0 ∧ 0 < a0 ∧ 0 < a ∧
      ((∃ n0 n1, isA σ a0 .int n0 ∧ isA σ a .int n1 ∧ sp.toNatClampNeg + n.toNatClampNeg ≤ n0 ∧ dp.toNatClampNeg + n.toNatClampNeg ≤ n1 ∧ k ls r (cpyI σ a0 a sp.toNatClampNeg dp.toNatClampNeg n.toNatClampNeg)) ∨
       (∃ n0 n1, isA σ a0 .long n0 ∧ isA σ a .long n1 ∧ sp.toNatClampNeg + n.toNatClampNeg ≤ n0 ∧ dp.toNatClampNeg + n.toNatClampNeg ≤ n1 ∧ k ls r (cpyL σ a0 a sp.toNatClampNeg dp.toNatClampNeg n.toNatClampNeg)))
    | _ => False
  | .invokeinterface q n => n ≤ st.length ∧ stw (st.take n).reverse ≤ eL q ∧ stw (st.drop n) ≤ 8 ∧
      recvOk q (st.take n).reverse σ ∧
      ((∃ v σ1, D q (st.take n).reverse σ (.inl v) σ1 ∧ k ls (v.toList ++ st.drop n) σ1) ∨ (∃ e σ1, ¬ eKd q = 3 ∧ D q (st.take n).reverse σ (.inr e) σ1 ∧ Th e pc ls σ1))
  | .checkcast e => stw st ≤ 8 ∧ Th e pc ls (thrS σ)
  | .ireturn => match st with | [.int x] => retI rt x (Rt (some (.int x)) σ) | _ => False
  | .lreturn => match st with | [.long x] => rt = some .long ∧ Rt (some (.long x)) σ | _ => False
  | .return_ => match st with | [] => rt = none ∧ Rt none σ | _ => False
  | _ => False
/-- a row of instructions (with their lengths) from pc on; past the last one, the exit Q -/
def wp : List (Instr × Nat) → Nat → eLs → List Value → eS → Prop
  | [], pc, ls, st, σ => Q pc ls st σ
  | (op, len) :: r, pc, ls, st, σ => wp1 D rt Rt Th Q op pc ls st σ (fun ls st σ => wp r (pc + len) ls st σ)
end
end
section
/-! What a row of instructions must be among the bytes ('chk'), and 'Run'. -/
def lkF (own i c : Nat) : Bool := eLF.any fun t => t.1 == own && t.2.1 == i && (64 * t.2.2.1 + t.2.2.2.1 == c)
def lkG (μ i c : Nat) : Bool := eLF.any fun t => t.1 == eC μ && t.2.1 == i && (64 * t.2.2.1 + t.2.2.2.1 == c) && (!(eT t.2.2.1 t.2.2.2.1).2.2.2 || (!t.2.2.2.2.1 && eKd μ == 2 && decide ((eT t.2.2.1 t.2.2.2.1).1 = eCN (eC μ))))
def lkM (own i q : Nat) : Bool := eLM.any fun t => t.1 == own && t.2.1 == i && t.2.2.1 == q
def lkC (own i : Nat) (v : Int) : Bool := eLC.any fun t => t.1 == own && t.2.1 == i && t.2.2.1 == v
def lkL (own i v : Nat) : Bool := eLL.any fun t => t.1 == own && t.2.1 == i && t.2.2.1 == v
def lkN (own i c : Nat) : Bool := eLN.any fun t => t.1 == own && t.2.1 == i && t.2.2.1 == c
def lkE (own i e : Nat) : Bool := eLE.any fun t => t.1 == own && t.2.1 == i && t.2.2.1 == e
def lkI (own i e : Nat) : Bool := eLI.any fun t => t.1 == own && t.2.1 == i && t.2.2.1 == e
def lkX (own i e : Nat) : Bool := eLX.any fun t => t.1 == own && t.2.1 == i && t.2.2.1 == e
def lkO (own i : Nat) : Bool := eLO.any fun t => t.1 == own && t.2.1 == i
def lkP (own i : Nat) : Bool := eLP.any fun t => t.1 == own && t.2.1 == i
def lkS (i : Nat) : Bool := eLS.any fun t => t.1 == i
def okj (pc : Nat) (off : Int) : Bool := decide (0 ≤ (pc : Int) + off)
def il (op : Instr) : Nat := match op with
  | .aload _ => 2 | .iload _ => 2 | .lload _ => 2 | .istore _ => 2 | .astore _ => 2 | .lstore _ => 2 | .iinc _ _ => 3 | _ => 1
def iok (μ : Nat) (op : Instr) : Bool := match op with
  | .istore i => decide (i < eL μ) | .istore_n i => decide ((i : Nat) < eL μ) | .astore i => decide (i < eL μ) | .astore_n i => decide ((i : Nat) < eL μ)
  | .lstore i => decide (i + 1 < eL μ) | .lstore_n i => decide ((i : Nat) + 1 < eL μ) | .iinc i _ => decide (i < eL μ) | _ => true
def rel (μ pc : Nat) (op raw : Instr) (len : Nat) : Bool :=
  match op with
  | .getfield f => len == 3 && (match raw with | .getfield i => lkF (eC μ) i f | _ => false)
  | .putfield f => len == 3 && (match raw with | .putfield i => lkG μ i f | _ => false)
  | .invokeinterface q n => len == 3 && decide (q < 174) && decide (eDp q < eDp μ) && (match raw with
    | .invokevirtual i => lkM (eC μ) i q && eKd q == 0 && n == eNP q + 1
    | .invokestatic i => lkM (eC μ) i q && (eKd q == 1 || eKd q == 3) && n == eNP q
    | .invokespecial i => lkM (eC μ) i q && eKd q == 2 && n == eNP q + 1
    | _ => false)
  | .iconst v => (match raw with
    | .iconst w => w == v && len == 1
    | .bipush w => decide ((Int8.ofInt w).toInt32 = Int32.ofInt v) && len == 2
    | .sipush w => decide ((Int16.ofInt w).toInt32 = Int32.ofInt v) && len == 3
    | .ldc i => lkC (eC μ) i v && len == 2
    | .ldc_w i => lkC (eC μ) i v && len == 3
    | _ => false)
  | .ldc2_w v => len == 3 && (match raw with | .ldc2_w i => lkL (eC μ) i v | _ => false)
  | .new c => len == 3 && (match raw with | .new i => lkN (eC μ) i c | _ => false)
  | .anewarray c => len == 3 && (match raw with | .anewarray i => lkN (eC μ) i c && (c == 3 || c == 6 || c == 7) | _ => false)
  | .newarray t => len == 2 && decide (raw = .newarray t) && (match t with | .int => true | .long => true | .byte => true | .boolean => true | _ => false)
  | .monitorenter => len == 3 && (match raw with | .invokespecial i => lkO (eC μ) i | _ => false)
  | .monitorexit => len == 3 && (match raw with | .invokestatic i => lkP (eC μ) i | _ => false)
  | .dadd => len == 3 && (match raw with | .invokestatic i => lkX (eC μ) i 1 | _ => false)
  | .dsub => len == 3 && (match raw with | .invokestatic i => lkX (eC μ) i 0 | _ => false)
  | .checkcast _ => false
  | .goto off => len == 3 && decide (raw = op) && okj pc off
  | .ifCond _ off => len == 3 && decide (raw = op) && okj pc off
  | .if_icmp _ off => len == 3 && decide (raw = op) && okj pc off
  | .tableswitch _ _ _ _ => decide (raw = op)
  | .lookupswitch _ ps => decide (raw = op) && (ps.toList.zip (ps.toList.drop 1)).all (fun (a, next) => a.1 < next.1)
  | op => decide (raw = op) && len == il op && iok μ op
def chk1 (μ pc : Nat) (op : Instr) (len : Nat) : Bool :=
  match op with
  | .checkcast e => decide (e < 4) && eC μ == 8 && !(eKd μ == 3) && !(eKd μ == 4) && decide (6 ≤ eDp μ) && (match decode (eB μ) pc, decode (eB μ) (pc + 3), decode (eB μ) (pc + 4) with
    | .ok (.new ik, 3), .ok (.dup, 1), .ok (.ldc is, 2) => lkE 8 ik e && lkS is && (match decode (eB μ) (pc + 6), decode (eB μ) (pc + 9) with | .ok (.invokespecial ic, 3), .ok (.athrow, 1) => lkI 8 ic e | _, _ => false)
    | .ok (.new ik, 3), .ok (.dup, 1), .ok (.ldc_w is, 3) => lkE 8 ik e && lkS is && (match decode (eB μ) (pc + 7), decode (eB μ) (pc + 10) with | .ok (.invokespecial ic, 3), .ok (.athrow, 1) => lkI 8 ic e | _, _ => false)
    | _, _, _ => false)
  | op => (match decode (eB μ) pc with
    | .ok (raw, n) => rel μ pc op raw len && n == len
    | _ => false)
def chk (μ : Nat) : Nat → List (Instr × Nat) → Bool
  | _, [] => true
  | pc, (op, len) :: r => chk1 μ pc op len && chk μ (pc + len) r
/-- the handler j of a method takes e thrown at pc: its first instruction stores it into the place k -/
def hOk (μ e pc j h k len : Nat) : Bool := (match (eHL μ)[j]? with
  | some x => decide (x.1 ≤ pc) && decide (pc < x.2.1) && x.2.2.1 == h && lkE 10 x.2.2.2 e && !(x.2.2.2 == 0) && ((eHL μ).take j).all (fun y => !(y.2.2.2 == 0) && (List.range 4).any (fun e' => !(e' == e) && lkE 10 y.2.2.2 e'))
  | none => false) && (match decode (eB μ) h with | .ok (.astore_n i, 1) => (i : Nat) == k && len == 1 | .ok (.astore i, 2) => i == k && len == 2 | _ => false) && decide (k < eL μ) && decide (e < 4) && eC μ == 10
/-- two stores that show the same cells -/
def eAg (σ σ' : eS) : Prop := sN σ' = sN σ ∧ sH σ' = sH σ ∧ sZ σ' = sZ σ ∧ sK σ' 0 = sK σ 0 ∧ (∀ j, sI σ' 0 j = sI σ 0 j) ∧ ∀ a, 0 < a → a < sN σ → sK σ' a = sK σ a ∧
  (∀ c, sK σ a = .inl c → ∀ i, i < eNF c → sI σ' a i = sI σ a i ∧ sR σ' a i = sR σ a i) ∧ (∀ ty n, sK σ a = .inr (ty, n) → ∀ i, i < n → sI σ' a i = sI σ a i ∧ sL σ' a i = sL σ a i ∧ sR σ' a i = sR σ a i)
abbrev eP : Type := Nat → Nat → eLs → List Value → eS → eO → eS → Prop
def eDen (P : eP) : eD := fun q args σ o σ1 => P q 0 (lv_args 0 args) [] σ o σ1
def eTh (P : eP) (μ : Nat) (o : eO) (σo : eS) : Nat → Nat → eLs → eS → Prop := fun e pc ls σ =>
  (¬ eKd μ = 3 ∧ ¬ eKd μ = 4 ∧ o = .inr e ∧ σo = σ) ∨ (eKd μ = 3 ∧ ∃ j h k len, hOk μ e pc j h k len = true ∧ P μ (h + len) (fl1 ls k) [] σ o σo)
def eClosed (P : eP) : Prop :=
  (∀ μ pc ops ls st σ o σo, chk μ pc ops = true → wp (eDen P) (eRt μ) (fun v σ1 => o = .inl v ∧ σo = σ1) (eTh P μ o σo) (fun pc ls st σ1 => P μ pc ls st σ1 o σo) ops pc ls st σ → P μ pc ls st σ o σo) ∧
  (∀ μ pc ls ls' st σ o σo, (∀ q ∈ ls', q ∈ ls) → P μ pc ls' st σ o σo → P μ pc ls st σ o σo) ∧
  (∀ μ pc ls st σ σ' o σo, eAg σ σ' → P μ pc ls st σ' o σo → P μ pc ls st σ o σo)
def Run : eP := fun μ pc ls st σ o σo => ∀ P : eP, eClosed P → P μ pc ls st σ o σo
abbrev Den : eD := eDen Run
theorem wp1_mono {D D' : eD} {rt : Option FieldType} {Rt Rt' : Option Value → eS → Prop} {Th Th' : Nat → Nat → eLs → eS → Prop} {Q Q' : Nat → eLs → List Value → eS → Prop}
    (hD : ∀ q a σ o σ1, D q a σ o σ1 → D' q a σ o σ1) (hR : ∀ v σ, Rt v σ → Rt' v σ) (hT : ∀ e pc ls σ, Th e pc ls σ → Th' e pc ls σ) (hQ : ∀ pc ls st σ, Q pc ls st σ → Q' pc ls st σ)
    {op : Instr} {pc : Nat} {ls : eLs} {st : List Value} {σ : eS} {k k' : eLs → List Value → eS → Prop} (hk : ∀ ls st σ, k ls st σ → k' ls st σ) (h : wp1 D rt Rt Th Q op pc ls st σ k) : wp1 D' rt Rt' Th' Q' op pc ls st σ k' := by
  cases op <;> simp only [wp1] at h ⊢ <;> try exact h.elim
  case ifCond c off =>
    split at h
    · cases c <;> exact ⟨fun a => hQ _ _ _ _ (h.1 a), fun a => hk _ _ _ (h.2 a)⟩
    · exact h.elim
  case if_icmp c off =>
    split at h
    · cases c <;> exact ⟨fun a => hQ _ _ _ _ (h.1 a), fun a => hk _ _ _ (h.2 a)⟩
    · exact h.elim
  case tableswitch d lo hi offs =>
    split at h
    · obtain ⟨off, h1, h2, h3⟩ := h
      exact ⟨off, h1, h2, hQ _ _ _ _ h3⟩
    · exact h.elim
  case lookupswitch d ps =>
    split at h
    · exact ⟨h.1, hQ _ _ _ _ h.2⟩
    · exact h.elim
  case getfield f =>
    split at h
    · obtain ⟨h1, h2⟩ := h
      refine ⟨h1, ?_⟩
      cases hr : eRf (f / 64) (f % 64) with
      | true => rw [hr] at h2; exact ⟨h2.1, hk _ _ _ h2.2⟩
      | false => rw [hr] at h2; exact hk _ _ _ h2
    · exact h.elim
  case putfield f =>
    split at h
    · obtain ⟨h1, h2⟩ := h
      refine ⟨h1, ?_⟩
      cases hr : eRf (f / 64) (f % 64) with
      | true =>
        rw [hr] at h2
        dsimp only at h2 ⊢
        split at h2
        · exact ⟨h2.1, hk _ _ _ h2.2⟩
        · exact h2.elim
      | false =>
        rw [hr] at h2
        dsimp only at h2 ⊢
        split at h2
        · exact ⟨h2.1, hk _ _ _ h2.2⟩
        · exact h2.elim
    · exact h.elim
  case iaload => split at h <;> first | exact h.elim | (obtain ⟨n, h1, h2, h3⟩ := h; exact ⟨n, h1, h2, hk _ _ _ h3⟩)
  case baload => split at h <;> first | exact h.elim | (obtain ⟨ty, n, h1, h2, h3, h4, h5⟩ := h; exact ⟨ty, n, h1, h2, h3, h4, hk _ _ _ h5⟩)
  case laload => split at h <;> first | exact h.elim | (obtain ⟨n, h1, h2, h3, h4⟩ := h; exact ⟨n, h1, h2, h3, hk _ _ _ h4⟩)
  case aaload => split at h <;> first | exact h.elim | (obtain ⟨C, n, h1, h2, h3, h4, h5⟩ := h; exact ⟨C, n, h1, h2, h3, h4, hk _ _ _ h5⟩)
  case iastore => split at h <;> first | exact h.elim | (obtain ⟨n, h1, h2, h3, h4⟩ := h; exact ⟨n, h1, h2, h3, hk _ _ _ h4⟩)
  case bastore => split at h <;> first | exact h.elim | (obtain ⟨ty, n, h1, h2, h3, h4, h5⟩ := h; exact ⟨ty, n, h1, h2, h3, h4, hk _ _ _ h5⟩)
  case lastore => split at h <;> first | exact h.elim | (obtain ⟨n, h1, h2, h3, h4⟩ := h; exact ⟨n, h1, h2, h3, hk _ _ _ h4⟩)
  case aastore => split at h <;> first | exact h.elim | (obtain ⟨ci, n, h1, h2, h3, h4, h5, h6⟩ := h; exact ⟨ci, n, h1, h2, h3, h4, h5, hk _ _ _ h6⟩)
  case arraylength => split at h <;> first | exact h.elim | (obtain ⟨ty, n, h1, h2⟩ := h; exact ⟨ty, n, h1, hk _ _ _ h2⟩)
  case monitorexit =>
    split at h
    · obtain ⟨h1, h2, h3, h4, h5, h6, h7⟩ := h
      refine ⟨h1, h2, h3, h4, h5, h6, ?_⟩
      rcases h7 with ⟨n0, n1, a1, a2, a3, a4, a5⟩ | ⟨n0, n1, a1, a2, a3, a4, a5⟩
      · exact Or.inl ⟨n0, n1, a1, a2, a3, a4, hk _ _ _ a5⟩
      · exact Or.inr ⟨n0, n1, a1, a2, a3, a4, hk _ _ _ a5⟩
    · exact h.elim
  case invokeinterface q n =>
    obtain ⟨h1, h0, h2, h3, h4⟩ := h
    refine ⟨h1, h0, h2, h3, ?_⟩
    rcases h4 with ⟨v, σ1, a1, a2⟩ | ⟨e, σ1, a0, a1, a2⟩
    · exact Or.inl ⟨v, σ1, hD _ _ _ _ _ a1, hk _ _ _ a2⟩
    · exact Or.inr ⟨e, σ1, a0, hD _ _ _ _ _ a1, hT _ _ _ _ a2⟩
  case ireturn =>
    split at h
    · unfold retI at h ⊢
      split at h
      · exact ⟨h.1, hR _ _ h.2⟩
      · exact h.elim
    · exact h.elim
  case lreturn => split at h <;> first | exact h.elim | exact ⟨h.1, hR _ _ h.2⟩
  case return_ => split at h <;> first | exact h.elim | exact ⟨h.1, hR _ _ h.2⟩
  all_goals first
    | exact hk _ _ _ h
    | exact hQ _ _ _ _ h
    | exact ⟨h.1, hk _ _ _ h.2⟩
    | exact ⟨h.1, hT _ _ _ _ h.2⟩
    | (split at h <;> first | exact h.elim | exact hk _ _ _ h | exact ⟨h.1, hk _ _ _ h.2⟩ | exact ⟨h.1, h.2.1, hk _ _ _ h.2.2⟩ | exact ⟨h.1, h.2.1, h.2.2.1, hk _ _ _ h.2.2.2⟩)
theorem wp_mono {D D' : eD} {rt : Option FieldType} {Rt Rt' : Option Value → eS → Prop} {Th Th' : Nat → Nat → eLs → eS → Prop} {Q Q' : Nat → eLs → List Value → eS → Prop}
    (hD : ∀ q a σ o σ1, D q a σ o σ1 → D' q a σ o σ1) (hR : ∀ v σ, Rt v σ → Rt' v σ) (hT : ∀ e pc ls σ, Th e pc ls σ → Th' e pc ls σ) (hQ : ∀ pc ls st σ, Q pc ls st σ → Q' pc ls st σ)
    (ops : List (Instr × Nat)) : ∀ {pc : Nat} {ls : eLs} {st : List Value} {σ : eS}, wp D rt Rt Th Q ops pc ls st σ → wp D' rt Rt' Th' Q' ops pc ls st σ := by
  induction ops with
  | nil => intro pc ls st σ h; exact hQ _ _ _ _ h
  | cons a r ih =>
    obtain ⟨op, len⟩ := a
    intro pc ls st σ h
    exact wp1_mono hD hR hT hQ (fun _ _ _ h => ih h) h
theorem eTh_mono {P P' : eP} (hP : ∀ μ pc ls st σ o σo, P μ pc ls st σ o σo → P' μ pc ls st σ o σo) {μ : Nat} {o : eO} {σo : eS} (e pc : Nat) (ls : eLs) (σ : eS) (h : eTh P μ o σo e pc ls σ) : eTh P' μ o σo e pc ls σ := by
  rcases h with h | ⟨h1, j, hh, k, len, h2, h3⟩
  · exact Or.inl h
  · exact Or.inr ⟨h1, j, hh, k, len, h2, hP _ _ _ _ _ _ _ h3⟩
abbrev wpR (μ : Nat) (o : eO) (σo : eS) : List (Instr × Nat) → Nat → eLs → List Value → eS → Prop :=
  wp Den (eRt μ) (fun v σ1 => o = .inl v ∧ σo = σ1) (eTh Run μ o σo) (fun pc ls st σ1 => Run μ pc ls st σ1 o σo)
/-- a row of instructions, then on -/
theorem Run.blk {μ pc : Nat} (ops : List (Instr × Nat)) {ls : eLs} {st : List Value} {σ : eS} {o : eO} {σo : eS} (hc : chk μ pc ops = true) (h : wpR μ o σo ops pc ls st σ) : Run μ pc ls st σ o σo := by
  intro P hP
  refine hP.1 μ pc ops ls st σ o σo hc (wp_mono (fun q a σ o σ1 h => h P hP) (fun _ _ h => h) (fun e pc ls σ h => eTh_mono (fun μ pc ls st σ o σo h => h P hP) e pc ls σ h) (fun pc ls st σ h => h P hP) ops h)
theorem Run.sub {μ pc : Nat} {ls : eLs} (ls' : eLs) {st : List Value} {σ : eS} {o : eO} {σo : eS} (hs : ∀ q ∈ ls', q ∈ ls) (h : Run μ pc ls' st σ o σo) : Run μ pc ls st σ o σo :=
  fun P hP => hP.2.1 μ pc ls ls' st σ o σo hs (h P hP)
theorem Run.agree {μ pc : Nat} {ls : eLs} {st : List Value} {σ : eS} (σ' : eS) {o : eO} {σo : eS} (hs : eAg σ σ') (h : Run μ pc ls st σ' o σo) : Run μ pc ls st σ o σo :=
  fun P hP => hP.2.2 μ pc ls st σ σ' o σo hs (h P hP)
end
section
/-! The machine's picture of a store: cells at base, base + 1, .. (the script at b); what holds at every frame's entry. -/
def eAd (b base k : Nat) : Nat := match k with
  | 0 => b
  | j + 1 => base + j
def eVl (b base : Nat) (v : Value) : Value := match v with
  | .ref k => .ref (eAd b base k)
  | v => v
theorem eVl_cat (b base : Nat) (v : Value) : (eVl b base v).category = v.category := by cases v <;> rfl
def eFl (b base : Nat) (σ : eS) (a c i : Nat) : Value := if eRf c i = true then (if sR σ a i = 0 then .null else .ref (eAd b base (sR σ a i))) else .int (sI σ a i)
def eCell (b base : Nat) (cA : FieldType → ClassId) (σ : eS) (a : Nat) : va_E := match sK σ a with
  | .inl c => .inr (c, (List.range (eNF c)).map (fun i => eFl b base σ a c i))
  | .inr (ty, n) => .inl (cA ty, n, match ty with
    | .long => .inr (.inl (sL σ a))
    | .object _ => .inr (.inr (.inr (.inr (fun i => if sR σ a i = 0 then none else some (eAd b base (sR σ a i))))))
    | _ => .inl (sI σ a))
def eW (b base : Nat) (cA : FieldType → ClassId) (σ : eS) : va_W := (List.range (sN σ - 1)).map (fun j => (base + j, eCell b base cA σ (j + 1)))
abbrev eA (base : Nat) : Nat → Prop := fun q => base ≤ q
def eTys : List FieldType := [.int, .boolean, .byte, .long, .object RX3, .object RX6, .object RX7]
abbrev eTs (cA : FieldType → ClassId) : List (ClassId × FieldType) := eTys.map (fun t => (cA t, t))
def eRep (b base L : Nat) (xs : Nat → Int32) (cA : FieldType → ClassId) (D : va_G) (σ : eS) (H : Heap) : Prop :=
  va_P D eCl (eW b base cA σ) H ∧ 1 ≤ sN σ ∧
  (∀ a, 0 < a → a < sN σ → (∀ c, sK σ a = .inl c → c < 10) ∧ (∀ ty n, sK σ a = .inr (ty, n) → ty ∈ eTys ∧ n ≤ 100000)) ∧ b < base ∧ sK σ 0 = .inr (.int, L) ∧ ∀ j, sI σ 0 j = xs j
theorem eW_at {b base : Nat} {cA : FieldType → ClassId} {σ : eS} {a : Nat} (h0 : 0 < a) (h1 : a < sN σ) : (eW b base cA σ)[a - 1]? = some (eAd b base a, eCell b base cA σ a) := by
  obtain ⟨j, rfl⟩ : ∃ j, a = j + 1 := ⟨a - 1, by omega⟩
  unfold eW
  rw [List.getElem?_map, List.getElem?_range (show j + 1 - 1 < sN σ - 1 by omega)]
  rfl
theorem eW_D {b base : Nat} {cA : FieldType → ClassId} {σ : eS} : va_D (eA base) (eW b base cA σ) := by
  have key : ∀ (i : Nat) (q : Nat × va_E), (eW b base cA σ)[i]? = some q → q.1 = base + i := by
    intro i q hq
    unfold eW at hq
    rw [List.getElem?_map] at hq
    cases hr : (List.range (sN σ - 1))[i]? with
    | none => rw [hr] at hq; cases hq
    | some j =>
      rw [hr] at hq
      have hj : i = j := by
        obtain ⟨h1, h2⟩ := List.getElem?_eq_some_iff.mp hr
        rw [List.getElem_range] at h2
        exact h2
      subst hj
      cases hq
      rfl
  refine ⟨fun i j p q hp hq he => ?_, fun k q hq => ?_⟩
  · have h1 := key i p hp
    have h2 := key j q hq
    omega
  · have h1 := key k q hq
    show base ≤ q.1
    omega
/-- one cell is written: the list of cells is set at its place -/
theorem eW_set {b base : Nat} {cA : FieldType → ClassId} {σ σ' : eS} {a : Nat} (h0 : 0 < a) (h1 : a < sN σ) (hn : sN σ' = sN σ) (ho : ∀ a', a' ≠ a → eCell b base cA σ' a' = eCell b base cA σ a') {x : va_E} (hx : eCell b base cA σ' a = x) :
    (eW b base cA σ).set (a - 1) (eAd b base a, x) = eW b base cA σ' := by
  subst hx
  apply List.ext_getElem?
  intro i
  unfold eW
  rw [List.getElem?_set, hn]
  by_cases hi : a - 1 = i
  · rw [if_pos hi]
    subst hi
    rw [List.length_map, List.length_range, if_pos (by omega), List.getElem?_map, List.getElem?_range (by omega)]
    show _ = some (base + (a - 1), eCell b base cA σ' (a - 1 + 1))
    rw [show a - 1 + 1 = a by omega]
    obtain ⟨j, rfl⟩ : ∃ j, a = j + 1 := ⟨a - 1, by omega⟩
    rfl
  · rw [if_neg hi, List.getElem?_map, List.getElem?_map]
    cases hr : (List.range (sN σ - 1))[i]? with
    | none => rfl
    | some j =>
      have hj : i = j := by
        obtain ⟨h1, h2⟩ := List.getElem?_eq_some_iff.mp hr
        rw [List.getElem_range] at h2
        exact h2
      show some (base + j, eCell b base cA σ (j + 1)) = some (base + j, eCell b base cA σ' (j + 1))
      rw [ho (j + 1) (by omega)]
/-- one cell is new: the list grows behind -/
theorem eW_new {b base : Nat} {cA : FieldType → ClassId} {σ σ' : eS} (h1 : 1 ≤ sN σ) (hn : sN σ' = sN σ + 1) (ho : ∀ a', a' < sN σ → eCell b base cA σ' a' = eCell b base cA σ a') {x : va_E} (hx : eCell b base cA σ' (sN σ) = x) :
    eW b base cA σ ++ [(base + (sN σ - 1), x)] = eW b base cA σ' := by
  subst hx
  unfold eW
  rw [hn, show sN σ + 1 - 1 = (sN σ - 1) + 1 by omega, List.range_succ, List.map_append]
  have e1 : List.map (fun j => (base + j, eCell b base cA σ (j + 1))) (List.range (sN σ - 1)) = List.map (fun j => (base + j, eCell b base cA σ' (j + 1))) (List.range (sN σ - 1)) := by
    apply List.map_congr_left
    intro j hj
    rw [ho (j + 1) (by have := List.mem_range.mp hj; omega)]
  rw [e1]
  simp only [List.map_cons, List.map_nil]
  rw [show sN σ - 1 + 1 = sN σ from by omega]
/-- cells that differ in no part that a cell shows -/
theorem eCell_eq {b base : Nat} {cA : FieldType → ClassId} {σ σ' : eS} {a : Nat} (hK : sK σ' a = sK σ a) (hI : sI σ' a = sI σ a) (hL : sL σ' a = sL σ a) (hR : sR σ' a = sR σ a) : eCell b base cA σ' a = eCell b base cA σ a := by
  unfold eCell eFl
  rw [hK, hI, hL, hR]
def eNg (w : Cond) : Bool := match w with
  | .fieldLinkNest .. => true | .methodLinkNest .. => true | .castable .. => true | .declares _ => true | _ => false
abbrev gTb : List Cond := lw_tbl.filter goodWord
/-- what holds at a frame's entry, of tables and of what the store doesn't show -/
def eSt (b base L : Nat) (xs : Nat → Int32) (cA : FieldType → ClassId) (D : va_G) (s : State) : Prop :=
  va_K D eCl (eTs cA) s ∧ vx_Zq Bundle.tN "UNASSIGNED_STACK" Bundle.steD (eA base) s s.heap ∧ vx_Zq Bundle.tN "SUPPRESSED_SENTINEL" Bundle.listD (eA base) s s.heap ∧ va_X b L xs s s.heap ∧ b < base ∧ base ≤ s.heap.size ∧
  (∀ w ∈ lw_tbl, eNg w = true → va_Nw w s) ∧ (va_AO RX3 s ∧ va_AO RX6 s ∧ va_AO RX7 s) ∧ (∀ t ∈ eLS, ∃ sa, vk_R RX8 t.1 t.2.1 sa s) ∧ (∀ e e', e < 4 → e' < 4 → e ≠ e' → va_Nc (eEN e) (eEN e') s)
theorem eSt.on {b base L : Nat} {xs : Nat → Int32} {cA : FieldType → ClassId} {D : va_G} {s U : State} {H : Heap} {locs : List Loc} (h : eSt b base L xs cA D s) (hW : s.WarmedH U.vm) (hU : U.heap = H) (hS : va_S (eA base) s.heap H locs) : eSt b base L xs cA D U := by
  obtain ⟨h1, h2, h3, h4, h5, h6, h7, ⟨h8, h8', h8''⟩, h9, h10⟩ := h
  subst hU
  have hal := hW.alike
  refine ⟨va_K.moved hal h1, vx_Zq.moved hal (h2.kept hS.2.1), vx_Zq.moved hal (h3.kept hS.2.1), va_X.moved hal (h4.kept (hS.2.1 b (by omega) (by show ¬ base ≤ b; omega))), h5, Nat.le_trans h6 hS.1, fun w hw hn => ?_, ⟨va_AO.moved hal h8, va_AO.moved hal h8', va_AO.moved hal h8''⟩, fun t ht => ?_, fun e e' he he' hne => va_Nc.moved hal (h10 e e' he he' hne)⟩
  · have h := h7 w hw hn
    cases w <;> simp only [eNg] at hn <;> first | cases hn | skip
    all_goals first | exact va_Nw.warmD hW h | exact va_Nw.warmC hW h | exact va_Nw.warmF hW h | exact va_Nw.warmM hW h
  · obtain ⟨sa, h⟩ := h9 t ht
    exact ⟨sa, vk_R.warm hW h⟩
end
section
/-! What 'Run' says of the machine: 'eMP'; one step of it, by kinds. -/
abbrev eLm (b base : Nat) (ls : eLs) : List (Nat × Value) := ls.map (fun q => (q.1, eVl b base q.2))
def eFr (μ : Nat) (p : Program) (s : State) (m : MethodId) (args : Array Value) (meth : Method) (c : Code) : Prop :=
  p.tables.exec = Jvm.exec ∧ c.code = eB μ ∧ meth.sig.returnType = eRt μ ∧ c.maxLocals = eL μ ∧ s.vm.findClass (eCN (eC μ)) = some m.cls ∧ (∀ w ∈ gTb, w.before args s = true) ∧ meth.locks = false ∧
  (eKd μ = 3 → c.exceptionTable.toList = tableOf (eHL μ)) ∧ (¬ eKd μ = 3 → ¬ eKd μ = 4 → ∀ x ∈ c.exceptionTable.toList, False) ∧ (eKd μ = 2 → meth.name = "<init>")
abbrev eRm (μ : Nat) (R : Room) : Prop := eDp μ ≤ R.frames ∧ 40 * eDp μ + 100 ≤ R.locals
def eQc (b base L : Nat) (xs : Nat → Int32) (cA : FieldType → ClassId) (D : va_G) (o : eO) (σo : eS) : Array Value → State → Outcome → State → Prop := fun _ st oc t => match o with
  | .inl v => oc = .returned (v.map (eVl b base)) ∧ eRep b base L xs cA D σo t.heap ∧ va_F (eA base) st t
  | .inr _ => False
def eXC (b base L : Nat) (xs : Nat → Int32) (cA : FieldType → ClassId) (D : va_G) (o : eO) (σo : eS) : String → State → State → Prop := fun E st t => match o with
  | .inl _ => False
  | .inr e => e < 4 ∧ E = eEN e ∧ eRep b base L xs cA D σo t.heap ∧ va_F (eA base) st t
def eGo (μ pc : Nat) (ls : eLs) (st : List Value) (σ : eS) (o : eO) (σo : eS) : Prop :=
  ∀ (l : Launch) (b base L : Nat) (xs : Nat → Int32) (cA : FieldType → ClassId) (D : va_G) (p : Program) (e : Env) (R : Room) (s : State) (m : MethodId) (args : Array Value) (below : List Frame) (meth : Method) (c : Code) (mc ms : Nat),
   l.stackTraces = false → eFr μ p s m args meth c → eSt b base L xs cA D s → eRm μ R → mc ≤ R.cells → ms ≤ R.slots →
   ∀ (H : Heap) (locs : List Loc) (cells slots : Nat) (la : Array Slot), eRep b base L xs cA D σ H → va_S (eA base) s.heap H locs → lv_has la (eL μ) (eLm b base ls) →
    s.heap.size + cells ≤ base + (sN σ - 1) + sH σ → cells + (sN σo + sH σo - (sN σ + sH σ)) ≤ mc → slots + (sZ σo - sZ σ) ≤ ms →
    W p l e R s m args below meth c H locs cells slots (vx_MQ below (eQc b base L xs cA D o σo) (eXC b base L xs cA D o σo) args s mc ms (eA base)) (F0 m pc la (st.map (eVl b base)))
def eMP : eP := fun μ pc ls st σ o σo => (sN σ ≤ sN σo ∧ sH σ ≤ sH σo ∧ sZ σ ≤ sZ σo) ∧ eGo μ pc ls st σ o σo
/-- a step that leaves the store as it is -/
theorem eStep {μ pc : Nat} (pc' : Nat) {ls : eLs} (ls' : eLs) {st : List Value} (st' : List Value) {σ : eS} {o : eO} {σo : eS} (h : eMP μ pc' ls' st' σ o σo)
    (row : ∀ (l : Launch) (b base L : Nat) (xs : Nat → Int32) (cA : FieldType → ClassId) (D : va_G) (p : Program) (e : Env) (R : Room) (s : State) (m : MethodId) (args : Array Value) (below : List Frame) (meth : Method) (c : Code) (H : Heap) (locs : List Loc) (cells slots : Nat) (Q : State → Prop) (la : Array Slot),
      eFr μ p s m args meth c → eSt b base L xs cA D s → eRm μ R → eRep b base L xs cA D σ H → va_S (eA base) s.heap H locs → lv_has la (eL μ) (eLm b base ls) → cells ≤ R.cells → slots ≤ R.slots →
      (∀ la', lv_has la' (eL μ) (eLm b base ls') → W p l e R s m args below meth c H locs cells slots Q (F0 m pc' la' (st'.map (eVl b base)))) →
      W p l e R s m args below meth c H locs cells slots Q (F0 m pc la (st.map (eVl b base)))) : eMP μ pc ls st σ o σo := by
  refine ⟨h.1, ?_⟩
  intro l b base L xs cA D p e R s m args below meth c mc ms hl hf hs hr hmc hms H locs cells slots la hR hS hla hsz hc hz
  exact row l b base L xs cA D p e R s m args below meth c H locs cells slots _ la hf hs hr hR hS hla (by omega) (by omega) (fun la' hla' => h.2 l b base L xs cA D p e R s m args below meth c mc ms hl hf hs hr hmc hms H locs cells slots la' hR hS hla' hsz hc hz)
/-- a step that writes cells -/
theorem eStepW {μ pc : Nat} (pc' : Nat) {ls : eLs} {st : List Value} (st' : List Value) {σ σ' : eS} {o : eO} {σo : eS} (hn : sN σ' = sN σ ∧ sH σ' = sH σ ∧ sZ σ' = sZ σ) (h : eMP μ pc' ls st' σ' o σo)
    (row : ∀ (l : Launch) (b base L : Nat) (xs : Nat → Int32) (cA : FieldType → ClassId) (D : va_G) (p : Program) (e : Env) (R : Room) (s : State) (m : MethodId) (args : Array Value) (below : List Frame) (meth : Method) (c : Code) (H : Heap) (locs : List Loc) (cells slots : Nat) (Q : State → Prop) (la : Array Slot),
      eFr μ p s m args meth c → eSt b base L xs cA D s → eRm μ R → eRep b base L xs cA D σ H → va_S (eA base) s.heap H locs → lv_has la (eL μ) (eLm b base ls) →
      (∀ (H1 : Heap) (locs1 : List Loc), eRep b base L xs cA D σ' H1 → va_S (eA base) s.heap H1 locs1 → W p l e R s m args below meth c H1 locs1 cells slots Q (F0 m pc' la (st'.map (eVl b base)))) →
      W p l e R s m args below meth c H locs cells slots Q (F0 m pc la (st.map (eVl b base)))) : eMP μ pc ls st σ o σo := by
  obtain ⟨n1, n2, n3⟩ := hn
  refine ⟨by rw [← n1, ← n2, ← n3]; exact h.1, ?_⟩
  intro l b base L xs cA D p e R s m args below meth c mc ms hl hf hs hr hmc hms H locs cells slots la hR hS hla hsz hc hz
  exact row l b base L xs cA D p e R s m args below meth c H locs cells slots _ la hf hs hr hR hS hla (fun H1 locs1 hR1 hS1 => h.2 l b base L xs cA D p e R s m args below meth c mc ms hl hf hs hr hmc hms H1 locs1 cells slots la hR1 hS1 hla (by rw [n1, n2]; exact hsz) (by rw [n1, n2]; exact hc) (by rw [n3]; exact hz))
theorem lk_at {ls : eLs} {i : Nat} {v : Value} (h : lk ls i = some v) : (i, v) ∈ ls := by
  induction ls with
  | nil => cases h
  | cons q r ih =>
    unfold lk at h
    by_cases hq : q.1 = i
    · rw [if_pos hq] at h
      cases h
      rw [← hq]
      exact List.mem_cons_self
    · rw [if_neg hq] at h
      exact List.mem_cons_of_mem _ (ih h)
theorem eLm_at {b base n : Nat} {la : Array Slot} {ls : eLs} {i : Nat} {v : Value} (h : lv_has la n (eLm b base ls)) (hk : lk ls i = some v) : la[i]? = some (.val (eVl b base v)) :=
  h.2.2 (i, eVl b base v) (List.mem_map.mpr ⟨(i, v), lk_at hk, rfl⟩)
theorem eLm_fl1 {b base : Nat} {ls : eLs} {i : Nat} : (eLm b base ls).filter (fun q => !(q.1 == i) && !(q.1 + 1 == i && q.2.category == 2)) = eLm b base (fl1 ls i) := by
  unfold eLm fl1
  rw [List.filter_map]
  congr 1
  apply List.filter_congr
  intro q _
  simp only [Function.comp, eVl_cat]
theorem eLm_fl2 {b base : Nat} {ls : eLs} {i : Nat} : (eLm b base ls).filter (fun q => !(q.1 == i) && (!(q.1 == i + 1) && !(q.1 + 1 == i && q.2.category == 2))) = eLm b base (fl2 ls i) := by
  unfold eLm fl2
  rw [List.filter_map]
  congr 1
  apply List.filter_congr
  intro q _
  simp only [Function.comp, eVl_cat]
theorem jmp_eq {pc : Nat} {off : Int} (h : okj pc off = true) : (pc : Int) + off = (jmp pc off : Int) := by
  have h1 : 0 ≤ (pc : Int) + off := of_decide_eq_true h
  unfold jmp
  omega
section
variable {μ pc : Nat} {ls : eLs} {st : List Value} {σ : eS} {o : eO} {σo : eS} {r : List Value}
theorem m_aload {i : Nat} {a : Nat} (hd : decode (eB μ) pc = .ok (.aload i, 2)) (hk : lk ls i = some (.ref a)) (h : eMP μ (pc + 2) ls (.ref a :: st) σ o σo) : eMP μ pc ls st σ o σo :=
  eStep _ _ _ h fun l b base L xs cA D p e R s m args below meth c H locs cells slots Q la hf hs hr hR hS hla hc hz k => lv_aload hf.1 hf.2.1 hd (eLm_at hla hk) (k la hla)
theorem m_aload_n {i : Fin 4} {a : Nat} (hd : decode (eB μ) pc = .ok (.aload_n i, 1)) (hk : lk ls i = some (.ref a)) (h : eMP μ (pc + 1) ls (.ref a :: st) σ o σo) : eMP μ pc ls st σ o σo :=
  eStep _ _ _ h fun l b base L xs cA D p e R s m args below meth c H locs cells slots Q la hf hs hr hR hS hla hc hz k => lv_aload_n hf.1 hf.2.1 hd rfl (eLm_at hla hk) (k la hla)
theorem m_iload {i : Nat} {x : Int32} (hd : decode (eB μ) pc = .ok (.iload i, 2)) (hk : lk ls i = some (.int x)) (h : eMP μ (pc + 2) ls (.int x :: st) σ o σo) : eMP μ pc ls st σ o σo :=
  eStep _ _ _ h fun l b base L xs cA D p e R s m args below meth c H locs cells slots Q la hf hs hr hR hS hla hc hz k => lv_iload hf.1 hf.2.1 hd (eLm_at hla hk) (k la hla)
theorem m_iload_n {i : Fin 4} {x : Int32} (hd : decode (eB μ) pc = .ok (.iload_n i, 1)) (hk : lk ls i = some (.int x)) (h : eMP μ (pc + 1) ls (.int x :: st) σ o σo) : eMP μ pc ls st σ o σo :=
  eStep _ _ _ h fun l b base L xs cA D p e R s m args below meth c H locs cells slots Q la hf hs hr hR hS hla hc hz k => lv_iload_n hf.1 hf.2.1 hd rfl (eLm_at hla hk) (k la hla)
theorem m_lload {i : Nat} {x : Int64} (hd : decode (eB μ) pc = .ok (.lload i, 2)) (hk : lk ls i = some (.long x)) (h : eMP μ (pc + 2) ls (.long x :: st) σ o σo) : eMP μ pc ls st σ o σo :=
  eStep _ _ _ h fun l b base L xs cA D p e R s m args below meth c H locs cells slots Q la hf hs hr hR hS hla hc hz k => lv_lload hf.1 hf.2.1 hd (eLm_at hla hk) (k la hla)
theorem m_lload_n {i : Fin 4} {x : Int64} (hd : decode (eB μ) pc = .ok (.lload_n i, 1)) (hk : lk ls i = some (.long x)) (h : eMP μ (pc + 1) ls (.long x :: st) σ o σo) : eMP μ pc ls st σ o σo :=
  eStep _ _ _ h fun l b base L xs cA D p e R s m args below meth c H locs cells slots Q la hf hs hr hR hS hla hc hz k => lv_lload_n hf.1 hf.2.1 hd rfl (eLm_at hla hk) (k la hla)
theorem m_istore {i : Nat} {x : Int32} (hd : decode (eB μ) pc = .ok (.istore i, 2)) (hi : i < eL μ) (h : eMP μ (pc + 2) ((i, .int x) :: fl1 ls i) r σ o σo) : eMP μ pc ls (.int x :: r) σ o σo :=
  eStep _ _ _ h fun l b base L xs cA D p e R s m args below meth c H locs cells slots Q la hf hs hr hR hS hla hc hz k => lv_istore hf.1 hf.2.1 hd hla hi (by rw [eLm_fl1]; rfl) (fun la' hla' => k la' hla')
theorem m_istore_n {i : Fin 4} {x : Int32} (hd : decode (eB μ) pc = .ok (.istore_n i, 1)) (hi : (i : Nat) < eL μ) (h : eMP μ (pc + 1) (((i : Nat), .int x) :: fl1 ls i) r σ o σo) : eMP μ pc ls (.int x :: r) σ o σo :=
  eStep _ _ _ h fun l b base L xs cA D p e R s m args below meth c H locs cells slots Q la hf hs hr hR hS hla hc hz k => lv_istore_n hf.1 hf.2.1 hd rfl hla hi (by rw [eLm_fl1]; rfl) (fun la' hla' => k la' hla')
theorem m_astore {i : Nat} {x : Nat} (hd : decode (eB μ) pc = .ok (.astore i, 2)) (hi : i < eL μ) (h : eMP μ (pc + 2) ((i, .ref x) :: fl1 ls i) r σ o σo) : eMP μ pc ls (.ref x :: r) σ o σo :=
  eStep _ _ _ h fun l b base L xs cA D p e R s m args below meth c H locs cells slots Q la hf hs hr hR hS hla hc hz k => lv_astore hf.1 hf.2.1 hd hla hi (by rw [eLm_fl1]; rfl) (fun la' hla' => k la' hla')
theorem m_astore_n {i : Fin 4} {x : Nat} (hd : decode (eB μ) pc = .ok (.astore_n i, 1)) (hi : (i : Nat) < eL μ) (h : eMP μ (pc + 1) (((i : Nat), .ref x) :: fl1 ls i) r σ o σo) : eMP μ pc ls (.ref x :: r) σ o σo :=
  eStep _ _ _ h fun l b base L xs cA D p e R s m args below meth c H locs cells slots Q la hf hs hr hR hS hla hc hz k => lv_astore_n hf.1 hf.2.1 hd rfl hla hi (by rw [eLm_fl1]; rfl) (fun la' hla' => k la' hla')
theorem m_lstore {i : Nat} {x : Int64} (hd : decode (eB μ) pc = .ok (.lstore i, 2)) (hi : i + 1 < eL μ) (h : eMP μ (pc + 2) ((i, .long x) :: fl2 ls i) r σ o σo) : eMP μ pc ls (.long x :: r) σ o σo :=
  eStep _ _ _ h fun l b base L xs cA D p e R s m args below meth c H locs cells slots Q la hf hs hr hR hS hla hc hz k => lv_lstore hf.1 hf.2.1 hd hla hi (by rw [eLm_fl2]; rfl) (fun la' hla' => k la' hla')
theorem m_lstore_n {i : Fin 4} {x : Int64} (hd : decode (eB μ) pc = .ok (.lstore_n i, 1)) (hi : (i : Nat) + 1 < eL μ) (h : eMP μ (pc + 1) (((i : Nat), .long x) :: fl2 ls i) r σ o σo) : eMP μ pc ls (.long x :: r) σ o σo :=
  eStep _ _ _ h fun l b base L xs cA D p e R s m args below meth c H locs cells slots Q la hf hs hr hR hS hla hc hz k => lv_lstore_n hf.1 hf.2.1 hd rfl hla hi (by rw [eLm_fl2]; rfl) (fun la' hla' => k la' hla')
theorem m_iinc {i : Nat} {n : Int} {x : Int32} (hd : decode (eB μ) pc = .ok (.iinc i n, 3)) (hi : i < eL μ) (hk : lk ls i = some (.int x)) (h : eMP μ (pc + 3) ((i, .int (x + Int32.ofInt n)) :: fl1 ls i) st σ o σo) : eMP μ pc ls st σ o σo :=
  eStep _ _ _ h fun l b base L xs cA D p e R s m args below meth c H locs cells slots Q la hf hs hr hR hS hla hc hz k => by
    obtain ⟨k0, hk0⟩ := List.getElem?_of_mem (List.mem_map.mpr ⟨(i, .int x), lk_at hk, rfl⟩ : (i, Value.int x) ∈ eLm b base ls)
    exact lv_iinc hf.1 hf.2.1 hd hla hk0 rfl hi (by rw [eLm_fl1]; rfl) (fun la' hla' => k la' hla')
end
end
section
section
variable {μ pc : Nat} {ls : eLs} {st : List Value} {σ : eS} {o : eO} {σo : eS} {r : List Value}
theorem m_iadd {x y : Int32} (hd : decode (eB μ) pc = .ok (.iadd, 1))  (h : eMP μ (pc + 1) ls (.int (x + y) :: r) σ o σo) : eMP μ pc ls (.int y :: .int x :: r) σ o σo :=
  eStep _ _ _ h fun l b base L xs cA D p e R s m args below meth c H locs cells slots Q la hf hs hr hR hS hla hc hz k => lv_iadd hf.1 hf.2.1 hd (k la hla)
theorem m_isub {x y : Int32} (hd : decode (eB μ) pc = .ok (.isub, 1))  (h : eMP μ (pc + 1) ls (.int (x - y) :: r) σ o σo) : eMP μ pc ls (.int y :: .int x :: r) σ o σo :=
  eStep _ _ _ h fun l b base L xs cA D p e R s m args below meth c H locs cells slots Q la hf hs hr hR hS hla hc hz k => lv_isub hf.1 hf.2.1 hd (k la hla)
theorem m_imul {x y : Int32} (hd : decode (eB μ) pc = .ok (.imul, 1))  (h : eMP μ (pc + 1) ls (.int (x * y) :: r) σ o σo) : eMP μ pc ls (.int y :: .int x :: r) σ o σo :=
  eStep _ _ _ h fun l b base L xs cA D p e R s m args below meth c H locs cells slots Q la hf hs hr hR hS hla hc hz k => lv_imul hf.1 hf.2.1 hd (k la hla)
theorem m_iand {x y : Int32} (hd : decode (eB μ) pc = .ok (.iand, 1))  (h : eMP μ (pc + 1) ls (.int (x &&& y) :: r) σ o σo) : eMP μ pc ls (.int y :: .int x :: r) σ o σo :=
  eStep _ _ _ h fun l b base L xs cA D p e R s m args below meth c H locs cells slots Q la hf hs hr hR hS hla hc hz k => lv_iand hf.1 hf.2.1 hd (k la hla)
theorem m_ishr {x y : Int32} (hd : decode (eB μ) pc = .ok (.ishr, 1))  (h : eMP μ (pc + 1) ls (.int (x >>> (y &&& 31)) :: r) σ o σo) : eMP μ pc ls (.int y :: .int x :: r) σ o σo :=
  eStep _ _ _ h fun l b base L xs cA D p e R s m args below meth c H locs cells slots Q la hf hs hr hR hS hla hc hz k => lv_ishr hf.1 hf.2.1 hd (k la hla)
theorem m_idiv {x y : Int32} (hd : decode (eB μ) pc = .ok (.idiv, 1)) (hne : ¬ y = 0) (h : eMP μ (pc + 1) ls (.int (x / y) :: r) σ o σo) : eMP μ pc ls (.int y :: .int x :: r) σ o σo :=
  eStep _ _ _ h fun l b base L xs cA D p e R s m args below meth c H locs cells slots Q la hf hs hr hR hS hla hc hz k => lv_idiv hf.1 hf.2.1 hd hne (k la hla)
theorem m_irem {x y : Int32} (hd : decode (eB μ) pc = .ok (.irem, 1)) (hne : ¬ y = 0) (h : eMP μ (pc + 1) ls (.int (x - x / y * y) :: r) σ o σo) : eMP μ pc ls (.int y :: .int x :: r) σ o σo :=
  eStep _ _ _ h fun l b base L xs cA D p e R s m args below meth c H locs cells slots Q la hf hs hr hR hS hla hc hz k => lv_irem hf.1 hf.2.1 hd hne (k la hla)
theorem m_iushr {x y : Int32} (hd : decode (eB μ) pc = .ok (.iushr, 1))  (h : eMP μ (pc + 1) ls (.int (x.toUInt32 >>> (y.toUInt32 &&& Int32.toUInt32 31)).toInt32 :: r) σ o σo) : eMP μ pc ls (.int y :: .int x :: r) σ o σo :=
  eStep _ _ _ h fun l b base L xs cA D p e R s m args below meth c H locs cells slots Q la hf hs hr hR hS hla hc hz k => lv_iushr hf.1 hf.2.1 hd rfl (k la hla)
theorem m_ladd {x y : Int64} (hd : decode (eB μ) pc = .ok (.ladd, 1))  (h : eMP μ (pc + 1) ls (.long (x + y) :: r) σ o σo) : eMP μ pc ls (.long y :: .long x :: r) σ o σo :=
  eStep _ _ _ h fun l b base L xs cA D p e R s m args below meth c H locs cells slots Q la hf hs hr hR hS hla hc hz k => lv_ladd hf.1 hf.2.1 hd (k la hla)
theorem m_lsub {x y : Int64} (hd : decode (eB μ) pc = .ok (.lsub, 1))  (h : eMP μ (pc + 1) ls (.long (x - y) :: r) σ o σo) : eMP μ pc ls (.long y :: .long x :: r) σ o σo :=
  eStep _ _ _ h fun l b base L xs cA D p e R s m args below meth c H locs cells slots Q la hf hs hr hR hS hla hc hz k => lv_lsub hf.1 hf.2.1 hd (k la hla)
theorem m_lmul {x y : Int64} (hd : decode (eB μ) pc = .ok (.lmul, 1))  (h : eMP μ (pc + 1) ls (.long (x * y) :: r) σ o σo) : eMP μ pc ls (.long y :: .long x :: r) σ o σo :=
  eStep _ _ _ h fun l b base L xs cA D p e R s m args below meth c H locs cells slots Q la hf hs hr hR hS hla hc hz k => lv_lmul hf.1 hf.2.1 hd (k la hla)
theorem m_land {x y : Int64} (hd : decode (eB μ) pc = .ok (.land, 1))  (h : eMP μ (pc + 1) ls (.long (x &&& y) :: r) σ o σo) : eMP μ pc ls (.long y :: .long x :: r) σ o σo :=
  eStep _ _ _ h fun l b base L xs cA D p e R s m args below meth c H locs cells slots Q la hf hs hr hR hS hla hc hz k => lv_land hf.1 hf.2.1 hd (k la hla)
theorem m_lor {x y : Int64} (hd : decode (eB μ) pc = .ok (.lor, 1))  (h : eMP μ (pc + 1) ls (.long (x ||| y) :: r) σ o σo) : eMP μ pc ls (.long y :: .long x :: r) σ o σo :=
  eStep _ _ _ h fun l b base L xs cA D p e R s m args below meth c H locs cells slots Q la hf hs hr hR hS hla hc hz k => lv_lor hf.1 hf.2.1 hd (k la hla)
theorem m_ldiv {x y : Int64} (hd : decode (eB μ) pc = .ok (.ldiv, 1)) (hne : ¬ y = 0) (h : eMP μ (pc + 1) ls (.long (x / y) :: r) σ o σo) : eMP μ pc ls (.long y :: .long x :: r) σ o σo :=
  eStep _ _ _ h fun l b base L xs cA D p e R s m args below meth c H locs cells slots Q la hf hs hr hR hS hla hc hz k => lv_ldiv hf.1 hf.2.1 hd hne (k la hla)
theorem m_lshl {x : Int64} {y : Int32} (hd : decode (eB μ) pc = .ok (.lshl, 1))  (h : eMP μ (pc + 1) ls (.long (x <<< (y.toInt64 &&& 63)) :: r) σ o σo) : eMP μ pc ls (.int y :: .long x :: r) σ o σo :=
  eStep _ _ _ h fun l b base L xs cA D p e R s m args below meth c H locs cells slots Q la hf hs hr hR hS hla hc hz k => lv_lshl hf.1 hf.2.1 hd rfl (k la hla)
theorem m_i2l {x : Int32} (hd : decode (eB μ) pc = .ok (.i2l, 1))  (h : eMP μ (pc + 1) ls (.long x.toInt64 :: r) σ o σo) : eMP μ pc ls (.int x :: r) σ o σo :=
  eStep _ _ _ h fun l b base L xs cA D p e R s m args below meth c H locs cells slots Q la hf hs hr hR hS hla hc hz k => lv_i2l hf.1 hf.2.1 hd rfl (k la hla)
theorem m_lcmp {x y : Int64} (hd : decode (eB μ) pc = .ok (.lcmp, 1))  (h : eMP μ (pc + 1) ls (.int (lg_cmp x y) :: r) σ o σo) : eMP μ pc ls (.long y :: .long x :: r) σ o σo :=
  eStep _ _ _ h fun l b base L xs cA D p e R s m args below meth c H locs cells slots Q la hf hs hr hR hS hla hc hz k => W.lcmp hf.1 hf.2.1 hd (k la hla)
theorem m_dup {v : Value} (hd : decode (eB μ) pc = .ok (.dup, 1)) (hv : v.category = 1) (h : eMP μ (pc + 1) ls (v :: v :: r) σ o σo) : eMP μ pc ls (v :: r) σ o σo :=
  eStep _ _ _ h fun l b base L xs cA D p e R s m args below meth c H locs cells slots Q la hf hs hr hR hS hla hc hz k => lv_dup hf.1 hf.2.1 hd (by rw [eVl_cat]; exact hv) (k la hla)
theorem m_dup2 {v w : Value} (hd : decode (eB μ) pc = .ok (.dup2, 1)) (hv : v.category = 1) (hw : w.category = 1) (h : eMP μ (pc + 1) ls (v :: w :: v :: w :: r) σ o σo) : eMP μ pc ls (v :: w :: r) σ o σo :=
  eStep _ _ _ h fun l b base L xs cA D p e R s m args below meth c H locs cells slots Q la hf hs hr hR hS hla hc hz k => lv_dup2_11 hf.1 hf.2.1 hd (by rw [eVl_cat]; exact hv) (by rw [eVl_cat]; exact hw) (k la hla)
theorem m_pop2 {x : Int64} (hd : decode (eB μ) pc = .ok (.pop2, 1))  (h : eMP μ (pc + 1) ls (r) σ o σo) : eMP μ pc ls (.long x :: r) σ o σo :=
  eStep _ _ _ h fun l b base L xs cA D p e R s m args below meth c H locs cells slots Q la hf hs hr hR hS hla hc hz k => lv_pop2_2 hf.1 hf.2.1 hd rfl (k la hla)
theorem m_lconst {n : Fin 2} (hd : decode (eB μ) pc = .ok (.lconst n, 1)) (h : eMP μ (pc + 1) ls (.long (Int64.ofNat n) :: st) σ o σo) : eMP μ pc ls st σ o σo :=
  eStep _ _ _ h fun l b base L xs cA D p e R s m args below meth c H locs cells slots Q la hf hs hr hR hS hla hc hz k => lv_lconst hf.1 hf.2.1 hd rfl (k la hla)
theorem m_iconst {n : Int} (hd : decode (eB μ) pc = .ok (.iconst n, 1)) (h : eMP μ (pc + 1) ls (.int (Int32.ofInt n) :: st) σ o σo) : eMP μ pc ls st σ o σo :=
  eStep _ _ _ h fun l b base L xs cA D p e R s m args below meth c H locs cells slots Q la hf hs hr hR hS hla hc hz k => lv_iconst hf.1 hf.2.1 hd rfl (k la hla)
theorem m_bipush {n : Int} {v : Int32} (hd : decode (eB μ) pc = .ok (.bipush n, 2)) (hv : (Int8.ofInt n).toInt32 = v) (h : eMP μ (pc + 2) ls (.int v :: st) σ o σo) : eMP μ pc ls st σ o σo :=
  eStep _ _ _ h fun l b base L xs cA D p e R s m args below meth c H locs cells slots Q la hf hs hr hR hS hla hc hz k => lv_bipush hf.1 hf.2.1 hd hv (k la hla)
theorem m_sipush {n : Int} {v : Int32} (hd : decode (eB μ) pc = .ok (.sipush n, 3)) (hv : (Int16.ofInt n).toInt32 = v) (h : eMP μ (pc + 3) ls (.int v :: st) σ o σo) : eMP μ pc ls st σ o σo :=
  eStep _ _ _ h fun l b base L xs cA D p e R s m args below meth c H locs cells slots Q la hf hs hr hR hS hla hc hz k => lv_sipush hf.1 hf.2.1 hd hv (k la hla)
theorem m_ldc {i : Nat} {v : Int32} (hd : decode (eB μ) pc = .ok (.ldc i, 2)) (hw : Cond.constant (eCN (eC μ)) i v ∈ gTb) (h : eMP μ (pc + 2) ls (.int v :: st) σ o σo) : eMP μ pc ls st σ o σo :=
  eStep _ _ _ h fun l b base L xs cA D p e R s m args below meth c H locs cells slots Q la hf hs hr hR hS hla hc hz k => lv_ldc hf.1 hf.2.1 hf.2.2.2.2.1 (hf.2.2.2.2.2.1 _ hw) hd (k la hla)
theorem m_ldc_w {i : Nat} {v : Int32} (hd : decode (eB μ) pc = .ok (.ldc_w i, 3)) (hw : Cond.constant (eCN (eC μ)) i v ∈ gTb) (h : eMP μ (pc + 3) ls (.int v :: st) σ o σo) : eMP μ pc ls st σ o σo :=
  eStep _ _ _ h fun l b base L xs cA D p e R s m args below meth c H locs cells slots Q la hf hs hr hR hS hla hc hz k => lv_ldcw hf.1 hf.2.1 hf.2.2.2.2.1 (hf.2.2.2.2.2.1 _ hw) hd (k la hla)
theorem m_ldc2_w {i : Nat} {v : Int64} (hd : decode (eB μ) pc = .ok (.ldc2_w i, 3)) (hw : Cond.constantLong (eCN (eC μ)) i v ∈ gTb) (h : eMP μ (pc + 3) ls (.long v :: st) σ o σo) : eMP μ pc ls st σ o σo :=
  eStep _ _ _ h fun l b base L xs cA D p e R s m args below meth c H locs cells slots Q la hf hs hr hR hS hla hc hz k => lv_ldc2 hf.1 hf.2.1 hf.2.2.2.2.1 (hf.2.2.2.2.2.1 _ hw) hd (k la hla)
theorem m_goto {off : Int} (hd : decode (eB μ) pc = .ok (.goto off, 3)) (hj : okj pc off = true) (h : eMP μ (jmp pc off) ls st σ o σo) : eMP μ pc ls st σ o σo :=
  eStep _ _ _ h fun l b base L xs cA D p e R s m args below meth c H locs cells slots Q la hf hs hr hR hS hla hc hz k => lv_goto hf.1 hf.2.1 hd (jmp_eq hj) (k la hla)
theorem m_if_eq {x : Int32} {off : Int} (hd : decode (eB μ) pc = .ok (.ifCond .eq off, 3)) (hj : okj pc off = true) (kt : x = 0 → eMP μ (jmp pc off) ls r σ o σo) (kf : ¬ x = 0 → eMP μ (pc + 3) ls r σ o σo) : eMP μ pc ls (.int x :: r) σ o σo := by
  by_cases c9 : x = 0
  · exact eStep _ _ _ (kt c9) fun l b base L xs cA D p e R s m args below meth c H locs cells slots Q la hf hs hr hR hS hla hc hz k => lv_if_eq hf.1 hf.2.1 hd (jmp_eq hj) (fun _ => k la hla) (fun z => absurd c9 z)
  · exact eStep _ _ _ (kf c9) fun l b base L xs cA D p e R s m args below meth c H locs cells slots Q la hf hs hr hR hS hla hc hz k => lv_if_eq hf.1 hf.2.1 hd (jmp_eq hj) (fun z => absurd z c9) (fun _ => k la hla)
theorem m_if_lt {x : Int32} {off : Int} (hd : decode (eB μ) pc = .ok (.ifCond .lt off, 3)) (hj : okj pc off = true) (kt : x < 0 → eMP μ (jmp pc off) ls r σ o σo) (kf : ¬ x < 0 → eMP μ (pc + 3) ls r σ o σo) : eMP μ pc ls (.int x :: r) σ o σo := by
  by_cases c9 : x < 0
  · exact eStep _ _ _ (kt c9) fun l b base L xs cA D p e R s m args below meth c H locs cells slots Q la hf hs hr hR hS hla hc hz k => lv_if_lt hf.1 hf.2.1 hd (jmp_eq hj) (fun _ => k la hla) (fun z => absurd c9 z)
  · exact eStep _ _ _ (kf c9) fun l b base L xs cA D p e R s m args below meth c H locs cells slots Q la hf hs hr hR hS hla hc hz k => lv_if_lt hf.1 hf.2.1 hd (jmp_eq hj) (fun z => absurd z c9) (fun _ => k la hla)
theorem m_if_ge {x : Int32} {off : Int} (hd : decode (eB μ) pc = .ok (.ifCond .ge off, 3)) (hj : okj pc off = true) (kt : 0 ≤ x → eMP μ (jmp pc off) ls r σ o σo) (kf : ¬ 0 ≤ x → eMP μ (pc + 3) ls r σ o σo) : eMP μ pc ls (.int x :: r) σ o σo := by
  by_cases c9 : 0 ≤ x
  · exact eStep _ _ _ (kt c9) fun l b base L xs cA D p e R s m args below meth c H locs cells slots Q la hf hs hr hR hS hla hc hz k => lv_if_ge hf.1 hf.2.1 hd (jmp_eq hj) (fun _ => k la hla) (fun z => absurd c9 z)
  · exact eStep _ _ _ (kf c9) fun l b base L xs cA D p e R s m args below meth c H locs cells slots Q la hf hs hr hR hS hla hc hz k => lv_if_ge hf.1 hf.2.1 hd (jmp_eq hj) (fun z => absurd z c9) (fun _ => k la hla)
theorem m_if_gt {x : Int32} {off : Int} (hd : decode (eB μ) pc = .ok (.ifCond .gt off, 3)) (hj : okj pc off = true) (kt : 0 < x → eMP μ (jmp pc off) ls r σ o σo) (kf : ¬ 0 < x → eMP μ (pc + 3) ls r σ o σo) : eMP μ pc ls (.int x :: r) σ o σo := by
  by_cases c9 : 0 < x
  · exact eStep _ _ _ (kt c9) fun l b base L xs cA D p e R s m args below meth c H locs cells slots Q la hf hs hr hR hS hla hc hz k => lv_if_gt hf.1 hf.2.1 hd (jmp_eq hj) (fun _ => k la hla) (fun z => absurd c9 z)
  · exact eStep _ _ _ (kf c9) fun l b base L xs cA D p e R s m args below meth c H locs cells slots Q la hf hs hr hR hS hla hc hz k => lv_if_gt hf.1 hf.2.1 hd (jmp_eq hj) (fun z => absurd z c9) (fun _ => k la hla)
theorem m_if_le {x : Int32} {off : Int} (hd : decode (eB μ) pc = .ok (.ifCond .le off, 3)) (hj : okj pc off = true) (kt : x ≤ 0 → eMP μ (jmp pc off) ls r σ o σo) (kf : ¬ x ≤ 0 → eMP μ (pc + 3) ls r σ o σo) : eMP μ pc ls (.int x :: r) σ o σo := by
  by_cases c9 : x ≤ 0
  · exact eStep _ _ _ (kt c9) fun l b base L xs cA D p e R s m args below meth c H locs cells slots Q la hf hs hr hR hS hla hc hz k => lv_if_le hf.1 hf.2.1 hd (jmp_eq hj) (fun _ => k la hla) (fun z => absurd c9 z)
  · exact eStep _ _ _ (kf c9) fun l b base L xs cA D p e R s m args below meth c H locs cells slots Q la hf hs hr hR hS hla hc hz k => lv_if_le hf.1 hf.2.1 hd (jmp_eq hj) (fun z => absurd z c9) (fun _ => k la hla)
theorem m_icmp_eq {x y : Int32} {off : Int} (hd : decode (eB μ) pc = .ok (.if_icmp .eq off, 3)) (hj : okj pc off = true) (kt : x = y → eMP μ (jmp pc off) ls r σ o σo) (kf : ¬ x = y → eMP μ (pc + 3) ls r σ o σo) : eMP μ pc ls (.int y :: .int x :: r) σ o σo := by
  by_cases c9 : x = y
  · exact eStep _ _ _ (kt c9) fun l b base L xs cA D p e R s m args below meth c H locs cells slots Q la hf hs hr hR hS hla hc hz k => lv_icmp_eq hf.1 hf.2.1 hd (jmp_eq hj) (fun _ => k la hla) (fun z => absurd c9 z)
  · exact eStep _ _ _ (kf c9) fun l b base L xs cA D p e R s m args below meth c H locs cells slots Q la hf hs hr hR hS hla hc hz k => lv_icmp_eq hf.1 hf.2.1 hd (jmp_eq hj) (fun z => absurd z c9) (fun _ => k la hla)
theorem m_icmp_lt {x y : Int32} {off : Int} (hd : decode (eB μ) pc = .ok (.if_icmp .lt off, 3)) (hj : okj pc off = true) (kt : x < y → eMP μ (jmp pc off) ls r σ o σo) (kf : ¬ x < y → eMP μ (pc + 3) ls r σ o σo) : eMP μ pc ls (.int y :: .int x :: r) σ o σo := by
  by_cases c9 : x < y
  · exact eStep _ _ _ (kt c9) fun l b base L xs cA D p e R s m args below meth c H locs cells slots Q la hf hs hr hR hS hla hc hz k => lv_icmp_lt hf.1 hf.2.1 hd (jmp_eq hj) (fun _ => k la hla) (fun z => absurd c9 z)
  · exact eStep _ _ _ (kf c9) fun l b base L xs cA D p e R s m args below meth c H locs cells slots Q la hf hs hr hR hS hla hc hz k => lv_icmp_lt hf.1 hf.2.1 hd (jmp_eq hj) (fun z => absurd z c9) (fun _ => k la hla)
theorem m_icmp_ge {x y : Int32} {off : Int} (hd : decode (eB μ) pc = .ok (.if_icmp .ge off, 3)) (hj : okj pc off = true) (kt : y ≤ x → eMP μ (jmp pc off) ls r σ o σo) (kf : ¬ y ≤ x → eMP μ (pc + 3) ls r σ o σo) : eMP μ pc ls (.int y :: .int x :: r) σ o σo := by
  by_cases c9 : y ≤ x
  · exact eStep _ _ _ (kt c9) fun l b base L xs cA D p e R s m args below meth c H locs cells slots Q la hf hs hr hR hS hla hc hz k => lv_icmp_ge hf.1 hf.2.1 hd (jmp_eq hj) (fun _ => k la hla) (fun z => absurd c9 z)
  · exact eStep _ _ _ (kf c9) fun l b base L xs cA D p e R s m args below meth c H locs cells slots Q la hf hs hr hR hS hla hc hz k => lv_icmp_ge hf.1 hf.2.1 hd (jmp_eq hj) (fun z => absurd z c9) (fun _ => k la hla)
theorem m_icmp_gt {x y : Int32} {off : Int} (hd : decode (eB μ) pc = .ok (.if_icmp .gt off, 3)) (hj : okj pc off = true) (kt : y < x → eMP μ (jmp pc off) ls r σ o σo) (kf : ¬ y < x → eMP μ (pc + 3) ls r σ o σo) : eMP μ pc ls (.int y :: .int x :: r) σ o σo := by
  by_cases c9 : y < x
  · exact eStep _ _ _ (kt c9) fun l b base L xs cA D p e R s m args below meth c H locs cells slots Q la hf hs hr hR hS hla hc hz k => lv_icmp_gt hf.1 hf.2.1 hd (jmp_eq hj) (fun _ => k la hla) (fun z => absurd c9 z)
  · exact eStep _ _ _ (kf c9) fun l b base L xs cA D p e R s m args below meth c H locs cells slots Q la hf hs hr hR hS hla hc hz k => lv_icmp_gt hf.1 hf.2.1 hd (jmp_eq hj) (fun z => absurd z c9) (fun _ => k la hla)
theorem m_icmp_le {x y : Int32} {off : Int} (hd : decode (eB μ) pc = .ok (.if_icmp .le off, 3)) (hj : okj pc off = true) (kt : x ≤ y → eMP μ (jmp pc off) ls r σ o σo) (kf : ¬ x ≤ y → eMP μ (pc + 3) ls r σ o σo) : eMP μ pc ls (.int y :: .int x :: r) σ o σo := by
  by_cases c9 : x ≤ y
  · exact eStep _ _ _ (kt c9) fun l b base L xs cA D p e R s m args below meth c H locs cells slots Q la hf hs hr hR hS hla hc hz k => lv_icmp_le hf.1 hf.2.1 hd (jmp_eq hj) (fun _ => k la hla) (fun z => absurd c9 z)
  · exact eStep _ _ _ (kf c9) fun l b base L xs cA D p e R s m args below meth c H locs cells slots Q la hf hs hr hR hS hla hc hz k => lv_icmp_le hf.1 hf.2.1 hd (jmp_eq hj) (fun z => absurd z c9) (fun _ => k la hla)
theorem m_if_ne {x : Int32} {off : Int} (hd : decode (eB μ) pc = .ok (.ifCond .ne off, 3)) (hj : okj pc off = true) (kt : ¬ x = 0 → eMP μ (jmp pc off) ls r σ o σo) (kf : x = 0 → eMP μ (pc + 3) ls r σ o σo) : eMP μ pc ls (.int x :: r) σ o σo := by
  by_cases c9 : x = 0
  · exact eStep _ _ _ (kf c9) fun l b base L xs cA D p e R s m args below meth c H locs cells slots Q la hf hs hr hR hS hla hc hz k => lv_if_ne hf.1 hf.2.1 hd (jmp_eq hj) (fun z => absurd c9 z) (fun _ => k la hla)
  · exact eStep _ _ _ (kt c9) fun l b base L xs cA D p e R s m args below meth c H locs cells slots Q la hf hs hr hR hS hla hc hz k => lv_if_ne hf.1 hf.2.1 hd (jmp_eq hj) (fun _ => k la hla) (fun z => absurd z c9)
theorem m_icmp_ne {x y : Int32} {off : Int} (hd : decode (eB μ) pc = .ok (.if_icmp .ne off, 3)) (hj : okj pc off = true) (kt : ¬ x = y → eMP μ (jmp pc off) ls r σ o σo) (kf : x = y → eMP μ (pc + 3) ls r σ o σo) : eMP μ pc ls (.int y :: .int x :: r) σ o σo := by
  by_cases c9 : x = y
  · exact eStep _ _ _ (kf c9) fun l b base L xs cA D p e R s m args below meth c H locs cells slots Q la hf hs hr hR hS hla hc hz k => lv_icmp_ne hf.1 hf.2.1 hd (jmp_eq hj) (fun z => absurd c9 z) (fun _ => k la hla)
  · exact eStep _ _ _ (kt c9) fun l b base L xs cA D p e R s m args below meth c H locs cells slots Q la hf hs hr hR hS hla hc hz k => lv_icmp_ne hf.1 hf.2.1 hd (jmp_eq hj) (fun _ => k la hla) (fun z => absurd z c9)
theorem m_tableswitch {x : Int32} {dflt lo hi : Int} {offs : Array Int} {len : Nat} {off : Int} (hd : decode (eB μ) pc = .ok (.tableswitch dflt lo hi offs, len)) (ho : swT dflt lo hi offs x = some off) (hj : 0 ≤ (pc : Int) + off) (h : eMP μ (jmp pc off) ls r σ o σo) : eMP μ pc ls (.int x :: r) σ o σo := by
  refine eStep _ _ _ h fun l b base L xs cA D p e R s m args below meth c H locs cells slots Q la hf hs hr hR hS hla hc hz k => ?_
  unfold swT at ho
  have hj9 : (pc : Int) + off = (jmp pc off : Int) := by unfold jmp; omega
  by_cases c9 : x.toInt < lo ∨ hi < x.toInt
  · rw [if_pos c9] at ho
    cases ho
    exact lv_tableOut hf.1 hf.2.1 hd c9 hj9 (k la hla)
  · rw [if_neg c9] at ho
    exact lv_tableIn hf.1 hf.2.1 hd (fun z => c9 (Or.inl z)) (fun z => c9 (Or.inr z)) ho hj9 (k la hla)
theorem m_lookupswitch {x : Int32} {dflt : Int} {ps : Array (Int × Int)} {len : Nat} (hd : decode (eB μ) pc = .ok (.lookupswitch dflt ps, len)) (hp : (ps.toList.zip (ps.toList.drop 1)).all (fun (a, next) => a.1 < next.1) = true) (hj : 0 ≤ (pc : Int) + Op.lookupswitch.offset ps.toList dflt x.toInt) (h : eMP μ (jmp pc (Op.lookupswitch.offset ps.toList dflt x.toInt)) ls r σ o σo) : eMP μ pc ls (.int x :: r) σ o σo := by
  refine eStep _ _ _ h fun l b base L xs cA D p e R s m args below meth c H locs cells slots Q la hf hs hr hR hS hla hc hz k => ?_
  exact lv_lookup hf.1 hf.2.1 hd hp rfl (by unfold jmp; omega) (k la hla)
theorem eRoom {b base : Nat} {st : List Value} (h : stw st ≤ 8) : ((st.map (eVl b base)).map fun v => v.category).sum ≤ 8 := by
  have e : (st.map (eVl b base)).map (fun v => v.category) = st.map (fun v => v.category) := by
    rw [List.map_map]; apply List.map_congr_left; intro v _; exact eVl_cat b base v
  rw [e]; exact h
theorem m_dadd {x y : Int32} {i : Nat} (hd : decode (eB μ) pc = .ok (.invokestatic i, 3)) (hw : Cond.methodLink (eCN (eC μ)) i Lib.Math.max.name ∈ gTb) (hst : Cond.static Lib.Math.max.name ∈ gTb) (hin : Cond.initialized "java/lang/Math" ∈ gTb) (hco : Cond.code Lib.Math.max.name Lib.Math.max.code 2 (some .int) ∈ gTb) (hdp : 1 ≤ eDp μ) (h8 : stw r ≤ 8) (h : eMP μ (pc + 3) ls (.int (if x < y then y else x) :: r) σ o σo) : eMP μ pc ls (.int y :: .int x :: r) σ o σo := by
  refine eStep _ _ _ h fun l b base L xs cA D p e R s m args below meth c H locs cells slots Q la hf hs hr hR hS hla hc hz k => ?_
  have h9 := eRoom (b := b) (base := base) h8
  exact va_mmax hf.1 hf.2.1 (by rw [hf.2.2.2.1]; exact hla.1.symm) hf.2.2.2.2.1 (hf.2.2.2.2.2.1 _ hw) (hf.2.2.2.2.2.1 _ hst) (hf.2.2.2.2.2.1 _ hin) (hf.2.2.2.2.2.1 _ hco) (by have := hr.1; omega) (by have := hr.2; omega) hc hz hd (k la hla)
theorem m_dsub {x y : Int32} {i : Nat} (hd : decode (eB μ) pc = .ok (.invokestatic i, 3)) (hw : Cond.methodLink (eCN (eC μ)) i Lib.Math.min.name ∈ gTb) (hst : Cond.static Lib.Math.min.name ∈ gTb) (hin : Cond.initialized "java/lang/Math" ∈ gTb) (hco : Cond.code Lib.Math.min.name Lib.Math.min.code 2 (some .int) ∈ gTb) (hdp : 1 ≤ eDp μ) (h8 : stw r ≤ 8) (h : eMP μ (pc + 3) ls (.int (if y < x then y else x) :: r) σ o σo) : eMP μ pc ls (.int y :: .int x :: r) σ o σo := by
  refine eStep _ _ _ h fun l b base L xs cA D p e R s m args below meth c H locs cells slots Q la hf hs hr hR hS hla hc hz k => ?_
  have h9 := eRoom (b := b) (base := base) h8
  exact va_mmin hf.1 hf.2.1 (by rw [hf.2.2.2.1]; exact hla.1.symm) hf.2.2.2.2.1 (hf.2.2.2.2.2.1 _ hw) (hf.2.2.2.2.2.1 _ hst) (hf.2.2.2.2.2.1 _ hin) (hf.2.2.2.2.2.1 _ hco) (by have := hr.1; omega) (by have := hr.2; omega) hc hz hd (k la hla)
theorem m_objInit {a : Nat} {i : Nat} (hd : decode (eB μ) pc = .ok (.invokespecial i, 3)) (hw : Cond.methodLink (eCN (eC μ)) i objectInit ∈ gTb) (hst : Cond.instanceMethod objectInit ∈ gTb) (hco : Cond.code objectInit ⟨#[0xb1]⟩ 1 none ∈ gTb) (hdp : 1 ≤ eDp μ) (h8 : stw r ≤ 8) (h : eMP μ (pc + 3) ls r σ o σo) : eMP μ pc ls (.ref a :: r) σ o σo := by
  refine eStep _ _ _ h fun l b base L xs cA D p e R s m args below meth c H locs cells slots Q la hf hs hr hR hS hla hc hz k => ?_
  have h9 := eRoom (b := b) (base := base) h8
  refine W.objInit hf.1 hf.2.1 hf.2.2.2.2.1 (hf.2.2.2.2.2.1 _ hw) (hf.2.2.2.2.2.1 _ hst) (hf.2.2.2.2.2.1 _ hco) rfl (by rw [hf.2.2.2.1]; exact hla.1) rfl hd (by have := hr.1; omega) (by have := hr.2; have e : (F0 m pc la ((Value.ref a :: r).map (eVl b base))).monitorRoom = 0 := rfl; rw [e]; omega) ?_
  exact k la hla
end
end
section
/-! Fields and arrays. -/
theorem eNF_le (c : Nat) : eNF c ≤ 51 := by unfold eNF; split <;> decide
theorem eCl_at {c : Nat} (h : c < 10) : eCl[c]? = some (eCN c, eT c, eNF c) := by
  match c, h with
  | 0, _ => rfl | 1, _ => rfl | 2, _ => rfl | 3, _ => rfl | 4, _ => rfl | 5, _ => rfl | 6, _ => rfl | 7, _ => rfl | 8, _ => rfl | 9, _ => rfl
theorem eU_good {C : String} {T : u_T} {n : Nat} : ∀ w ∈ u_ws C T n, goodWord w = true := by
  intro w hw
  obtain ⟨k, -, rfl⟩ := List.mem_map.mp hw
  unfold u_lay
  split <;> rfl
theorem eU_in {c : Nat} (h : c < 10) : ∀ w ∈ u_ws (eCN c) (eT c) (eNF c), w ∈ gTb := by
  intro w hw
  have h1 := of_decide_eq_true (List.all_eq_true.mp eU_ok c (List.mem_range.mpr h))
  refine List.mem_filter.mpr ⟨List.mem_append_right _ ?_, eU_good w hw⟩
  rw [h1] at hw
  obtain ⟨i, -, hi⟩ := List.mem_filterMap.mp hw
  exact List.mem_of_getElem? hi
theorem eTy_ok {c : Nat} (h : c < 10) : ∀ k, k < eNF c → parseFieldDescriptor (eT c k).2.2.1 = some (eTy c k) := by
  match c, h with
  | 0, _ => exact tyX0_ok | 1, _ => exact tyX1_ok | 2, _ => exact tyX2_ok | 3, _ => exact tyX3_ok | 4, _ => exact tyX4_ok | 5, _ => exact tyX5_ok | 6, _ => exact tyX6_ok | 7, _ => exact tyX7_ok | 8, _ => exact tyX8_ok | 9, _ => exact tyX9_ok
theorem eNm_ok {c : Nat} (h : c < 10) : ∀ a, a < eNF c → ∀ b, b < eNF c → a ≠ b → (eT c a).2.1 ≠ (eT c b).2.1 := by
  match c, h with
  | 0, _ => exact nmX0 | 1, _ => exact nmX1 | 2, _ => exact nmX2 | 3, _ => exact nmX3 | 4, _ => exact nmX4 | 5, _ => exact nmX5 | 6, _ => exact nmX6 | 7, _ => exact nmX7 | 8, _ => exact nmX8 | 9, _ => exact nmX9
theorem lkF_spec {own i f : Nat} (h : lkF own i f = true) : f / 64 < 10 ∧ f % 64 < eNF (f / 64) ∧
    (Cond.fieldLinkNest (eCN own) i (eT (f / 64) (f % 64)).1 (eT (f / 64) (f % 64)).2.1 (eT (f / 64) (f % 64)).2.2.1 "EventVault" ∈ lw_tbl ∨ Cond.fieldLink (eCN own) i (eT (f / 64) (f % 64)).1 (eT (f / 64) (f % 64)).2.1 (eT (f / 64) (f % 64)).2.2.1 ∈ lw_tbl) := by
  obtain ⟨t, ht, h1⟩ := List.any_eq_true.mp h
  simp only [Bool.and_eq_true, beq_iff_eq] at h1
  obtain ⟨⟨h1, h2⟩, h3⟩ := h1
  have h4 := List.all_eq_true.mp eLF_ok t ht
  simp only [Bool.and_eq_true, decide_eq_true_eq] at h4
  obtain ⟨⟨h4, h5⟩, h6⟩ := h4
  have h7 := eNF_le t.2.2.1
  have e1 : f / 64 = t.2.2.1 := by omega
  have e2 : f % 64 = t.2.2.2.1 := by omega
  rw [e1, e2]
  refine ⟨h6, h5, ?_⟩
  have h8 := eAt_mem h4
  unfold eFw at h8
  rw [h1, h2] at h8
  split at h8
  · exact Or.inl h8
  · exact Or.inr h8
theorem lkG_spec {μ i f : Nat} (h : lkG μ i f = true) : f / 64 < 10 ∧ f % 64 < eNF (f / 64) ∧
    (((eT (f / 64) (f % 64)).2.2.2 = false ∧ Cond.fieldLinkNest (eCN (eC μ)) i (eT (f / 64) (f % 64)).1 (eT (f / 64) (f % 64)).2.1 (eT (f / 64) (f % 64)).2.2.1 "EventVault" ∈ lw_tbl) ∨
     ((eT (f / 64) (f % 64)).2.2.2 = false ∧ Cond.fieldLink (eCN (eC μ)) i (eT (f / 64) (f % 64)).1 (eT (f / 64) (f % 64)).2.1 (eT (f / 64) (f % 64)).2.2.1 ∈ lw_tbl) ∨
     ((eT (f / 64) (f % 64)).2.2.2 = true ∧ eKd μ = 2 ∧ (eT (f / 64) (f % 64)).1 = eCN (eC μ) ∧ Cond.fieldLink (eCN (eC μ)) i (eT (f / 64) (f % 64)).1 (eT (f / 64) (f % 64)).2.1 (eT (f / 64) (f % 64)).2.2.1 ∈ lw_tbl)) := by
  obtain ⟨t, ht, h1⟩ := List.any_eq_true.mp h
  simp only [Bool.and_eq_true, beq_iff_eq, Bool.or_eq_true, Bool.not_eq_true', decide_eq_true_eq] at h1
  obtain ⟨⟨⟨h1, h2⟩, h3⟩, h9⟩ := h1
  have h4 := List.all_eq_true.mp eLF_ok t ht
  simp only [Bool.and_eq_true, decide_eq_true_eq] at h4
  obtain ⟨⟨h4, h5⟩, h6⟩ := h4
  have h7 := eNF_le t.2.2.1
  have e1 : f / 64 = t.2.2.1 := by omega
  have e2 : f % 64 = t.2.2.2.1 := by omega
  rw [e1, e2]
  refine ⟨h6, h5, ?_⟩
  have h8 := eAt_mem h4
  unfold eFw at h8
  rw [h1, h2] at h8
  rcases h9 with h9 | ⟨⟨h9, h10⟩, h11⟩
  · split at h8
    · exact Or.inl ⟨h9, h8⟩
    · exact Or.inr (Or.inl ⟨h9, h8⟩)
  · rw [h9] at h8
    cases hz : (eT t.2.2.1 t.2.2.2.1).2.2.2 with
    | false => exact Or.inr (Or.inl ⟨rfl, h8⟩)
    | true => exact Or.inr (Or.inr ⟨rfl, h10, h11, h8⟩)
theorem eW_obj {b base : Nat} {cA : FieldType → ClassId} {σ : eS} {a c : Nat} (h : isO σ a c) : (eW b base cA σ)[a - 1]? = some (eAd b base a, .inr (c, (List.range (eNF c)).map (fun i => eFl b base σ a c i))) := by
  rw [eW_at h.1 h.2.1]
  unfold eCell
  rw [h.2.2]
theorem eW_int {b base : Nat} {cA : FieldType → ClassId} {σ : eS} {a n : Nat} {ty : FieldType} (h0 : 0 < a) (h : isA σ a ty n) (ht : ty = .int ∨ ty = .boolean ∨ ty = .byte) : (eW b base cA σ)[a - 1]? = some (eAd b base a, .inl (cA ty, n, .inl (sI σ a))) := by
  rw [eW_at h0 h.1]
  unfold eCell
  rw [h.2]
  rcases ht with rfl | rfl | rfl <;> rfl
theorem eW_long {b base : Nat} {cA : FieldType → ClassId} {σ : eS} {a n : Nat} (h0 : 0 < a) (h : isA σ a .long n) : (eW b base cA σ)[a - 1]? = some (eAd b base a, .inl (cA .long, n, .inr (.inl (sL σ a)))) := by
  rw [eW_at h0 h.1]
  unfold eCell
  rw [h.2]
theorem eW_ref {b base : Nat} {cA : FieldType → ClassId} {σ : eS} {a n : Nat} {C : String} (h0 : 0 < a) (h : isA σ a (.object C) n) : (eW b base cA σ)[a - 1]? = some (eAd b base a, .inl (cA (.object C), n, .inr (.inr (.inr (.inr (fun i => if sR σ a i = 0 then none else some (eAd b base (sR σ a i)))))))) := by
  rw [eW_at h0 h.1]
  unfold eCell
  rw [h.2]
theorem eTs_at {cA : FieldType → ClassId} {ty : FieldType} (h : ty ∈ eTys) : ∃ t0 : Nat, (eTs cA)[t0]? = some (cA ty, ty) := by
  obtain ⟨t0, h0⟩ := List.getElem?_of_mem h
  exact ⟨t0, by unfold eTs; rw [List.getElem?_map, h0]; rfl⟩
theorem map_range_at {α : Type} (f : Nat → α) {n k : Nat} (h : k < n) : ((List.range n).map f)[k]? = some (f k) := by
  rw [List.getElem?_map, List.getElem?_range h]; rfl
theorem map_range_set {α : Type} {f g : Nat → α} {n k : Nat} {v : α} (h : ∀ i, i < n → g i = if i = k then v else f i) : ((List.range n).map f).set k v = (List.range n).map g := by
  apply List.ext_getElem?
  intro i
  rw [List.getElem?_set]
  by_cases hi : i < n
  · rw [map_range_at g hi, h i hi]
    by_cases hk : k = i
    · rw [if_pos hk, if_pos hk.symm, List.length_map, List.length_range, if_pos (by omega)]
    · rw [if_neg hk, if_neg (fun z => hk z.symm), map_range_at f hi]
  · have e1 : ((List.range n).map g)[i]? = none := by simp; omega
    have e2 : ((List.range n).map f)[i]? = none := by simp; omega
    rw [e1, e2, List.length_map, List.length_range]
    by_cases hk : k = i
    · rw [if_pos hk, if_neg (by omega)]
    · rw [if_neg hk]
/-- the store after a write of one cell, in the heap after it -/
theorem eRep_set {b base L : Nat} {xs : Nat → Int32} {cA : FieldType → ClassId} {D : va_G} {σ σ' : eS} {H H1 : Heap} {a : Nat} (hR : eRep b base L xs cA D σ H) (h0 : 0 < a) (h1 : a < sN σ) (hn : sN σ' = sN σ) (hK : sK σ' = sK σ)
    (ho : ∀ a', a' ≠ a → sI σ' a' = sI σ a' ∧ sL σ' a' = sL σ a' ∧ sR σ' a' = sR σ a') {x : va_E} (hx : eCell b base cA σ' a = x)
    (hP : va_P D eCl ((eW b base cA σ).set (a - 1) (eAd b base a, x)) H1) : eRep b base L xs cA D σ' H1 := by
  obtain ⟨-, r2, r3, r4, r5, r6⟩ := hR
  refine ⟨?_, by rw [hn]; exact r2, fun a' q1 q2 => by rw [hK]; exact r3 a' q1 (by rw [← hn]; exact q2), r4, by rw [hK]; exact r5, fun j => by rw [(ho 0 (by omega)).1]; exact r6 j⟩
  rw [eW_set h0 h1 hn (fun a' ha => eCell_eq (by rw [hK]) (ho a' ha).1 (ho a' ha).2.1 (ho a' ha).2.2) hx] at hP
  exact hP
section
variable {μ pc : Nat} {ls : eLs} {st : List Value} {σ : eS} {o : eO} {σo : eS} {r : List Value}
theorem m_getfield {a f i : Nat} {v : Value} (hd : decode (eB μ) pc = .ok (.getfield i, 3)) (hl : lkF (eC μ) i f = true) (ho : isO σ a (f / 64)) (hv : ∀ b base, eFl b base σ a (f / 64) (f % 64) = eVl b base v) (h : eMP μ (pc + 3) ls (v :: r) σ o σo) : eMP μ pc ls (.ref a :: r) σ o σo := by
  obtain ⟨q1, q2, q3⟩ := lkF_spec hl
  refine eStep _ _ _ h fun l b base L xs cA D p e R s m args below meth c H locs cells slots Q la hf hs hr hR hS hla hc hz k => ?_
  have he := eW_obj (b := b) (base := base) (cA := cA) ho
  have hvv := (map_range_at (fun i => eFl b base σ a (f / 64) i) q2).trans (congrArg some (hv b base))
  rcases q3 with q3 | q3
  · exact va_getN hf.1 hf.2.1 hf.2.2.2.2.2.1 (eU_in q1) hf.2.2.2.2.1 hs.1 hR.1 (a - 1) he (eCl_at q1) (f % 64) q2 (va_Nw.use rfl (hs.2.2.2.2.2.2.1 _ q3 rfl)) (fun _ h9 => h9) hvv hd (k la hla)
  · exact va_get hf.1 hf.2.1 hf.2.2.2.2.2.1 (eU_in q1) hf.2.2.2.2.1 hs.1 hR.1 (a - 1) he (eCl_at q1) (f % 64) q2 (hf.2.2.2.2.2.1 _ (List.mem_filter.mpr ⟨q3, rfl⟩)) (fun _ h9 => h9) hvv hd (k la hla)
/-- a field is written: σ' is the store behind it -/
theorem m_putfield {a f i : Nat} {v : Value} {σ' : eS} (hd : decode (eB μ) pc = .ok (.putfield i, 3)) (hl : lkG μ i f = true) (ho : isO σ a (f / 64)) (hn : sN σ' = sN σ ∧ sH σ' = sH σ ∧ sZ σ' = sZ σ) (hK : sK σ' = sK σ)
    (hoth : ∀ a', a' ≠ a → sI σ' a' = sI σ a' ∧ sL σ' a' = sL σ a' ∧ sR σ' a' = sR σ a')
    (hv : ∀ b base i, i < eNF (f / 64) → eFl b base σ' a (f / 64) i = if i = f % 64 then eVl b base v else eFl b base σ a (f / 64) i)
    (hfit : ∀ b base, narrow (eTy (f / 64) (f % 64)) (eVl b base v) = eVl b base v ∧ fits (eTy (f / 64) (f % 64)) (eVl b base v) = true)
    (h : eMP μ (pc + 3) ls r σ' o σo) : eMP μ pc ls (v :: .ref a :: r) σ o σo := by
  obtain ⟨q1, q2, q3⟩ := lkG_spec hl
  refine eStepW _ _ hn h fun l b base L xs cA D p e R s m args below meth c H locs cells slots Q la hf hs hr hR hS hla k => ?_
  have he := eW_obj (b := b) (base := base) (cA := cA) ho
  have hlen : f % 64 < ((List.range (eNF (f / 64))).map (fun i => eFl b base σ a (f / 64) i)).length := by rw [List.length_map, List.length_range]; exact q2
  have kk : ∀ (H1 : Heap) (locs1 : List Loc), va_P D eCl ((eW b base cA σ).set (a - 1) (eAd b base a, .inr (f / 64, ((List.range (eNF (f / 64))).map (fun i => eFl b base σ a (f / 64) i)).set (f % 64) (eVl b base v)))) H1 →
      va_D (eA base) ((eW b base cA σ).set (a - 1) (eAd b base a, .inr (f / 64, ((List.range (eNF (f / 64))).map (fun i => eFl b base σ a (f / 64) i)).set (f % 64) (eVl b base v)))) → va_S (eA base) s.heap H1 locs1 →
      W p l e R s m args below meth c H1 locs1 cells slots Q (F0 m (pc + 3) la (r.map (eVl b base))) := by
    intro H1 locs1 hP1 _ hS1
    refine k H1 locs1 (eRep_set hR ho.1 ho.2.1 hn.1 hK hoth ?_ hP1) hS1
    unfold eCell
    rw [hK, ho.2.2]
    dsimp only
    rw [map_range_set (hv b base)]
  rcases q3 with ⟨g1, q3⟩ | ⟨g1, q3⟩ | ⟨g1, g2, g3, q3⟩
  · exact va_putN hf.1 hf.2.1 hf.2.2.2.2.2.1 (eU_in q1) (eTy (f / 64)) (eTy_ok q1) (eNm_ok q1) hf.2.2.2.2.1 hs.1 hR.1 eW_D hS (a - 1) he (eCl_at q1) (f % 64) q2 (va_Nw.use rfl (hs.2.2.2.2.2.2.1 _ q3 rfl)) (fun _ h9 => h9) g1 (eTy_ok q1 _ q2) (hfit b base).1 (hfit b base).2 hlen hd kk
  · exact va_put hf.1 hf.2.1 hf.2.2.2.2.2.1 (eU_in q1) (eTy (f / 64)) (eTy_ok q1) (eNm_ok q1) hf.2.2.2.2.1 hs.1 hR.1 eW_D hS (a - 1) he (eCl_at q1) (f % 64) q2 (hf.2.2.2.2.2.1 _ (List.mem_filter.mpr ⟨q3, rfl⟩)) (fun _ h9 => h9) g1 (eTy_ok q1 _ q2) (hfit b base).1 (hfit b base).2 hlen hd kk
  · exact va_putF hf.1 hf.2.1 hf.2.2.2.2.2.1 (eU_in q1) (eTy (f / 64)) (eTy_ok q1) (eNm_ok q1) hf.2.2.2.2.1 hs.1 hR.1 eW_D hS (a - 1) he (eCl_at q1) (f % 64) q2 (hf.2.2.2.2.2.1 _ (List.mem_filter.mpr ⟨q3, rfl⟩)) (fun _ h9 => h9) g1 (hf.2.2.2.2.2.2.2.2.2 g2) g3 (eTy_ok q1 _ q2) (hfit b base).1 (hfit b base).2 hlen hd kk
theorem m_getR {a f i : Nat} (hd : decode (eB μ) pc = .ok (.getfield i, 3)) (hl : lkF (eC μ) i f = true) (ho : isO σ a (f / 64)) (hr : eRf (f / 64) (f % 64) = true) (h0 : ¬ sR σ a (f % 64) = 0) (h : eMP μ (pc + 3) ls (.ref (sR σ a (f % 64)) :: r) σ o σo) : eMP μ pc ls (.ref a :: r) σ o σo :=
  m_getfield hd hl ho (fun b base => by unfold eFl; rw [if_pos hr, if_neg h0]; rfl) h
theorem m_getI {a f i : Nat} (hd : decode (eB μ) pc = .ok (.getfield i, 3)) (hl : lkF (eC μ) i f = true) (ho : isO σ a (f / 64)) (hr : eRf (f / 64) (f % 64) = false) (h : eMP μ (pc + 3) ls (.int (sI σ a (f % 64)) :: r) σ o σo) : eMP μ pc ls (.ref a :: r) σ o σo :=
  m_getfield hd hl ho (fun b base => by unfold eFl; rw [if_neg (by rw [hr]; decide)]; rfl) h
theorem u2_o {α : Type} {f : Nat → Nat → α} {a i a' : Nat} {x : α} (h : a' ≠ a) : u2 f a i x a' = f a' := by funext j; unfold u2; rw [if_neg h]
theorem u1_o {α : Type} {f : Nat → Nat → α} {a a' : Nat} {g : Nat → α} (h : a' ≠ a) : u1 f a g a' = f a' := by funext j; unfold u1; rw [if_neg h]
theorem u2_s {α : Type} {f : Nat → Nat → α} {a i j : Nat} {x : α} : u2 f a i x a j = if j = i then x else f a j := by unfold u2; rw [if_pos rfl]
theorem m_putI {a f i : Nat} {x : Int32} (hd : decode (eB μ) pc = .ok (.putfield i, 3)) (hl : lkG μ i f = true) (ho : isO σ a (f / 64)) (hr : eRf (f / 64) (f % 64) = false) (hx : okI (eTy (f / 64) (f % 64)) x) (h : eMP μ (pc + 3) ls r (setI σ a (f % 64) x) o σo) : eMP μ pc ls (.int x :: .ref a :: r) σ o σo := by
  refine m_putfield (σ' := setI σ a (f % 64) x) hd hl ho ⟨rfl, rfl, rfl⟩ rfl (fun a' ha => ⟨u2_o ha, rfl, rfl⟩) (fun b base j _ => ?_) (fun b base => hx) h
  unfold eFl
  show (if eRf (f / 64) j = true then _ else Value.int (u2 (sI σ) a (f % 64) x a j)) = _
  rw [u2_s]
  by_cases hj : j = f % 64
  · rw [if_pos hj, if_pos hj, hj, if_neg (by rw [hr]; decide)]; rfl
  · rw [if_neg hj, if_neg hj]
theorem m_putR {a f i b9 : Nat} (hd : decode (eB μ) pc = .ok (.putfield i, 3)) (hl : lkG μ i f = true) (ho : isO σ a (f / 64)) (hr : eRf (f / 64) (f % 64) = true) (hx : 0 < b9) (h : eMP μ (pc + 3) ls r (setR σ a (f % 64) b9) o σo) : eMP μ pc ls (.ref b9 :: .ref a :: r) σ o σo := by
  refine m_putfield (σ' := setR σ a (f % 64) b9) hd hl ho ⟨rfl, rfl, rfl⟩ rfl (fun a' ha => ⟨rfl, rfl, u2_o ha⟩) (fun b base j _ => ?_) (fun b base => ?_) h
  · unfold eFl
    show (if eRf (f / 64) j = true then (if u2 (sR σ) a (f % 64) b9 a j = 0 then Value.null else .ref (eAd b base (u2 (sR σ) a (f % 64) b9 a j))) else _) = _
    rw [u2_s]
    by_cases hj : j = f % 64
    · rw [if_pos hj, if_pos hj, hj, if_pos hr, if_neg (by omega)]; rfl
    · rw [if_neg hj, if_neg hj]
  · unfold eRf at hr
    cases hT : eTy (f / 64) (f % 64) <;> rw [hT] at hr <;> first | exact ⟨rfl, rfl⟩ | cases hr
end
end
section
/-! Arrays; the script. -/
section
variable {μ pc : Nat} {ls : eLs} {st : List Value} {σ : eS} {o : eO} {σo : eS} {r : List Value}
theorem eTs_int {cA : FieldType → ClassId} : (eTs cA)[0]? = some (cA .int, .int) := rfl
theorem eTs_long {cA : FieldType → ClassId} : (eTs cA)[3]? = some (cA .long, .long) := rfl
theorem m_iaload {a n : Nat} {i : Int32} (hd : decode (eB μ) pc = .ok (.iaload, 1)) (ha : isA σ a .int n) (hi : vp_in i n) (h : eMP μ (pc + 1) ls (.int (sI σ a i.toNatClampNeg) :: r) σ o σo) : eMP μ pc ls (.int i :: .ref a :: r) σ o σo := by
  refine eStep _ _ _ h fun l b base L xs cA D p e R s m args below meth c H locs cells slots Q la hf hs hr hR hS hla hc hz k => ?_
  by_cases h0 : a = 0
  · subst h0
    obtain ⟨-, -, -, r4, r5, r6⟩ := hR
    have e1 : Sum.inr (FieldType.int, L) = (Sum.inr (FieldType.int, n) : Nat ⊕ (FieldType × Nat)) := r5.symm.trans ha.2
    have e2 : L = n := by injection e1 with e1; injection e1
    subst e2
    have k9 := k la hla
    rw [r6] at k9
    exact va_sld (A := eA base) hf.1 hf.2.1 hs.2.2.2.1 (by have := hs.2.2.2.2.1; have := hs.2.2.2.2.2.1; omega) (by show ¬ base ≤ b; have := hs.2.2.2.2.1; omega) hS hi hd k9
  · exact va_iald hf.1 hf.2.1 hs.1 hR.1 (a - 1) 0 (eW_int (by omega) ha (Or.inl rfl)) eTs_int hi hd (k la hla)
theorem m_baload {a n : Nat} {ty : FieldType} {i : Int32} (hd : decode (eB μ) pc = .ok (.baload, 1)) (ht : ty = .boolean ∨ ty = .byte) (h0 : 0 < a) (ha : isA σ a ty n) (hi : vp_in i n) (h : eMP μ (pc + 1) ls (.int (sI σ a i.toNatClampNeg) :: r) σ o σo) : eMP μ pc ls (.int i :: .ref a :: r) σ o σo := by
  refine eStep _ _ _ h fun l b base L xs cA D p e R s m args below meth c H locs cells slots Q la hf hs hr hR hS hla hc hz k => ?_
  rcases ht with rfl | rfl
  · exact va_zald hf.1 hf.2.1 hs.1 hR.1 (a - 1) 1 (eW_int h0 ha (Or.inr (Or.inl rfl))) rfl hi hd (k la hla)
  · exact va_bald hf.1 hf.2.1 hs.1 hR.1 (a - 1) 2 (eW_int h0 ha (Or.inr (Or.inr rfl))) rfl hi hd (k la hla)
theorem m_laload {a n : Nat} {i : Int32} (hd : decode (eB μ) pc = .ok (.laload, 1)) (h0 : 0 < a) (ha : isA σ a .long n) (hi : vp_in i n) (h : eMP μ (pc + 1) ls (.long (sL σ a i.toNatClampNeg) :: r) σ o σo) : eMP μ pc ls (.int i :: .ref a :: r) σ o σo := by
  refine eStep _ _ _ h fun l b base L xs cA D p e R s m args below meth c H locs cells slots Q la hf hs hr hR hS hla hc hz k => ?_
  exact va_lald hf.1 hf.2.1 hs.1 hR.1 (a - 1) 3 (eW_long h0 ha) eTs_long hi hd (k la hla)
theorem m_aaload {a n : Nat} {C : String} {i : Int32} (hd : decode (eB μ) pc = .ok (.aaload, 1)) (h0 : 0 < a) (ha : isA σ a (.object C) n) (hi : vp_in i n) (hz0 : ¬ sR σ a i.toNatClampNeg = 0) (h : eMP μ (pc + 1) ls (.ref (sR σ a i.toNatClampNeg) :: r) σ o σo) : eMP μ pc ls (.int i :: .ref a :: r) σ o σo := by
  refine eStep _ _ _ h fun l b base L xs cA D p e R s m args below meth c H locs cells slots Q la hf hs hr hR hS hla hc hz k => ?_
  obtain ⟨t0, ht0⟩ := eTs_at (cA := cA) ((hR.2.2.1 a h0 ha.1).2 _ _ ha.2).1
  refine va_aldq hf.1 hf.2.1 hs.1 hR.1 (a - 1) t0 (eW_ref (b := b) (base := base) (cA := cA) h0 ha) ht0 hi hd ?_
  refine W.eq (g2 := F0 m (pc + 1) la ((Value.ref (sR σ a i.toNatClampNeg) :: r).map (eVl b base))) ?_ (k la hla)
  show F0 m (pc + 1) la (va_rf (if sR σ a i.toNatClampNeg = 0 then none else some (eAd b base (sR σ a i.toNatClampNeg))) :: r.map (eVl b base)) = _
  rw [if_neg hz0]
  rfl
theorem eRep_int {b base L : Nat} {xs : Nat → Int32} {cA : FieldType → ClassId} {D : va_G} {H H1 : Heap} {a n i : Nat} {x : Int32} {ty : FieldType} (hR : eRep b base L xs cA D σ H) (h0 : 0 < a) (ha : isA σ a ty n) (ht : ty = .int ∨ ty = .boolean ∨ ty = .byte)
    (hP : va_P D eCl ((eW b base cA σ).set (a - 1) (eAd b base a, .inl (cA ty, n, .inl (upd (sI σ a) i x)))) H1) : eRep b base L xs cA D (setI σ a i x) H1 := by
  refine eRep_set hR h0 ha.1 rfl rfl (fun a' h => ⟨u2_o h, rfl, rfl⟩) ?_ hP
  unfold eCell
  rw [show sK (setI σ a i x) a = .inr (ty, n) from ha.2]
  have e1 : sI (setI σ a i x) a = upd (sI σ a) i x := by
    funext j
    show u2 (sI σ) a i x a j = _
    rw [u2_s]; rfl
  rcases ht with rfl | rfl | rfl <;> (dsimp only; rw [e1])
theorem m_iastore {a n : Nat} {i x : Int32} (hd : decode (eB μ) pc = .ok (.iastore, 1)) (h0 : 0 < a) (ha : isA σ a .int n) (hi : vp_in i n) (h : eMP μ (pc + 1) ls r (setI σ a i.toNatClampNeg x) o σo) : eMP μ pc ls (.int x :: .int i :: .ref a :: r) σ o σo := by
  refine eStepW _ _ (σ' := setI σ a i.toNatClampNeg x) ⟨rfl, rfl, rfl⟩ h fun l b base L xs cA D p e R s m args below meth c H locs cells slots Q la hf hs hr hR hS hla k => ?_
  exact va_iast hf.1 hf.2.1 hs.1 hR.1 eW_D hS (a - 1) 0 (eW_int h0 ha (Or.inl rfl)) eTs_int hi hd (fun H1 locs1 hP _ hS1 => k H1 locs1 (eRep_int hR h0 ha (Or.inl rfl) hP) hS1)
theorem m_bastore {a n : Nat} {ty : FieldType} {i x : Int32} (hd : decode (eB μ) pc = .ok (.bastore, 1)) (ht : ty = .boolean ∨ ty = .byte) (h0 : 0 < a) (ha : isA σ a ty n) (hi : vp_in i n) (h : eMP μ (pc + 1) ls r (setI σ a i.toNatClampNeg (vp_nar ty x)) o σo) : eMP μ pc ls (.int x :: .int i :: .ref a :: r) σ o σo := by
  refine eStepW _ _ (σ' := setI σ a i.toNatClampNeg (vp_nar ty x)) ⟨rfl, rfl, rfl⟩ h fun l b base L xs cA D p e R s m args below meth c H locs cells slots Q la hf hs hr hR hS hla k => ?_
  rcases ht with rfl | rfl
  · exact va_zast hf.1 hf.2.1 hs.1 hR.1 eW_D hS (a - 1) 1 (eW_int h0 ha (Or.inr (Or.inl rfl))) rfl hi hd (fun H1 locs1 hP _ hS1 => k H1 locs1 (eRep_int hR h0 ha (Or.inr (Or.inl rfl)) hP) hS1)
  · exact va_bast hf.1 hf.2.1 hs.1 hR.1 eW_D hS (a - 1) 2 (eW_int h0 ha (Or.inr (Or.inr rfl))) rfl hi hd (fun H1 locs1 hP _ hS1 => k H1 locs1 (eRep_int hR h0 ha (Or.inr (Or.inr rfl)) hP) hS1)
theorem m_lastore {a n : Nat} {i : Int32} {x : Int64} (hd : decode (eB μ) pc = .ok (.lastore, 1)) (h0 : 0 < a) (ha : isA σ a .long n) (hi : vp_in i n) (h : eMP μ (pc + 1) ls r (setL σ a i.toNatClampNeg x) o σo) : eMP μ pc ls (.long x :: .int i :: .ref a :: r) σ o σo := by
  refine eStepW _ _ (σ' := setL σ a i.toNatClampNeg x) ⟨rfl, rfl, rfl⟩ h fun l b base L xs cA D p e R s m args below meth c H locs cells slots Q la hf hs hr hR hS hla k => ?_
  refine va_last hf.1 hf.2.1 hs.1 hR.1 eW_D hS (a - 1) 3 (eW_long h0 ha) eTs_long hi hd (fun H1 locs1 hP _ hS1 => k H1 locs1 (eRep_set hR h0 ha.1 rfl rfl (fun a' h => ⟨rfl, u2_o h, rfl⟩) ?_ hP) hS1)
  unfold eCell
  rw [show sK (setL σ a i.toNatClampNeg x) a = .inr (.long, n) from ha.2]
  have e1 : sL (setL σ a i.toNatClampNeg x) a = vp_updL (sL σ a) i.toNatClampNeg x := by
    funext j
    show u2 (sL σ) a i.toNatClampNeg x a j = _
    rw [u2_s]; rfl
  dsimp only
  rw [e1]
theorem m_aastore {a n v ci : Nat} {i : Int32} (hd : decode (eB μ) pc = .ok (.aastore, 1)) (hci : ci < 10) (h0 : 0 < a) (ha : isA σ a (.object (eCN ci)) n) (hi : vp_in i n) (hv : isO σ v ci) (h : eMP μ (pc + 1) ls r (setR σ a i.toNatClampNeg v) o σo) : eMP μ pc ls (.ref v :: .int i :: .ref a :: r) σ o σo := by
  refine eStepW _ _ (σ' := setR σ a i.toNatClampNeg v) ⟨rfl, rfl, rfl⟩ h fun l b base L xs cA D p e R s m args below meth c H locs cells slots Q la hf hs hr hR hS hla k => ?_
  obtain ⟨t0, ht0⟩ := eTs_at (cA := cA) ((hR.2.2.1 a h0 ha.1).2 _ _ ha.2).1
  refine va_astq hf.1 hf.2.1 hs.1 hR.1 eW_D hS (a - 1) t0 (v - 1) ci (r := (eCN ci, eT ci, eNF ci)) (eW_ref (b := b) (base := base) (cA := cA) h0 ha) ht0 (eW_obj (b := b) (base := base) (cA := cA) hv) (eCl_at hci) hi hd (fun H1 locs1 hP _ hS1 => k H1 locs1 (eRep_set hR h0 ha.1 rfl rfl (fun a' h => ⟨rfl, rfl, u2_o h⟩) ?_ hP) hS1)
  unfold eCell
  rw [show sK (setR σ a i.toNatClampNeg v) a = .inr (.object (eCN ci), n) from ha.2]
  have e1 : (fun j => if sR (setR σ a i.toNatClampNeg v) a j = 0 then none else some (eAd b base (sR (setR σ a i.toNatClampNeg v) a j))) = va_up (fun j => if sR σ a j = 0 then none else some (eAd b base (sR σ a j))) i.toNatClampNeg (some (eAd b base v)) := by
    funext j
    show (if u2 (sR σ) a i.toNatClampNeg v a j = 0 then none else some (eAd b base (u2 (sR σ) a i.toNatClampNeg v a j))) = va_up _ _ _ j
    rw [u2_s]
    unfold va_up
    by_cases hj : j = i.toNatClampNeg
    · rw [if_pos hj, if_pos hj, if_neg (by have := hv.1; omega)]
    · rw [if_neg hj, if_neg hj]
  dsimp only
  rw [e1]
theorem m_arraylength {a n : Nat} {ty : FieldType} (hd : decode (eB μ) pc = .ok (.arraylength, 1)) (ha : isA σ a ty n) (h : eMP μ (pc + 1) ls (.int (Int32.ofNat n) :: r) σ o σo) : eMP μ pc ls (.ref a :: r) σ o σo := by
  refine eStep _ _ _ h fun l b base L xs cA D p e R s m args below meth c H locs cells slots Q la hf hs hr hR hS hla hc hz k => ?_
  by_cases h0 : a = 0
  · subst h0
    obtain ⟨-, -, -, r4, r5, r6⟩ := hR
    have e1 : Sum.inr (FieldType.int, L) = (Sum.inr (ty, n) : Nat ⊕ (FieldType × Nat)) := r5.symm.trans ha.2
    have e2 : L = n := by injection e1 with e1; injection e1
    subst e2
    have q1 := hs.2.2.2.2.1
    have q2 := hs.2.2.2.2.2.1
    have q3 : ¬ eA base b := fun z => Nat.lt_irrefl _ (Nat.lt_of_lt_of_le q1 z)
    have q4 : b < s.heap.size := Nat.lt_of_lt_of_le q1 q2
    exact va_slen (A := eA base) hf.1 hf.2.1 hs.2.2.2.1 q4 q3 hS hd (k la hla)
  · have ha0 : 0 < a := by omega
    obtain ⟨t0, ht0⟩ := eTs_at (cA := cA) ((hR.2.2.1 a ha0 ha.1).2 _ _ ha.2).1
    have he : ∃ y, (eW b base cA σ)[a - 1]? = some (eAd b base a, .inl (cA ty, n, y)) := by
      rw [eW_at ha0 ha.1]
      unfold eCell
      rw [ha.2]
      exact ⟨_, rfl⟩
    obtain ⟨y, he⟩ := he
    exact va_alen hf.1 hf.2.1 hs.1 hR.1 (a - 1) t0 he ht0 rfl hd (k la hla)
theorem m_copyI {a a0 n0 n1 i : Nat} {n dp sp : Int32} (hd : decode (eB μ) pc = .ok (.invokestatic i, 3)) (hw : Cond.methodLink (eCN (eC μ)) i arraycopyName ∈ gTb) (hnat : Cond.native arraycopyName ∈ gTb) (hst : Cond.static arraycopyName ∈ gTb) (hin : Cond.initialized "java/lang/System" ∈ gTb) (hdp : 1 ≤ eDp μ) (h8 : stw r ≤ 8)
    (g1 : ¬ sp < 0) (g2 : ¬ dp < 0) (g3 : ¬ n < 0) (g4 : 0 < a0) (g5 : 0 < a) (ha0 : isA σ a0 .int n0) (ha : isA σ a .int n1) (g6 : sp.toNatClampNeg + n.toNatClampNeg ≤ n0) (g7 : dp.toNatClampNeg + n.toNatClampNeg ≤ n1)
    (h : eMP μ (pc + 3) ls r (cpyI σ a0 a sp.toNatClampNeg dp.toNatClampNeg n.toNatClampNeg) o σo) : eMP μ pc ls (.int n :: .int dp :: .ref a :: .int sp :: .ref a0 :: r) σ o σo := by
  refine eStepW _ _ (σ' := cpyI σ a0 a sp.toNatClampNeg dp.toNatClampNeg n.toNatClampNeg) ⟨rfl, rfl, rfl⟩ h fun l b base L xs cA D p e R s m args below meth c H locs cells slots Q la hf hs hr hR hS hla k => ?_
  have h9 := eRoom (b := b) (base := base) h8
  have hww : nativeFrameWords "java/lang/System" "arraycopy" 5 + 11 ≤ 100 := by decide +kernel
  refine va_copyi hf.1 hf.2.1 (by rw [hf.2.2.2.1]; exact hla.1.symm) hf.2.2.2.2.1 (hf.2.2.2.2.2.1 _ hw) (hf.2.2.2.2.2.1 _ hnat) (hf.2.2.2.2.2.1 _ hst) (hf.2.2.2.2.2.1 _ hin) hs.1 hR.1 eW_D hS (a0 - 1) (a - 1) 0 0 (eW_int g4 ha0 (Or.inl rfl)) (eW_int g5 ha (Or.inl rfl)) eTs_int eTs_int rfl g1 g2 g3 g6 g7 (fun _ _ => rfl) (by have := hr.1; omega) (by have := hr.2; omega) hd
    (fun H1 locs1 hP _ hS1 => k H1 locs1 (eRep_set hR g5 ha.1 rfl rfl (fun a' h => ⟨u1_o h, rfl, rfl⟩) ?_ hP) hS1)
  unfold eCell
  rw [show sK (cpyI σ a0 a sp.toNatClampNeg dp.toNatClampNeg n.toNatClampNeg) a = .inr (.int, n1) from ha.2]
  have e1 : sI (cpyI σ a0 a sp.toNatClampNeg dp.toNatClampNeg n.toNatClampNeg) a = va_cpy (sI σ a0) (sI σ a) sp.toNatClampNeg dp.toNatClampNeg n.toNatClampNeg := by
    funext j
    show u1 _ a _ a j = _
    unfold u1; rw [if_pos rfl]
  dsimp only
  rw [e1]
theorem m_copyL {a a0 n0 n1 i : Nat} {n dp sp : Int32} (hd : decode (eB μ) pc = .ok (.invokestatic i, 3)) (hw : Cond.methodLink (eCN (eC μ)) i arraycopyName ∈ gTb) (hnat : Cond.native arraycopyName ∈ gTb) (hst : Cond.static arraycopyName ∈ gTb) (hin : Cond.initialized "java/lang/System" ∈ gTb) (hdp : 1 ≤ eDp μ) (h8 : stw r ≤ 8)
    (g1 : ¬ sp < 0) (g2 : ¬ dp < 0) (g3 : ¬ n < 0) (g4 : 0 < a0) (g5 : 0 < a) (ha0 : isA σ a0 .long n0) (ha : isA σ a .long n1) (g6 : sp.toNatClampNeg + n.toNatClampNeg ≤ n0) (g7 : dp.toNatClampNeg + n.toNatClampNeg ≤ n1)
    (h : eMP μ (pc + 3) ls r (cpyL σ a0 a sp.toNatClampNeg dp.toNatClampNeg n.toNatClampNeg) o σo) : eMP μ pc ls (.int n :: .int dp :: .ref a :: .int sp :: .ref a0 :: r) σ o σo := by
  refine eStepW _ _ (σ' := cpyL σ a0 a sp.toNatClampNeg dp.toNatClampNeg n.toNatClampNeg) ⟨rfl, rfl, rfl⟩ h fun l b base L xs cA D p e R s m args below meth c H locs cells slots Q la hf hs hr hR hS hla k => ?_
  have h9 := eRoom (b := b) (base := base) h8
  have hww : nativeFrameWords "java/lang/System" "arraycopy" 5 + 11 ≤ 100 := by decide +kernel
  refine va_copyl hf.1 hf.2.1 (by rw [hf.2.2.2.1]; exact hla.1.symm) hf.2.2.2.2.1 (hf.2.2.2.2.2.1 _ hw) (hf.2.2.2.2.2.1 _ hnat) (hf.2.2.2.2.2.1 _ hst) (hf.2.2.2.2.2.1 _ hin) hs.1 hR.1 eW_D hS (a0 - 1) (a - 1) 3 3 (eW_long g4 ha0) (eW_long g5 ha) eTs_long eTs_long rfl g1 g2 g3 g6 g7 (fun _ _ => rfl) (by have := hr.1; omega) (by have := hr.2; omega) hd
    (fun H1 locs1 hP _ hS1 => k H1 locs1 (eRep_set hR g5 ha.1 rfl rfl (fun a' h => ⟨rfl, u1_o h, rfl⟩) ?_ hP) hS1)
  unfold eCell
  rw [show sK (cpyL σ a0 a sp.toNatClampNeg dp.toNatClampNeg n.toNatClampNeg) a = .inr (.long, n1) from ha.2]
  have e1 : sL (cpyL σ a0 a sp.toNatClampNeg dp.toNatClampNeg n.toNatClampNeg) a = va_cpy (sL σ a0) (sL σ a) sp.toNatClampNeg dp.toNatClampNeg n.toNatClampNeg := by
    funext j
    show u1 _ a _ a j = _
    unfold u1; rw [if_pos rfl]
  dsimp only
  rw [e1]
end
end
section
/-! More that stands among the tables' words. -/
def eIp : List (Nat × Nat) := [(31, 2), (54, 3), (100, 5), (227, 8), (184, 7), (80, 4), (262, 9), (107, 6), (23, 1), (963, 10)]
theorem eI_ok : ((List.range 10).all fun c => eAt ((eIp[c]?).getD (0, 0)).1 (.instantiable (eCN c) (eNF c)) && eAt ((eIp[c]?).getD (0, 0)).2 (.initialized (eCN c))) = true := by decide +kernel
theorem eAC_int : Cond.arrayClass .int ∈ gTb := List.mem_filter.mpr ⟨eAt_mem (i := 77) (by decide +kernel), rfl⟩
theorem eAC_long : Cond.arrayClass .long ∈ gTb := List.mem_filter.mpr ⟨eAt_mem (i := 78) (by decide +kernel), rfl⟩
theorem eAC_byte : Cond.arrayClass .byte ∈ gTb := List.mem_filter.mpr ⟨eAt_mem (i := 431) (by decide +kernel), rfl⟩
theorem eAC_boolean : Cond.arrayClass .boolean ∈ gTb := List.mem_filter.mpr ⟨eAt_mem (i := 1122) (by decide +kernel), rfl⟩
theorem eSys_nat : Cond.native arraycopyName ∈ gTb := List.mem_filter.mpr ⟨eAt_mem (i := 792) (by decide +kernel), rfl⟩
theorem eSys_st : Cond.static arraycopyName ∈ gTb := List.mem_filter.mpr ⟨eAt_mem (i := 791) (by decide +kernel), rfl⟩
theorem eSys_in : Cond.initialized "java/lang/System" ∈ gTb := List.mem_filter.mpr ⟨eAt_mem (i := 21) (by decide +kernel), rfl⟩
theorem eMath_in : Cond.initialized "java/lang/Math" ∈ gTb := List.mem_filter.mpr ⟨eAt_mem (i := 18) (by decide +kernel), rfl⟩
theorem eMath_max_st : Cond.static Lib.Math.max.name ∈ gTb := List.mem_filter.mpr ⟨eAt_mem (i := 558) (by decide +kernel), rfl⟩
theorem eMath_max_co : Cond.code Lib.Math.max.name Lib.Math.max.code 2 (some .int) ∈ gTb := List.mem_filter.mpr ⟨eAt_mem (i := 559) (by decide +kernel), rfl⟩
theorem eMath_min_st : Cond.static Lib.Math.min.name ∈ gTb := List.mem_filter.mpr ⟨eAt_mem (i := 555) (by decide +kernel), rfl⟩
theorem eMath_min_co : Cond.code Lib.Math.min.name Lib.Math.min.code 2 (some .int) ∈ gTb := List.mem_filter.mpr ⟨eAt_mem (i := 556) (by decide +kernel), rfl⟩
theorem eObj_in : Cond.instanceMethod objectInit ∈ gTb := List.mem_filter.mpr ⟨eAt_mem (i := 28) (by decide +kernel), rfl⟩
theorem eObj_co : Cond.code objectInit ⟨#[0xb1]⟩ 1 none ∈ gTb := List.mem_filter.mpr ⟨eAt_mem (i := 29) (by decide +kernel), rfl⟩
theorem eEI_0 : Cond.initialized (eEN 0) ∈ gTb := List.mem_filter.mpr ⟨eAt_mem (i := 14) (by decide +kernel), rfl⟩
theorem eEI_1 : Cond.initialized (eEN 1) ∈ gTb := List.mem_filter.mpr ⟨eAt_mem (i := 15) (by decide +kernel), rfl⟩
theorem eEI_2 : Cond.initialized (eEN 2) ∈ gTb := List.mem_filter.mpr ⟨eAt_mem (i := 16) (by decide +kernel), rfl⟩
theorem eEI_3 : Cond.initialized (eEN 3) ∈ gTb := List.mem_filter.mpr ⟨eAt_mem (i := 20) (by decide +kernel), rfl⟩
abbrev eNms : List String := ["java/lang/RuntimeException", "java/lang/Exception"]
theorem eEx_0 : ∀ w ∈ vx_atS RX8 62 (eEN 0) eNms, w ∈ lw_tbl ∧ (goodWord w = true ∨ eNg w = true) := by decide +kernel
theorem eCs_0 : Cond.castable (eEN 0) (eEN 0) ∈ lw_tbl := eAt_mem (i := 365) (by decide +kernel)
theorem eEx_1 : ∀ w ∈ vx_atS RX8 73 (eEN 1) eNms, w ∈ lw_tbl ∧ (goodWord w = true ∨ eNg w = true) := by decide +kernel
theorem eCs_1 : Cond.castable (eEN 1) (eEN 1) ∈ lw_tbl := eAt_mem (i := 434) (by decide +kernel)
theorem eEx_2 : ∀ w ∈ vx_atS RX8 371 (eEN 2) eNms, w ∈ lw_tbl ∧ (goodWord w = true ∨ eNg w = true) := by decide +kernel
theorem eCs_2 : Cond.castable (eEN 2) (eEN 2) ∈ lw_tbl := eAt_mem (i := 467) (by decide +kernel)
theorem eCs_3 : Cond.castable (eEN 3) (eEN 3) ∈ lw_tbl := eAt_mem (i := 676) (by decide +kernel)
theorem eLI_e : (eLI.all fun t => decide (t.2.1 = match t.2.2.1 with | 0 => 62 | 1 => 73 | 2 => 371 | _ => 193) && decide (t.1 = 8)) = true := by decide +kernel
theorem eLn : ((List.range 175).all fun q => decide (eL q ≤ 21)) = true := by decide +kernel
theorem eEI {e : Nat} (h : e < 4) : Cond.initialized (eEN e) ∈ gTb := by
  match e, h with
  | 0, _ => exact eEI_0 | 1, _ => exact eEI_1 | 2, _ => exact eEI_2 | 3, _ => exact eEI_3
theorem eCs {e : Nat} (h : e < 4) : Cond.castable (eEN e) (eEN e) ∈ lw_tbl := by
  match e, h with
  | 0, _ => exact eCs_0 | 1, _ => exact eCs_1 | 2, _ => exact eCs_2 | 3, _ => exact eCs_3
theorem eFit {e : Nat} (h : e < 4) : Bundle.fit (eEN e) = true := by
  match e, h with
  | 0, _ => decide +kernel | 1, _ => decide +kernel | 2, _ => decide +kernel | 3, _ => decide +kernel
theorem eEx {ic e : Nat} (h : lkI 8 ic e = true) (he : e < 3) : ∀ w ∈ vx_atS RX8 ic (eEN e) eNms, w ∈ lw_tbl ∧ (goodWord w = true ∨ eNg w = true) := by
  obtain ⟨t, ht, h1⟩ := List.any_eq_true.mp h
  simp only [Bool.and_eq_true, beq_iff_eq] at h1
  obtain ⟨⟨-, h1⟩, h2⟩ := h1
  have h3 := List.all_eq_true.mp eLI_e t ht
  simp only [Bool.and_eq_true, decide_eq_true_eq] at h3
  rw [h1, h2] at h3
  obtain ⟨h3, -⟩ := h3
  match e, he with
  | 0, _ => rw [h3]; exact eEx_0
  | 1, _ => rw [h3]; exact eEx_1
  | 2, _ => rw [h3]; exact eEx_2
theorem eInst {c : Nat} (h : c < 10) : Cond.instantiable (eCN c) (eNF c) ∈ gTb ∧ Cond.initialized (eCN c) ∈ gTb := by
  have h1 := List.all_eq_true.mp eI_ok c (List.mem_range.mpr h)
  simp only [Bool.and_eq_true] at h1
  exact ⟨List.mem_filter.mpr ⟨eAt_mem h1.1, rfl⟩, List.mem_filter.mpr ⟨eAt_mem h1.2, rfl⟩⟩
theorem eDef_ok : ((List.range 10).all fun c => (List.range (eNF c)).all fun k => decide (defaultValue (eTy c k) = if eRf c k = true then .null else .int 0)) = true := by decide +kernel
theorem eDef {c k : Nat} (h : c < 10) (hk : k < eNF c) : defaultValue (eTy c k) = if eRf c k = true then .null else .int 0 :=
  of_decide_eq_true (List.all_eq_true.mp (List.all_eq_true.mp eDef_ok c (List.mem_range.mpr h)) k (List.mem_range.mpr hk))
theorem eNg_tab {w : Cond} (h : eNg w = true) : w.onTables = true := by
  cases w <;> simp only [eNg] at h <;> first | rfl | cases h
theorem lk_any {α : Type} {l : List α} {f g : α → Bool} (hf : l.any f = true) (hg : l.all g = true) : ∃ t ∈ l, f t = true ∧ g t = true := by
  obtain ⟨t, ht, h1⟩ := List.any_eq_true.mp hf
  exact ⟨t, ht, h1, List.all_eq_true.mp hg t ht⟩
theorem lkN_spec {own i c : Nat} (h : lkN own i c = true) : c < 10 ∧ Cond.classLink (eCN own) i (eCN c) ∈ gTb := by
  obtain ⟨t, -, h1, h2⟩ := lk_any h eLN_ok
  simp only [Bool.and_eq_true, beq_iff_eq, decide_eq_true_eq] at h1 h2
  obtain ⟨⟨e1, e2⟩, e3⟩ := h1
  rw [e1, e2, e3] at h2
  exact ⟨h2.2, List.mem_filter.mpr ⟨eAt_mem h2.1, rfl⟩⟩
theorem lkE_spec {own i e : Nat} (h : lkE own i e = true) : Cond.classLink (eCN own) i (eEN e) ∈ gTb := by
  obtain ⟨t, -, h1, h2⟩ := lk_any h eLE_ok
  simp only [Bool.and_eq_true, beq_iff_eq] at h1
  obtain ⟨⟨e1, e2⟩, e3⟩ := h1
  rw [e1, e2, e3] at h2
  exact List.mem_filter.mpr ⟨eAt_mem h2, rfl⟩
theorem lkC_spec {own i : Nat} {v : Int} (h : lkC own i v = true) : Cond.constant (eCN own) i (Int32.ofInt v) ∈ gTb := by
  obtain ⟨t, -, h1, h2⟩ := lk_any h eLC_ok
  simp only [Bool.and_eq_true, beq_iff_eq] at h1
  obtain ⟨⟨e1, e2⟩, e3⟩ := h1
  rw [e1, e2, e3] at h2
  exact List.mem_filter.mpr ⟨eAt_mem h2, rfl⟩
theorem lkL_spec {own i v : Nat} (h : lkL own i v = true) : Cond.constantLong (eCN own) i (Int64.ofNat v) ∈ gTb := by
  obtain ⟨t, -, h1, h2⟩ := lk_any h eLL_ok
  simp only [Bool.and_eq_true, beq_iff_eq] at h1
  obtain ⟨⟨e1, e2⟩, e3⟩ := h1
  rw [e1, e2, e3] at h2
  exact List.mem_filter.mpr ⟨eAt_mem h2, rfl⟩
theorem lkO_spec {own i : Nat} (h : lkO own i = true) : Cond.methodLink (eCN own) i objectInit ∈ gTb := by
  obtain ⟨t, -, h1, h2⟩ := lk_any h eLO_ok
  simp only [Bool.and_eq_true, beq_iff_eq] at h1
  obtain ⟨e1, e2⟩ := h1
  rw [e1, e2] at h2
  exact List.mem_filter.mpr ⟨eAt_mem h2, rfl⟩
theorem lkP_spec {own i : Nat} (h : lkP own i = true) : Cond.methodLink (eCN own) i arraycopyName ∈ gTb := by
  obtain ⟨t, -, h1, h2⟩ := lk_any h eLP_ok
  simp only [Bool.and_eq_true, beq_iff_eq] at h1
  obtain ⟨e1, e2⟩ := h1
  rw [e1, e2] at h2
  exact List.mem_filter.mpr ⟨eAt_mem h2, rfl⟩
theorem lkX_spec {own i e : Nat} (h : lkX own i e = true) : Cond.methodLink (eCN own) i (if e = 1 then Lib.Math.max.name else Lib.Math.min.name) ∈ gTb := by
  obtain ⟨t, -, h1, h2⟩ := lk_any h eLX_ok
  simp only [Bool.and_eq_true, beq_iff_eq] at h1
  obtain ⟨⟨e1, e2⟩, e3⟩ := h1
  rw [e1, e2, e3] at h2
  exact List.mem_filter.mpr ⟨eAt_mem h2, rfl⟩
theorem lkS_spec {i : Nat} (h : lkS i = true) : ∃ tx, (i, tx) ∈ eLS.map (fun t => (t.1, t.2.1)) := by
  obtain ⟨t, ht, h1⟩ := List.any_eq_true.mp h
  simp only [beq_iff_eq] at h1
  exact ⟨t.2.1, List.mem_map.mpr ⟨t, ht, by rw [h1]⟩⟩
theorem lkM_spec {own i q : Nat} (h : lkM own i q = true) : Cond.methodLinkNest (eCN own) i (eY q) "EventVault" ∈ lw_tbl ∨ Cond.methodLink (eCN own) i (eY q) ∈ gTb := by
  obtain ⟨t, -, h1, h2⟩ := lk_any h eLM_ok
  simp only [Bool.and_eq_true, beq_iff_eq, decide_eq_true_eq] at h1 h2
  obtain ⟨⟨e1, e2⟩, e3⟩ := h1
  have h3 := eAt_mem h2.1
  unfold eMw at h3
  rw [e1, e2, e3] at h3
  split at h3
  · exact Or.inl h3
  · exact Or.inr (List.mem_filter.mpr ⟨h3, rfl⟩)
end
section
/-! A throw whose constructor's pool entry isn't the usual one (follows the proof of the library's Stand.ctorThrowS, with that entry as a parameter; less is said of the object). -/
def nsAtoms (own : String) (ic : Nat) (X : String) (ix : Nat) (rx : ByteArray) (Y : String) (r : List String) : List Cond :=
  Bundle.throwableAtoms ++ Bundle.throwableSAtoms ++ (Bundle.passSAtoms X Y ix rx ++ Bundle.chainSAtoms Y r) ++
  [.methodLink own ic (Bundle.initS X), .instantiable X 6, .castable X X, .selects X Bundle.tFill0 Bundle.tFill0, .selects X Bundle.tFill Bundle.tFill,
   .lays X Bundle.tN "cause" "Ljava/lang/Throwable;", .lays X Bundle.tN "stackTrace" Bundle.steD, .lays X Bundle.tN "suppressedExceptions" Bundle.listD, .lays X Bundle.tN "detailMessage" "Ljava/lang/String;",
   .isRef (.static Bundle.tN "UNASSIGNED_STACK" Bundle.steD), .isRef (.static Bundle.tN "SUPPRESSED_SENTINEL" Bundle.listD),
   .fieldLink Bundle.tN 198 Bundle.tN "backtrace" "Ljava/lang/Object;", .lays Bundle.tN Bundle.tN "backtrace" "Ljava/lang/Object;", .lays X Bundle.tN "backtrace" "Ljava/lang/Object;"]
theorem ns_chain {args : Array Value} {s : State} {pl : Platform} (hpl : pl.magicAccessors = ({} : Platform).magicAccessors) {top : MethodId} (htop : s.methodNamed? (Bundle.initS Bundle.tN) = some top) {ix : Nat} {rx : ByteArray}
    (x0 : decode rx 0 = .ok (.aload_n 0, 1)) (x1 : decode rx 1 = .ok (.aload_n 1, 1)) (x2 : decode rx 2 = .ok (.invokespecial ix, 3)) (x5 : decode rx 5 = .ok (.return_, 1))
    {X Y : String} {r : List String} (hX : Bundle.fit X = true) (hn : ∀ n ∈ Y :: r, Bundle.fit n = true) (h : ∀ c ∈ Bundle.passSAtoms X Y ix rx ++ Bundle.chainSAtoms Y r, c.before args s = true) :
    ∃ (P1 : PassC) (Ps : List PassC), Ps.length = (Y :: r).length ∧ P1.LinksS pl s ∧ (∀ P, P ∈ Ps → P.LinksS pl s) ∧ s.methodNamed? (Bundle.initS X) = some P1.m ∧
      P1.sup = firstOf top (Ps.map (·.toPassT)) ∧ PassesOn top (Ps.map (·.toPassT)) := by
  obtain ⟨P, L, hm, hs⟩ := PassC.ofS_atoms (args := args) (s := s) hpl (X := X) (Y := Y) (Bundle.fit_spec hX).1 (Bundle.fit_spec (hn Y List.mem_cons_self)).2 x0 x1 x2 x5 (fun c hc => h c (List.mem_append_left _ hc))
  obtain ⟨P', Ps, hlen, L', hL, hm', hsup, hpass⟩ := Bundle.chainS (args := args) hpl htop r Y (hn Y List.mem_cons_self) (fun n hn' => hn n (List.mem_cons_of_mem _ hn')) (fun c hc => h c (List.mem_append_right _ hc))
  refine ⟨P, P' :: Ps, by simp [hlen], L, ?_, hm, Option.some.inj (hs.symm.trans hm'), hsup, hpass⟩
  intro Q hQ
  rcases List.mem_cons.mp hQ with rfl | hQ
  · exact L'
  · exact hL Q hQ
set_option maxHeartbeats 1000000 in
theorem ns_ctor {p : Program} {l : Launch} {e : Env} {R : Room} {s : State} {m₀ : MethodId} {args : Array Value} {below : List Frame} {meth : Method} {c : Code} {W : State} {locs : List Loc} {cells slots : Nat}
    (X : Stand p l e R s m₀ args below meth c W locs cells slots) (hexec : p.tables.exec = Jvm.exec) (htr : e.platform.stackTraces = false) {own cls Y9 : String} {names : List String} {ic ix : Nat} {rx : ByteArray}
    (x0 : decode rx 0 = .ok (.aload_n 0, 1)) (x1 : decode rx 1 = .ok (.aload_n 1, 1)) (x2 : decode rx 2 = .ok (.invokespecial ix, 3)) (x5 : decode rx 5 = .ok (.return_, 1))
    (hown : s.vm.findClass own = some m₀.cls) (hcls : Bundle.fit cls = true) (hnames : ∀ n ∈ Y9 :: names, Bundle.fit n = true)
    (h : ∀ a ∈ nsAtoms own ic cls ix rx Y9 names, a.before args s = true)
    (hlocs : ∀ x ∈ locs, ∀ cell, s.heap[x.base]? = some cell → cell.vm.isStatics = false)
    {a : Addr} {cX : ClassId} {kX : Class} (hfoundX : s.vm.findClass cls = some cX) (hkX : s.vm.classes[cX]? = some kX) (hcell : W.heap[a]? = some (freshCell cX kX)) (hnew : s.heap.size ≤ a)
    {msg : Value} (hmsg : msg.isRef = true)
    {g : JFrame} (hg : g.method = m₀) (hsize : g.locals.size = c.maxLocals) (hlocked : g.locked = none) (hentered : g.entered = []) {rest : List Value} (hstack : g.stack = msg :: .ref a :: .ref a :: rest)
    (hd6 : decode c.code g.pc = .ok (.invokespecial ic, 3)) (hd9 : decode c.code (g.pc + 3) = .ok (.athrow, 1)) (hout : ∀ x ∈ c.exceptionTable.toList, covers x (g.pc + 3) = false)
    (hRframes : (Y9 :: names).length + 3 < R.frames) (hRlocals : 2 * g.monitorRoom + ((Value.ref a :: rest).map fun v => v.category).sum + (13 * ((Y9 :: names).length + 1) + 42) ≤ R.locals) (hlocks : meth.locks = false) :
    ∃ U : State, Steps p.tables e below (W.setTop g) U ∧ U.status = .running ∧ Ended U below (.threw a) ∧ s.WarmedH U.vm ∧ s.sameButNew ({ U with vm := s.vm } : State) locs cells slots ∧
      ∃ ce, U.heap[a]? = some ce ∧ ce.cls = cX ∧ ce.vm = .none := by
  have howns : e.platform.frameOwnsMonitors = true := by rw [X.admits.platform]
  have hfin : e.platform.finalization = false := by rw [X.admits.platform]
  have hpl : e.platform.magicAccessors = ({} : Platform).magicAccessors := by rw [X.admits.platform]
  have a' : ∀ x, x ∈ nsAtoms own ic cls ix rx Y9 names → x.holds args s none s [] = true := fun x hx => h x hx
  obtain ⟨T, Z0, L, -, Y⟩ := ThrowableC.of_atoms (args := args) howns hfin hpl (fun x hx => h x (by simp [nsAtoms, hx]))
  obtain ⟨Z, M, LZ, LM, hnZ⟩ := Init0T.ofS_atoms (args := args) hpl L Y (fun x hx => h x (by simp [nsAtoms, hx]))
  obtain ⟨P1, Ps, hlen, L1, hL, hP1m, hlink1, hlink⟩ := ns_chain (args := args) hpl hnZ x0 x1 x2 x5 hcls hnames (fun x hx => h x (by unfold nsAtoms; exact List.mem_append_left _ (List.mem_append_right _ hx)))
  have hfound : s.vm.findClass cls = some P1.m.cls := findClass_of_methodNamed hP1m
  cases Option.some.inj (hfoundX.symm.trans hfound)
  obtain ⟨c1, kX', hc1, hk, hord, -, -, hn6⟩ := Cond.instantiable_spec (a' (.instantiable cls 6) (by simp [nsAtoms]))
  cases Option.some.inj (hc1.symm.trans hfound)
  cases Option.some.inj (hkX.symm.trans hk)
  have hsel0 : selectMethod e.platform s.vm P1.m.cls T.fill0 = .method T.fill0 := by
    obtain ⟨c2, r2, m2, q1, q2, q3, q4, -⟩ := Cond.selects_spec (a' (.selects cls Bundle.tFill0 Bundle.tFill0) (by simp [nsAtoms]))
    cases Option.some.inj (q1.symm.trans hfound)
    cases Option.some.inj (q2.symm.trans (State.methodFound?_of_named Y.fill0 (by decide)))
    cases Option.some.inj (q3.symm.trans Y.fill0)
    rw [Launch.admits_selectMethod X.admits]; exact q4
  have hselF : selectMethod e.platform s.vm P1.m.cls T.fill = .method T.fill := by
    obtain ⟨c2, r2, m2, q1, q2, q3, q4, -⟩ := Cond.selects_spec (a' (.selects cls Bundle.tFill Bundle.tFill) (by simp [nsAtoms]))
    cases Option.some.inj (q1.symm.trans hfound)
    cases Option.some.inj (q2.symm.trans (State.methodFound?_of_named Y.fill (by decide)))
    cases Option.some.inj (q3.symm.trans Y.fill)
    rw [Launch.admits_selectMethod X.admits]; exact q4
  obtain ⟨cellS0, hcS0, hiss⟩ := Y.statics
  obtain ⟨u0, hu0⟩ := Cond.staticRefV Y.unassigned L.unassignedStatic L.statics hcS0 hiss (a' (.isRef (.static Bundle.tN "UNASSIGNED_STACK" Bundle.steD)) (by simp [nsAtoms]))
  obtain ⟨sen, hsen⟩ := Cond.staticRefV Y.sentinel L.sentinelStatic L.statics hcS0 hiss (a' (.isRef (.static Bundle.tN "SUPPRESSED_SENTINEL" Bundle.listD)) (by simp [nsAtoms]))
  obtain ⟨ci198, i198, fB, hk198, hg198, ha198, hsB, -, hnB, htB, hffB⟩ := Cond.ownField (t := .object "java/lang/Object") Y.found L.cls (by decide +kernel) (a' (.fieldLink Bundle.tN 198 Bundle.tN "backtrace" "Ljava/lang/Object;") (by simp [nsAtoms])) (a' (.lays Bundle.tN Bundle.tN "backtrace" "Ljava/lang/Object;") (by simp [nsAtoms])) e.platform hpl
  obtain ⟨cellS, hcS', heS, -, hkeep⟩ := X.same.2.2.2.2.2 T.aS cellS0 hcS0
  have hcellS : W.heap[T.aS]? = some cellS := hcS'
  have hout' : ∀ i, (⟨T.aS, i⟩ : Loc) ∉ locs := fun i hmem => by
    have := hlocs _ hmem cellS0 hcS0
    rw [hiss] at this; cases this
  have hknownS : cellS.vm ≠ .unknown := by
    rw [heS]; intro hu
    rw [show cellS0.vm = .unknown from hu] at hiss
    cases hiss
  have hneS : T.aS ≠ a := Nat.ne_of_lt (Nat.lt_of_lt_of_le (Array.getElem?_eq_some_iff.mp hcS0).1 hnew)
  obtain ⟨iM, hffM⟩ := Y.msg
  obtain ⟨tyC, dC, hdC, hdnC⟩ := Cond.laysAt hfound hk Y.cause (a' (.lays cls Bundle.tN "cause" "Ljava/lang/Throwable;") (by simp [nsAtoms]))
  obtain ⟨tyS, dS, hdS, hdnS⟩ := Cond.laysAt hfound hk Y.stack (a' (.lays cls Bundle.tN "stackTrace" Bundle.steD) (by simp [nsAtoms]))
  obtain ⟨tyP, dP, hdP, hdnP⟩ := Cond.laysAt hfound hk Y.supp (a' (.lays cls Bundle.tN "suppressedExceptions" Bundle.listD) (by simp [nsAtoms]))
  obtain ⟨tyM, dM, hdM, hdnM⟩ := Cond.laysAt hfound hk hffM (a' (.lays cls Bundle.tN "detailMessage" "Ljava/lang/String;") (by simp [nsAtoms]))
  obtain ⟨tyB, dB, hdB, hdnB⟩ := Cond.laysAt hfound hk hffB (a' (.lays cls Bundle.tN "backtrace" "Ljava/lang/Object;") (by simp [nsAtoms]))
  have bC := Cond.laysApart hdB hdC hdnB hdnC (by rw [hnB, Y.causeName]; decide)
  have bS := Cond.laysApart hdB hdS hdnB hdnS (by rw [hnB, Y.stackName]; decide)
  have bP := Cond.laysApart hdB hdP hdnB hdnP (by rw [hnB, Y.suppName]; decide)
  have hskip : SkipFacts T e.platform s (fun u => u) u0 ((preparedCellV T.toThrowableT (freshCell P1.m.cls kX) a u0 sen).withEntry W.cur) :=
    ⟨{ ci198 := ci198, i198 := i198, fBack := fB }, ⟨hk198, hg198, ha198, hsB⟩, by
      have := fresh_default (c := P1.m.cls) tyB
      rw [htB] at this
      simpa [preparedCellV, Cell.setSlot, Cell.withEntry, Array.getElem?_setIfInBounds, bC, bS, bP, bC.symm, bS.symm, bP.symm, defaultValue] using this, fun _ _ => rfl⟩
  obtain ⟨tm, methC, cdC, kC, vm₁, hnC, -, -, -, -, -, -, -, hW₁, st1⟩ := Steps.initColdS (tb := p.tables) (e := e) (below := below) (s := s) (U := W) X.here hexec X.warmed hpl hown (t := Bundle.initS cls) rfl rfl (Bundle.fit_spec hcls).2
    (a' (.methodLink own ic (Bundle.initS cls)) (by simp [nsAtoms])) (h (.instanceMethod (Bundle.initS cls)) (by simp [nsAtoms, Bundle.passSAtoms])) (bytes := rx) (maxL := 2) (h (.code (Bundle.initS cls) rx 2 none) (by simp [nsAtoms, Bundle.passSAtoms]))
    (f := g) hg (a := a) (msg := msg) (rest := .ref a :: rest) hstack hd6
  cases Option.some.inj (hnC.symm.trans hP1m)
  have X₁ := X.noted hW₁
  obtain ⟨vm₂, X₂, st2⟩ := X₁.ctorMessageOffV hexec (g := { g with stack := .ref a :: rest }) hg hsize T L Z LZ M LM (P1 :: Ps)
    (fun P hP => by rcases List.mem_cons.mp hP with rfl | hP; exact L1; exact hL P hP) ⟨hlink1, hlink⟩ (u0 := u0) (sen := sen) (self := a) hmsg (cell := freshCell P1.m.cls kX) (cellS := cellS)
    hcell (fun _ => by simp) (by simp) rfl rfl hsel0 hselF hcellS hneS hknownS (by rw [hkeep _ (hout' _)]; exact hu0) (by rw [hkeep _ (hout' _)]; exact hsen)
    (Takes.of_laid hk hord tyC (by rw [Y.causeType]; rfl)) (Takes.of_laid hk hord tyS (by rw [Y.stackType]; exact fits_refV_array _ u0)) (Takes.of_laid hk hord tyP (by rw [Y.suppType]; exact fits_refV_object _ sen))
    (Takes.of_laid hk hord tyM (by rw [Y.msgType]; exact fits_refV_object _ ⟨msg, hmsg⟩)) Y.objLocals hskip htr [] hd6
    (by simp only [List.length_cons, hlen]; simp only [List.length_cons] at hRframes; omega) (by simp only [List.length_cons, hlen]; exact hRlocals)
  obtain ⟨hwalk, hrun, hended, hWU, hsame⟩ := X₂.athrowLeaves hexec (g := { g with stack := .ref a :: rest, pc := g.pc + 3 }) hg hlocked hentered hout (a := a) (rest := rest) rfl hd9
  have hlt : a < ((W.setVm vm₁).setVm vm₂).heap.size := (Array.getElem?_eq_some_iff.mp hcell).1
  have hU := heapAt_setCell_self (s := (W.setVm vm₁).setVm vm₂) (plainBareV T.toThrowableT (freshCell P1.m.cls kX) a u0 sen msg) hlt
  refine ⟨_, st1 _ (fun acts => ?_), hrun, hended, hWU, hsame.weaken (fun y hy hlt' => ?_) (Nat.le_refl _) (Nat.le_refl _), _, hU, rfl, rfl⟩
  · rw [doInvoke_state]
    exact st2 _ hwalk
  · rcases List.mem_append.mp hy with h1 | h1
    · exact h1
    · exfalso
      have hb : y.base = a := by
        simp only [List.mem_cons, List.not_mem_nil, or_false] at h1
        rcases h1 with rfl | rfl | rfl | rfl | rfl <;> rfl
      rw [hb] at hlt'
      exact Nat.not_lt.mpr hnew hlt'
end
section
/-! 'throw new E("text")' (ns_throw follows vx_throwS of the starting text, over ns_ctor). -/
section
variable {p : Program} {l : Launch} {e : Env} {R : Room} {s : State} {m : MethodId} {args : Array Value} {below : List Frame} {meth : Method} {c : Code} {H : Heap} {locs : List Loc} {cells slots : Nat}
variable {free : Addr → Prop} {ls : Array Slot} {rest : List Value} {Qc : Array Value → State → Outcome → State → Prop} {XC : String → State → State → Prop}
theorem ns_throw {cc : ByteArray} {pc pq : Nat} (hexec : p.tables.exec = Jvm.exec) (hb : c.code = cc) (hl : l.stackTraces = false) {own cls Y9 : String} {names : List String} {ik ic ix mc ms sa : Nat} {rx : ByteArray} {A : Nat → Prop}
    (x0 : decode rx 0 = .ok (.aload_n 0, 1)) (x1 : decode rx 1 = .ok (.aload_n 1, 1)) (x2 : decode rx 2 = .ok (.invokespecial ix, 3)) (x5 : decode rx 5 = .ok (.return_, 1))
    (hown : s.vm.findClass own = some m.cls) (hcls : Bundle.fit cls = true) (hnames : ∀ n ∈ Y9 :: names, Bundle.fit n = true)
    (hk : (Cond.classLink own ik cls).before args s = true) (hini : (Cond.initialized cls).before args s = true) (hat : ∀ w ∈ (nsAtoms own ic cls ix rx Y9 names).filter vx_no, w.before args s = true)
    (hgood : ∀ w ∈ Cond.classLink own ik cls :: Cond.initialized cls :: (nsAtoms own ic cls ix rx Y9 names).filter vx_no, vx_ot w = true)
    (hU : vx_Zq Bundle.tN "UNASSIGNED_STACK" Bundle.steD A s s.heap) (hN : vx_Zq Bundle.tN "SUPPRESSED_SENTINEL" Bundle.listD A s s.heap) (hS : va_S A s.heap H locs) (hsize : ls.size = c.maxLocals)
    (d0 : decode cc pc = .ok (.new ik, 3)) (d3 : decode cc (pc + 3) = .ok (.dup, 1))
    (hld : ∀ (R1 : Room) (s1 : State) (T1 : State) (locs1 : List Loc) (k1 n1 : Nat), s.WarmedH s1.vm → Stand p l e R1 s1 m args below meth c T1 locs1 k1 n1 → ∀ (st : List Value) (tg : State), Steps p.tables e below (T1.setTop { method := m, pc := pq, locals := ls, stack := .ref sa :: st, locked := none }) tg → Steps p.tables e below (T1.setTop { method := m, pc := pc + 4, locals := ls, stack := st, locked := none }) tg)
    (d6 : decode cc pq = .ok (.invokespecial ic, 3)) (d9 : decode cc (pq + 3) = .ok (.athrow, 1))
    (hout : ∀ x ∈ c.exceptionTable.toList, covers x (pq + 3) = false)
    (hRframes : (Y9 :: names).length + 3 < R.frames) (hRlocals : (rest.map fun v => v.category).sum + (13 * ((Y9 :: names).length + 1) + 43) ≤ R.locals) (hRcells : cells + 1 ≤ R.cells) (hRslots : slots + 6 ≤ R.slots) (hlocks : meth.locks = false)
    (hx : ∀ t : State, s.vm.Alike t.vm → H.size ≤ t.heap.size → (∀ q : Nat, q < H.size → t.heap[q]? = H[q]?) → XC cls s t)
    (hf : ∀ z ∈ locs, free z.base) (hc : cells + 1 ≤ mc) (hs : slots + 6 ≤ ms) :
    W p l e R s m args below meth c H locs cells slots (vx_MQ below Qc XC args s mc ms free) (F0 m pc ls rest) := by
  intro T hT X
  have htr : e.platform.stackTraces = false := (show e.platform.stackTraces = l.stackTraces by rw [X.admits.platform]).trans hl
  have Y := vx_rebase X (R' := { frames := R.frames, locals := R.locals, cells := 1, slots := 6 }) (Nat.le_refl _) (Nat.le_refl _) hRcells hRslots
  obtain ⟨s', hA⟩ : ∃ z, z = (T.setVm s.vm).setFrames (.invoking m args :: below) := ⟨_, rfl⟩
  rw [← hA] at Y
  have hvm : s'.vm = s.vm := by rw [hA]; rfl
  have hhp : s'.heap = H := by rw [hA]; exact hT
  have hW0 : s.WarmedH s'.vm := by rw [hvm]; exact State.WarmedH.refl s
  have hat' : ∀ w ∈ (nsAtoms own ic cls ix rx Y9 names).filter vx_no, w.before args s' = true := fun w hw => vx_ot_at hW0 hvm.symm (hgood w (List.mem_cons_of_mem _ (List.mem_cons_of_mem _ hw))) (hat w hw)
  have hk' : (Cond.classLink own ik cls).before args s' = true := vx_ot_at hW0 hvm.symm (hgood _ List.mem_cons_self) hk
  have hini' : (Cond.initialized cls).before args s' = true := vx_ot_at hW0 hvm.symm (hgood _ (List.mem_cons_of_mem _ List.mem_cons_self)) hini
  have hU' : vx_Zq Bundle.tN "UNASSIGNED_STACK" Bundle.steD A s' s'.heap := by rw [hhp]; exact vx_Zq.moved hW0.alike (hU.kept hS.2.1)
  have hN' : vx_Zq Bundle.tN "SUPPRESSED_SENTINEL" Bundle.listD A s' s'.heap := by rw [hhp]; exact vx_Zq.moved hW0.alike (hN.kept hS.2.1)
  have h : ∀ w ∈ nsAtoms own ic cls ix rx Y9 names, w.before args s' = true := vx_own hat' (vx_isRefq hU'.1) (vx_isRefq hN'.1) hU'.2.word hN'.2.word
  have hown' : s'.vm.findClass own = some m.cls := by rw [hvm]; exact hown
  have hins : (Cond.instantiable cls 6).before args s' = true := h _ (by simp [nsAtoms])
  obtain ⟨vm₁, cX, kX, hfX, hkX, -, -, X₁, st1⟩ := Y.newCold hexec (own := own) (C := cls) (index := ik) (n := 6) hown' hk' hins hini'
    (g := F0 m pc ls rest) rfl (by rw [hb]; exact d0) (Nat.le_refl _) (Nat.le_refl _)
  generalize hT1 : (T.setVm vm₁).pushCell { cls := cX, slots := kX.instanceTypes.map defaultValue, vm := .none } = T1 at X₁ st1
  have hcat : (Value.ref T.heap.size).category = 1 := rfl
  have hcellA : T1.heap[T.heap.size]? = some (freshCell cX kX) := by rw [← hT1]; exact State.heap_pushCell_size _ _
  have d3' : decode c.code (pc + 3) = .ok (.dup, 1) := by rw [hb]; exact d3
  obtain ⟨U, hsteps, hrun, hend, hW, hsame, ce, hce, hcX, hcv⟩ := ns_ctor X₁ hexec htr (own := own) (cls := cls) (Y9 := Y9) (names := names) (ic := ic) (ix := ix) (rx := rx) x0 x1 x2 x5 hown' hcls hnames h (fun x hx => nomatch hx) hfX hkX hcellA (by rw [hhp, hT]; exact Nat.le_refl _) (msg := .ref sa) rfl
    (g := { method := m, pc := pq, locals := ls, stack := .ref sa :: .ref T.heap.size :: .ref T.heap.size :: rest, locked := none }) rfl hsize rfl rfl (rest := rest) rfl
    (by rw [hb]; exact d6) (by rw [hb]; exact d9) hout hRframes (by simp only [List.map_cons, List.sum_cons, hcat]; show 2 * 0 + _ + _ ≤ _; omega) hlocks
  obtain ⟨f1, f2⟩ := vx_frame hsame
  rw [hhp] at f1 f2
  have hWs : s.WarmedH U.vm := State.WarmedH.trans hW0 hW
  have hcl : s.vm.findClass cls = some ce.cls := by
    rw [hvm] at hfX
    rw [hcX]
    exact hfX
  have hall : s.sameButNew ({ U with vm := s.vm } : State) locs mc ms := by
    subst hA
    obtain ⟨e1, e2⟩ := hsame
    rw [State.setFrames_setFrames] at e1
    have h2 : (T.setVm s.vm).sameButNew ({ U with vm := s.vm } : State) [] (0 + 1) (0 + 6) := ⟨e1, e2⟩
    have h3 := X.same.trans h2
    rw [List.append_nil] at h3
    exact h3.mono hc hs
  refine ⟨U, ?_, .threw T.heap.size, hrun, hend, Or.inr ⟨T.heap.size, rfl, cls, ce, locs, hx U hWs.alike f1 (fun q hq => f2 q hq (fun z hz => nomatch hz)), hce, hcv, hcl, hWs, hall, hf⟩⟩
  refine st1 _ ?_
  show Steps p.tables e below (T1.setTop { method := m, pc := pc + 3, locals := ls, stack := .ref T.heap.size :: rest, locked := none }) _
  jvm_step X₁.here [X₁.here.top, hexec, d3', Value.category]
  exact hld _ s' T1 _ _ _ hW0 X₁ _ _ hsteps
end
/-- the constructor of the fourth kind -/
abbrev ns_rx : ByteArray := prog_23_method_4_code
theorem ns_x0 : decode ns_rx 0 = .ok (.aload_n 0, 1) := by decide +kernel
theorem ns_x1 : decode ns_rx 1 = .ok (.aload_n 1, 1) := by decide +kernel
theorem ns_x2 : decode ns_rx 2 = .ok (.invokespecial 13, 3) := by decide +kernel
theorem ns_x5 : decode ns_rx 5 = .ok (.return_, 1) := by decide +kernel
theorem ns_words : ∀ w ∈ (nsAtoms RX8 193 (eEN 3) 13 ns_rx "java/lang/RuntimeException" ["java/lang/Exception"]).filter vx_no, w ∈ lw_tbl ∧ (goodWord w = true ∨ eNg w = true) := by decide +kernel
theorem eNms_fit : ∀ n ∈ eNms, Bundle.fit n = true := by decide +kernel
theorem eTb_before {b base L : Nat} {xs : Nat → Int32} {cA : FieldType → ClassId} {D : va_G} {s : State} {args : Array Value} (hs : eSt b base L xs cA D s) (hts : ∀ w ∈ gTb, w.before args s = true) {w : Cond} (h : w ∈ lw_tbl ∧ (goodWord w = true ∨ eNg w = true)) : w.before args s = true := by
  rcases h with ⟨h1, h2 | h2⟩
  · exact hts w (List.mem_filter.mpr ⟨h1, h2⟩)
  · exact va_Nw.use (eNg_tab h2) (hs.2.2.2.2.2.2.1 w h1 h2)
theorem eTb_ot {w : Cond} (h : w ∈ lw_tbl ∧ (goodWord w = true ∨ eNg w = true)) : vx_ot w = true := by
  unfold vx_ot
  rcases h with ⟨_, h2 | h2⟩
  · rw [h2, Bool.or_true]
  · rw [eNg_tab h2, Bool.true_or]
theorem lkI_3 {ic : Nat} (h : lkI 8 ic 3 = true) : ic = 193 := by
  obtain ⟨t, ht, h1⟩ := List.any_eq_true.mp h
  simp only [Bool.and_eq_true, beq_iff_eq] at h1
  obtain ⟨⟨-, h1⟩, h2⟩ := h1
  have h3 := List.all_eq_true.mp eLI_e t ht
  simp only [Bool.and_eq_true, decide_eq_true_eq] at h3
  rw [h1, h2] at h3
  exact h3.1
end
section
/-! ===== BEGIN a constructor that throws (launches without stack traces) ===== -/
section VXIA
variable {p : Program} {l : Launch} {e : Env} {R : Room} {s : State} {m : MethodId} {args : Array Value} {below : List Frame} {meth : Method} {c : Code} {T : State} {locs : List Loc} {cells slots : Nat}
theorem vx_callI (X : Stand p l e R s m args below meth c T locs cells slots) (hexec : p.tables.exec = Jvm.exec) {own : String} {index : Nat} {y : MethodName} {bytes : ByteArray} {maxL : Nat}
    (hown : s.vm.findClass own = some m.cls) (hy1 : y.name = "<init>") (hlink : (Cond.methodLink own index y).before args s = true) (hinst : (Cond.instanceMethod y).before args s = true)
    (hcode : (Cond.code y bytes maxL none).before args s = true) (hy : y.cls ≠ "java/lang/invoke/MethodHandle" ∧ y.cls ≠ "java/lang/invoke/VarHandle")
    {W9 : Nat} {Pre : Pt → Array Value → Prop} {Post : Pt → Array Value → Option Value → Pt → Prop} {PostX : Pt → Array Value → Addr → Pt → Prop} (hK : vx_Back l R p e below s args y 3 W9 Pre Post PostX)
    {g : JFrame} (hg : g.method = m) (hsize : g.locals.size = c.maxLocals) {a : Addr} {argsL rest : List Value} (hlen : ∀ sig, parseMethodDescriptor y.desc = some sig → argsL.length = sig.parameters.length)
    (hstack : g.stack = argsL.reverse ++ .ref a :: rest) (hW : 2 * g.monitorRoom + (rest.map fun v => v.category).sum ≤ W9) (hdg : decode c.code g.pc = .ok (.invokespecial index, 3))
    (hpre : ∀ vm₁, s.WarmedH vm₁ → Pre ⟨T.setVm vm₁, locs, cells, slots⟩ (Value.ref a :: argsL).toArray) :
    (∃ (v : Option Value) (vm₁ : Vm) (B : Pt), s.WarmedH vm₁ ∧ Stand p l e R s m args below meth c B.U B.locs B.cells B.slots ∧ Post ⟨T.setVm vm₁, locs, cells, slots⟩ (Value.ref a :: argsL).toArray v B ∧
      ∀ target, Steps p.tables e below (B.U.setTop { g with pc := g.pc + 3, stack := v.toList ++ rest }) target → Steps p.tables e below (T.setTop g) target) ∨
    (∃ (q : Addr) (vm₁ : Vm) (B : Pt), s.WarmedH vm₁ ∧ Stand p l e R s m args below meth c B.U B.locs B.cells B.slots ∧ PostX ⟨T.setVm vm₁, locs, cells, slots⟩ (Value.ref a :: argsL).toArray q B ∧
      Steps p.tables e below (T.setTop g) ((B.U.setTop { g with stack := rest }).pushFrame (.throwing q))) := by
  subst hg
  have hpl : e.platform.magicAccessors = ({} : Platform).magicAccessors := by rw [X.admits.platform]
  obtain ⟨mk, methM, cM, kP, vm₁, hnamed, hmethM, hcodeM, -, hlocalsM, -, hkP, -, hW₁, hstep₁⟩ := Steps.initColdArgs (e := e) X.here hexec X.warmed hpl hown hy1 hy hlink hinst hcode (f := g) rfl hlen hstack hdg
  have X₁ := X.noted hW₁
  rcases hK g.method meth c ⟨T.setVm vm₁, locs, cells, slots⟩ { g with stack := rest } (.invokespecial index) mk (Value.ref a :: argsL).toArray X₁ rfl hsize hdg hW (X₁.named hnamed) (hpre vm₁ X₁.warmed) with ⟨v, B, X', hpost, hsteps⟩ | ⟨q, B, X', hpost, hsteps⟩
  · exact Or.inl ⟨v, vm₁, B, X₁.warmed, X', hpost, fun target h => hstep₁ _ fun acts => by rw [doInvoke_state]; exact hsteps.trans h⟩
  · exact Or.inr ⟨q, vm₁, B, X₁.warmed, X', hpost, hstep₁ _ fun acts => by rw [doInvoke_state]; exact hsteps⟩
end VXIA
section VXIB
variable {p : Program} {l : Launch} {e : Env} {R : Room} {s : State} {m : MethodId} {args : Array Value} {below : List Frame} {meth : Method} {c : Code} {H : Heap} {locs : List Loc} {cells slots : Nat}
variable {y : MethodName} {bytes cc : ByteArray} {maxL nL mc ms n index : Nat} {ret : Option FieldType} {ws : List Cond} {rm : Room} {Pc : Array Value → State → Prop} {Qc : Array Value → State → Outcome → State → Prop} {XC : String → State → State → Prop} {free : Addr → Prop} {Ts : List Cond} {own C : String} {b : Addr} {As rest : List Value} {g : JFrame}
theorem vx_runI (S : CallFix p m c cc nL s args Ts own) (hM : vx_Met l y ws rm Pc Qc XC mc ms free) (cw : CallB R s args own index y bytes maxL none ws rm mc ms n ∧ y.name = "<init>" ∧ (Cond.instanceMethod y).before args s = true) (hp : PreS s H Pc (.ref b :: As))
    (hg : g.method = m) (hn : As.length = n) (hsize : g.locals.size = nL) (hstack : g.stack = As.reverse ++ .ref b :: rest) (hW : 2 * g.monitorRoom + (rest.map fun v => v.category).sum ≤ 8) (hdg : decode cc g.pc = .ok (.invokespecial index, 3)) (hf : cells + mc ≤ R.cells ∧ slots + ms ≤ R.slots) :
    vx_Run p l e R s m args below meth c H locs cells slots mc ms g rest (Qc (Value.ref b :: As).toArray) XC free := by
  have hK : vx_Back l R p e below s args y 3 8 (PreOf R mc ms Pc) (PostOf Qc mc ms free) (vx_Post XC mc ms free) := vx_callBack cw.1 hM hp.1
  obtain ⟨⟨-, -, -, -, -, -, hcode, -, hy, hlen, hl⟩, hy1, hin⟩ := cw
  obtain ⟨hx, hb, hml, ho, -⟩ := S
  have hPc := hp.2
  intro T hT X
  rcases vx_callI X hx (bytes := bytes) (maxL := maxL) ho hy1 hl hin hcode hy hK hg (hsize.trans hml.symm) (a := b) (argsL := As) (rest := rest) (fun sig h => hn.trans (hlen sig h)) hstack hW (by rw [hb]; exact hdg)
    (fun vm₁ hW₁ => ⟨hf.1, hf.2, hPc (T.setVm vm₁) hT hW₁⟩) with ⟨v, vm₁, ⟨U', l2, c2, s2⟩, hW₁, X', ⟨g', mk, t, L, e1, e2, hq, h1, hL, h2, h3⟩, st⟩ | ⟨q, vm₁, ⟨U', l2, c2, s2⟩, hW₁, X', ⟨g', mk, t, L, E, ce, e1, e2, hq, hce, hcv, hcl, h1, hL, h2, h3⟩, st⟩
  · dsimp only [Pt.U, Pt.locs, Pt.cells, Pt.slots] at X' e1 e2 h1 h2 h3 st
    subst h1; subst h2; subst h3
    exact Or.inl ⟨v, (T.setVm vm₁).calling g' mk (Value.ref b :: As).toArray, t, U', L, hT, X', hL, e1, e2, hq, st⟩
  · dsimp only [Pt.U, Pt.locs, Pt.cells, Pt.slots] at X' e1 e2 h1 h2 h3 st hcl
    subst h1; subst h2; subst h3
    exact Or.inr ⟨q, (T.setVm vm₁).calling g' mk (Value.ref b :: As).toArray, t, U', L, E, ce, hT, X', hL, e1, e2, hq, hce, hcv, vx_cls hW₁ hcl, st⟩
end VXIB
/-! ===== END ===== -/
/-! ===== BEGIN a private constructor of a nest mate that throws ===== -/
section VXIC
variable {p : Program} {l : Launch} {e : Env} {R : Room} {s : State} {m : MethodId} {args : Array Value} {below : List Frame} {meth : Method} {c : Code} {T : State} {locs : List Loc} {cells slots : Nat}
theorem vx_callIN (X : Stand p l e R s m args below meth c T locs cells slots) (hexec : p.tables.exec = Jvm.exec) {own : String} {index : Nat} {host : String} {y : MethodName} {bytes : ByteArray} {maxL : Nat}
    (hown : s.vm.findClass own = some m.cls) (hy1 : y.name = "<init>") (hlink : (Cond.methodLinkNest own index y host).before args s = true) (hinst : (Cond.instanceMethod y).before args s = true)
    (hcode : (Cond.code y bytes maxL none).before args s = true) (hy : y.cls ≠ "java/lang/invoke/MethodHandle" ∧ y.cls ≠ "java/lang/invoke/VarHandle")
    {W9 : Nat} {Pre : Pt → Array Value → Prop} {Post : Pt → Array Value → Option Value → Pt → Prop} {PostX : Pt → Array Value → Addr → Pt → Prop} (hK : vx_Back l R p e below s args y 3 W9 Pre Post PostX)
    {g : JFrame} (hg : g.method = m) (hsize : g.locals.size = c.maxLocals) {a : Addr} {argsL rest : List Value} (hlen : ∀ sig, parseMethodDescriptor y.desc = some sig → argsL.length = sig.parameters.length)
    (hstack : g.stack = argsL.reverse ++ .ref a :: rest) (hW : 2 * g.monitorRoom + (rest.map fun v => v.category).sum ≤ W9) (hdg : decode c.code g.pc = .ok (.invokespecial index, 3))
    (hpre : ∀ vm₁, s.WarmedH vm₁ → Pre ⟨T.setVm vm₁, locs, cells, slots⟩ (Value.ref a :: argsL).toArray) :
    (∃ (v : Option Value) (vm₁ : Vm) (B : Pt), s.WarmedH vm₁ ∧ Stand p l e R s m args below meth c B.U B.locs B.cells B.slots ∧ Post ⟨T.setVm vm₁, locs, cells, slots⟩ (Value.ref a :: argsL).toArray v B ∧
      ∀ target, Steps p.tables e below (B.U.setTop { g with pc := g.pc + 3, stack := v.toList ++ rest }) target → Steps p.tables e below (T.setTop g) target) ∨
    (∃ (q : Addr) (vm₁ : Vm) (B : Pt), s.WarmedH vm₁ ∧ Stand p l e R s m args below meth c B.U B.locs B.cells B.slots ∧ PostX ⟨T.setVm vm₁, locs, cells, slots⟩ (Value.ref a :: argsL).toArray q B ∧
      Steps p.tables e below (T.setTop g) ((B.U.setTop { g with stack := rest }).pushFrame (.throwing q))) := by
  subst hg
  have hpl : e.platform.magicAccessors = ({} : Platform).magicAccessors := by rw [X.admits.platform]
  obtain ⟨mk, methM, cM, kP, vm₁, hnamed, hmethM, hcodeM, -, hlocalsM, -, hkP, -, hW₁, hstep₁⟩ := Steps.initColdArgsNest (e := e) X.here hexec X.warmed hpl hown hy1 hy hlink hinst hcode (f := g) rfl hlen hstack hdg
  have X₁ := X.noted hW₁
  rcases hK g.method meth c ⟨T.setVm vm₁, locs, cells, slots⟩ { g with stack := rest } (.invokespecial index) mk (Value.ref a :: argsL).toArray X₁ rfl hsize hdg hW (X₁.named hnamed) (hpre vm₁ X₁.warmed) with ⟨v, B, X', hpost, hsteps⟩ | ⟨q, B, X', hpost, hsteps⟩
  · exact Or.inl ⟨v, vm₁, B, X₁.warmed, X', hpost, fun target h => hstep₁ _ fun acts => by rw [doInvoke_state]; exact hsteps.trans h⟩
  · exact Or.inr ⟨q, vm₁, B, X₁.warmed, X', hpost, hstep₁ _ fun acts => by rw [doInvoke_state]; exact hsteps⟩
end VXIC
section VXID
variable {p : Program} {l : Launch} {e : Env} {R : Room} {s : State} {m : MethodId} {args : Array Value} {below : List Frame} {meth : Method} {c : Code} {H : Heap} {locs : List Loc} {cells slots : Nat}
theorem vx_runIN {y : MethodName} {bytes cc : ByteArray} {maxL nL mc ms n index : Nat} {ws : List Cond} {rm : Room} {Pc : Array Value → State → Prop} {Qc : Array Value → State → Outcome → State → Prop} {XC : String → State → State → Prop} {free : Addr → Prop} {Ts : List Cond} {own host : String} {b : Addr} {As rest : List Value} {g : JFrame}
    (S : CallFix p m c cc nL s args Ts own) (hM : vx_Met l y ws rm Pc Qc XC mc ms free) (cw : va_CN R s args own index y host bytes maxL none ws rm mc ms n ∧ y.name = "<init>" ∧ (Cond.instanceMethod y).before args s = true) (hp : PreS s H Pc (.ref b :: As))
    (hg : g.method = m) (hn : As.length = n) (hsize : g.locals.size = nL) (hstack : g.stack = As.reverse ++ .ref b :: rest) (hW : 2 * g.monitorRoom + (rest.map fun v => v.category).sum ≤ 8) (hdg : decode cc g.pc = .ok (.invokespecial index, 3)) (hf : cells + mc ≤ R.cells ∧ slots + ms ≤ R.slots) :
    vx_Run p l e R s m args below meth c H locs cells slots mc ms g rest (Qc (Value.ref b :: As).toArray) XC free := by
  obtain ⟨⟨⟨hrc, hrs, hfr, hlo, hws, hcw⟩, hcode, hini, hy, hlen, hl⟩, hx1, hx2⟩ := cw
  have hK : vx_Back l R p e below s args y 3 8 (PreOf R mc ms Pc) (PostOf Qc mc ms free) (vx_Post XC mc ms free) := vx_back (bytes := bytes) (maxL := maxL) (ret := none) hM hp.1 hrc hrs hfr hlo hws hcw (fun a' U hW => word_at hW (Or.inl (by first | rfl | simp [Cond.onTables, Cond.keeps, Cond.steady])) hini)
  obtain ⟨hx, hb, hml, ho, -⟩ := S
  have hPc := hp.2
  intro T hT X
  rcases vx_callIN X hx (bytes := bytes) (maxL := maxL) ho hx1 hl hx2 hcode hy hK hg (hsize.trans hml.symm) (a := b) (argsL := As) (rest := rest) (fun sig h => hn.trans (hlen sig h)) hstack hW (by rw [hb]; exact hdg)
    (fun vm₁ hW₁ => ⟨hf.1, hf.2, hPc (T.setVm vm₁) hT hW₁⟩) with ⟨v, vm₁, ⟨U', l2, c2, s2⟩, hW₁, X', ⟨g', mk, t, L, e1, e2, hq, h1, hL, h2, h3⟩, st⟩ | ⟨q, vm₁, ⟨U', l2, c2, s2⟩, hW₁, X', ⟨g', mk, t, L, E, ce, e1, e2, hq, hce, hcv, hcl, h1, hL, h2, h3⟩, st⟩
  · dsimp only [Pt.U, Pt.locs, Pt.cells, Pt.slots] at X' e1 e2 h1 h2 h3 st
    subst h1; subst h2; subst h3
    exact Or.inl ⟨v, (T.setVm vm₁).calling g' mk (Value.ref b :: As).toArray, t, U', L, hT, X', hL, e1, e2, hq, st⟩
  · dsimp only [Pt.U, Pt.locs, Pt.cells, Pt.slots] at X' e1 e2 h1 h2 h3 st hcl
    subst h1; subst h2; subst h3
    exact Or.inr ⟨q, (T.setVm vm₁).calling g' mk (Value.ref b :: As).toArray, t, U', L, E, ce, hT, X', hL, e1, e2, hq, hce, hcv, vx_cls hW₁ hcl, st⟩
end VXID
/-! ===== END ===== -/
/-! ===== BEGIN a private method of a nest mate that may throw (follows va_callVN, va_callSN, va_runVN, va_runSN) ===== -/
section
variable {p : Program} {l : Launch} {e : Env} {R : Room} {s : State} {m : MethodId} {args : Array Value} {below : List Frame} {meth : Method} {c : Code} {H : Heap} {locs : List Loc} {cells slots : Nat}
variable {T : State}
theorem vx_callVN (X : Stand p l e R s m args below meth c T locs cells slots) (hexec : p.tables.exec = Jvm.exec) {own C : String} {index : Nat} {host : String} {y : MethodName} {bytes : ByteArray} {maxL : Nat} {ret : Option FieldType}
    (hown : s.vm.findClass own = some m.cls) (hlink : (Cond.methodLinkNest own index y host).before args s = true) (hinst : (Cond.instanceMethod y).before args s = true) (hsel : (Cond.selects C y y).before args s = true)
    (hcode : (Cond.code y bytes maxL ret).before args s = true) (hy : y.cls ≠ "java/lang/invoke/MethodHandle" ∧ y.cls ≠ "java/lang/invoke/VarHandle")
    {W : Nat} {Pre : Pt → Array Value → Prop} {Post : Pt → Array Value → Option Value → Pt → Prop} {PostX : Pt → Array Value → Addr → Pt → Prop} (hK : vx_Back l R p e below s args y 3 W Pre Post PostX)
    {b : Addr} {cellB : Cell} (hcell : T.heap[b]? = some cellB) (hobj : cellB.vm.isStatics = false) (hcls : s.vm.findClass C = some cellB.cls)
    {g : JFrame} (hg : g.method = m) (hsize : g.locals.size = c.maxLocals) {argsL rest : List Value} (hlen : ∀ sig, parseMethodDescriptor y.desc = some sig → argsL.length = sig.parameters.length)
    (hstack : g.stack = argsL.reverse ++ .ref b :: rest) (hW : 2 * g.monitorRoom + (rest.map fun v => v.category).sum ≤ W) (hdg : decode c.code g.pc = .ok (.invokevirtual index, 3))
    (hpre : ∀ vm₁, s.WarmedH vm₁ → Pre ⟨T.setVm vm₁, locs, cells, slots⟩ (Value.ref b :: argsL).toArray) :
    (∃ (v : Option Value) (vm₁ : Vm) (B : Pt), s.WarmedH vm₁ ∧ Stand p l e R s m args below meth c B.U B.locs B.cells B.slots ∧ Post ⟨T.setVm vm₁, locs, cells, slots⟩ (Value.ref b :: argsL).toArray v B ∧
      ∀ target, Steps p.tables e below (B.U.setTop { g with pc := g.pc + 3, stack := v.toList ++ rest }) target → Steps p.tables e below (T.setTop g) target) ∨
    (∃ (q : Addr) (vm₁ : Vm) (B : Pt), s.WarmedH vm₁ ∧ Stand p l e R s m args below meth c B.U B.locs B.cells B.slots ∧ PostX ⟨T.setVm vm₁, locs, cells, slots⟩ (Value.ref b :: argsL).toArray q B ∧
      Steps p.tables e below (T.setTop g) ((B.U.setTop { g with stack := rest }).pushFrame (.throwing q))) := by
  obtain ⟨mk, methM, hnamed, hmethM, hstM, habM⟩ := Cond.instanceMethod_spec hinst
  obtain ⟨methM', cM, hmethM', -, -, -, -, -, -, hsigM⟩ := Cond.code_spec hnamed hcode
  cases hmethM.symm.trans hmethM'
  obtain ⟨c2, r2, m2, q1, q2, q3, q4, kP, hkP, hkPi⟩ := Cond.selects_spec hsel
  cases hcls.symm.trans q1
  cases (State.methodFound?_of_named hnamed hy).symm.trans q2
  cases hnamed.symm.trans q3
  have hselP : selectMethod e.platform s.vm cellB.cls mk = .method mk := by rw [Launch.admits_selectMethod X.admits]; exact q4
  obtain ⟨vm₁, X₁, hstep₁⟩ := X.invokevirtualNest hexec hown hlink hnamed hmethM hstM hkP hkPi hy (a := b) (cell := cellB) hcell
    (fun z h => by rw [h] at hobj; cases hobj) hselP hmethM habM hkP hkPi (g := g) hg (argsL := argsL) (rest := rest) (hlen _ hsigM) hstack hdg
  rcases hK m meth c ⟨T.setVm vm₁, locs, cells, slots⟩ { g with stack := rest } (.invokevirtual index) mk (Value.ref b :: argsL).toArray X₁ hg hsize hdg hW (X₁.named hnamed) (hpre vm₁ X₁.warmed) with ⟨v, B, X', hpost, hsteps⟩ | ⟨q, B, X', hpost, hsteps⟩
  · exact Or.inl ⟨v, vm₁, B, X₁.warmed, X', hpost, fun target h => hstep₁ _ fun acts => by rw [doInvoke_state]; exact hsteps.trans h⟩
  · exact Or.inr ⟨q, vm₁, B, X₁.warmed, X', hpost, hstep₁ _ fun acts => by rw [doInvoke_state]; exact hsteps⟩
theorem vx_callSN (X : Stand p l e R s m args below meth c T locs cells slots) (hexec : p.tables.exec = Jvm.exec) {own : String} {index : Nat} {host : String} {y : MethodName} {bytes : ByteArray} {maxL : Nat} {ret : Option FieldType}
    (hown : s.vm.findClass own = some m.cls) (hlink : (Cond.methodLinkNest own index y host).before args s = true) (hstat : (Cond.static y).before args s = true) (hinit : (Cond.initialized y.cls).before args s = true)
    (hcode : (Cond.code y bytes maxL ret).before args s = true) (hy : y.cls ≠ "java/lang/invoke/MethodHandle" ∧ y.cls ≠ "java/lang/invoke/VarHandle")
    {W : Nat} {Pre : Pt → Array Value → Prop} {Post : Pt → Array Value → Option Value → Pt → Prop} {PostX : Pt → Array Value → Addr → Pt → Prop} (hK : vx_Back l R p e below s args y 3 W Pre Post PostX)
    {g : JFrame} (hg : g.method = m) (hsize : g.locals.size = c.maxLocals) {argsL rest : List Value} (hlen : ∀ sig, parseMethodDescriptor y.desc = some sig → argsL.length = sig.parameters.length)
    (hstack : g.stack = argsL.reverse ++ rest) (hW : 2 * g.monitorRoom + (rest.map fun v => v.category).sum ≤ W) (hdg : decode c.code g.pc = .ok (.invokestatic index, 3))
    (hpre : ∀ vm₁, s.WarmedH vm₁ → Pre ⟨T.setVm vm₁, locs, cells, slots⟩ argsL.toArray) :
    (∃ (v : Option Value) (vm₁ : Vm) (B : Pt), s.WarmedH vm₁ ∧ Stand p l e R s m args below meth c B.U B.locs B.cells B.slots ∧ Post ⟨T.setVm vm₁, locs, cells, slots⟩ argsL.toArray v B ∧
      ∀ target, Steps p.tables e below (B.U.setTop { g with pc := g.pc + 3, stack := v.toList ++ rest }) target → Steps p.tables e below (T.setTop g) target) ∨
    (∃ (q : Addr) (vm₁ : Vm) (B : Pt), s.WarmedH vm₁ ∧ Stand p l e R s m args below meth c B.U B.locs B.cells B.slots ∧ PostX ⟨T.setVm vm₁, locs, cells, slots⟩ argsL.toArray q B ∧
      Steps p.tables e below (T.setTop g) ((B.U.setTop { g with stack := rest }).pushFrame (.throwing q))) := by
  obtain ⟨mk, hnamed⟩ := Cond.code_named hcode
  obtain ⟨methM, cM, hmethM, -, -, -, -, -, -, hsigM⟩ := Cond.code_spec hnamed hcode
  have hstatic : methM.isStatic = true := Cond.static_spec hnamed hmethM hstat
  obtain ⟨kP, hkP, -⟩ := className_of_methodNamed hnamed
  have hinitP : kP.init = .initialized := Cond.initialized_spec (findClass_of_methodNamed hnamed) hkP hinit
  obtain ⟨vm₁, X₁, hstep₁⟩ := X.invokestaticNest hexec hown hlink hnamed hmethM hstatic hkP hinitP hy (g := g) hg (argsL := argsL) (rest := rest) (hlen _ hsigM) hstack hdg
  rcases hK m meth c ⟨T.setVm vm₁, locs, cells, slots⟩ { g with stack := rest } (.invokestatic index) mk argsL.toArray X₁ hg hsize hdg hW (X₁.named hnamed) (hpre vm₁ X₁.warmed) with ⟨v, B, X', hpost, hsteps⟩ | ⟨q, B, X', hpost, hsteps⟩
  · exact Or.inl ⟨v, vm₁, B, X₁.warmed, X', hpost, fun target h => hstep₁ _ fun acts => by rw [doInvoke_state]; exact hsteps.trans h⟩
  · exact Or.inr ⟨q, vm₁, B, X₁.warmed, X', hpost, hstep₁ _ fun acts => by rw [doInvoke_state]; exact hsteps⟩
theorem vx_runVN {y : MethodName} {bytes cc : ByteArray} {maxL nL mc ms n index : Nat} {ret : Option FieldType} {ws : List Cond} {rm : Room} {Pc : Array Value → State → Prop} {Qc : Array Value → State → Outcome → State → Prop} {XC : String → State → State → Prop} {free : Addr → Prop} {Ts : List Cond} {own C host : String} {b : Addr} {As rest : List Value} {g : JFrame}
    (S : CallFix p m c cc nL s args Ts own) (hM : vx_Met l y ws rm Pc Qc XC mc ms free) (cw : va_CN R s args own index y host bytes maxL ret ws rm mc ms n ∧ (Cond.instanceMethod y).before args s = true ∧ (Cond.selects C y y).before args s = true) (hp : PreV s H C b Pc As)
    (hg : g.method = m) (hn : As.length = n) (hsize : g.locals.size = nL) (hstack : g.stack = As.reverse ++ .ref b :: rest) (hW : 2 * g.monitorRoom + (rest.map fun v => v.category).sum ≤ 8) (hdg : decode cc g.pc = .ok (.invokevirtual index, 3)) (hf : cells + mc ≤ R.cells ∧ slots + ms ≤ R.slots) :
    vx_Run p l e R s m args below meth c H locs cells slots mc ms g rest (Qc (Value.ref b :: As).toArray) XC free := by
  obtain ⟨⟨⟨hrc, hrs, hfr, hlo, hws, hcw⟩, hcode, hini, hy, hlen, hl⟩, hx1, hx2⟩ := cw
  have hK : vx_Back l R p e below s args y 3 8 (PreOf R mc ms Pc) (PostOf Qc mc ms free) (vx_Post XC mc ms free) := vx_back (bytes := bytes) (maxL := maxL) (ret := ret) hM hp.1 hrc hrs hfr hlo hws hcw (fun a' U hW => word_at hW (Or.inl (by first | rfl | simp [Cond.onTables, Cond.keeps, Cond.steady])) hini)
  obtain ⟨hx, hb, hml, ho, -⟩ := S
  obtain ⟨-, ⟨cellB, hcB, hoB, hclB⟩, hPc⟩ := hp
  intro T hT X
  rcases vx_callVN X hx (C := C) (bytes := bytes) (maxL := maxL) (ret := ret) ho hl hx1 hx2 hcode hy hK (by rw [hT]; exact hcB) hoB hclB hg (hsize.trans hml.symm) (argsL := As) (rest := rest) (fun sig h => hn.trans (hlen sig h)) hstack hW (by rw [hb]; exact hdg)
    (fun vm₁ hW₁ => ⟨hf.1, hf.2, hPc (T.setVm vm₁) hT hW₁⟩) with ⟨v, vm₁, ⟨U', l2, c2, s2⟩, hW₁, X', ⟨g', mk, t, L, e1, e2, hq, h1, hL, h2, h3⟩, st⟩ | ⟨q, vm₁, ⟨U', l2, c2, s2⟩, hW₁, X', ⟨g', mk, t, L, E, ce, e1, e2, hq, hce, hcv, hcl, h1, hL, h2, h3⟩, st⟩
  · dsimp only [Pt.U, Pt.locs, Pt.cells, Pt.slots] at X' e1 e2 h1 h2 h3 st
    subst h1; subst h2; subst h3
    exact Or.inl ⟨v, (T.setVm vm₁).calling g' mk (Value.ref b :: As).toArray, t, U', L, hT, X', hL, e1, e2, hq, st⟩
  · dsimp only [Pt.U, Pt.locs, Pt.cells, Pt.slots] at X' e1 e2 h1 h2 h3 st hcl
    subst h1; subst h2; subst h3
    exact Or.inr ⟨q, (T.setVm vm₁).calling g' mk (Value.ref b :: As).toArray, t, U', L, E, ce, hT, X', hL, e1, e2, hq, hce, hcv, vx_cls hW₁ hcl, st⟩
theorem vx_runSN {y : MethodName} {bytes cc : ByteArray} {maxL nL mc ms n index : Nat} {ret : Option FieldType} {ws : List Cond} {rm : Room} {Pc : Array Value → State → Prop} {Qc : Array Value → State → Outcome → State → Prop} {XC : String → State → State → Prop} {free : Addr → Prop} {Ts : List Cond} {own host : String} {As rest : List Value} {g : JFrame}
    (S : CallFix p m c cc nL s args Ts own) (hM : vx_Met l y ws rm Pc Qc XC mc ms free) (cw : va_CN R s args own index y host bytes maxL ret ws rm mc ms n ∧ (Cond.static y).before args s = true ∧ True) (hp : PreS s H Pc As)
    (hg : g.method = m) (hn : As.length = n) (hsize : g.locals.size = nL) (hstack : g.stack = As.reverse ++ rest) (hW : 2 * g.monitorRoom + (rest.map fun v => v.category).sum ≤ 8) (hdg : decode cc g.pc = .ok (.invokestatic index, 3)) (hf : cells + mc ≤ R.cells ∧ slots + ms ≤ R.slots) :
    vx_Run p l e R s m args below meth c H locs cells slots mc ms g rest (Qc As.toArray) XC free := by
  obtain ⟨⟨⟨hrc, hrs, hfr, hlo, hws, hcw⟩, hcode, hini, hy, hlen, hl⟩, hx1, hx2⟩ := cw
  have hK : vx_Back l R p e below s args y 3 8 (PreOf R mc ms Pc) (PostOf Qc mc ms free) (vx_Post XC mc ms free) := vx_back (bytes := bytes) (maxL := maxL) (ret := ret) hM hp.1 hrc hrs hfr hlo hws hcw (fun a' U hW => word_at hW (Or.inl (by first | rfl | simp [Cond.onTables, Cond.keeps, Cond.steady])) hini)
  obtain ⟨hx, hb, hml, ho, -⟩ := S
  have hPc := hp.2
  intro T hT X
  rcases vx_callSN X hx (bytes := bytes) (maxL := maxL) (ret := ret) ho hl hx1 hini hcode hy hK hg (hsize.trans hml.symm) (argsL := As) (rest := rest) (fun sig h => hn.trans (hlen sig h)) hstack hW (by rw [hb]; exact hdg)
    (fun vm₁ hW₁ => ⟨hf.1, hf.2, hPc (T.setVm vm₁) hT hW₁⟩) with ⟨v, vm₁, ⟨U', l2, c2, s2⟩, hW₁, X', ⟨g', mk, t, L, e1, e2, hq, h1, hL, h2, h3⟩, st⟩ | ⟨q, vm₁, ⟨U', l2, c2, s2⟩, hW₁, X', ⟨g', mk, t, L, E, ce, e1, e2, hq, hce, hcv, hcl, h1, hL, h2, h3⟩, st⟩
  · dsimp only [Pt.U, Pt.locs, Pt.cells, Pt.slots] at X' e1 e2 h1 h2 h3 st
    subst h1; subst h2; subst h3
    exact Or.inl ⟨v, (T.setVm vm₁).calling g' mk As.toArray, t, U', L, hT, X', hL, e1, e2, hq, st⟩
  · dsimp only [Pt.U, Pt.locs, Pt.cells, Pt.slots] at X' e1 e2 h1 h2 h3 st hcl
    subst h1; subst h2; subst h3
    exact Or.inr ⟨q, (T.setVm vm₁).calling g' mk As.toArray, t, U', L, E, ce, hT, X', hL, e1, e2, hq, hce, hcv, vx_cls hW₁ hcl, st⟩
end
/-! ===== END ===== -/
end
section
/-! Throws, what is made, returns: of the machine. -/
theorem eRep_thr {b base L : Nat} {xs : Nat → Int32} {cA : FieldType → ClassId} {D : va_G} {σ : eS} {H H1 : Heap} (hR : eRep b base L xs cA D σ H) (h : ∀ q : Nat, q < H.size → H1[q]? = H[q]?) : eRep b base L xs cA D (thrS σ) H1 := by
  obtain ⟨r1, r2, r3, r4, r5, r6⟩ := hR
  exact ⟨r1.kept (fun k q hq => h q.1 (r1 k q hq).lt), r2, r3, r4, r5, r6⟩
theorem eVk {b base L : Nat} {xs : Nat → Int32} {cA : FieldType → ClassId} {D : va_G} {s : State} (hs : eSt b base L xs cA D s) {i : Nat} (h : lkS i = true) : ∃ tx sa, vk_R RX8 i tx sa s := by
  obtain ⟨t, ht, h1⟩ := List.any_eq_true.mp h
  simp only [beq_iff_eq] at h1
  obtain ⟨sa, h2⟩ := hs.2.2.2.2.2.2.2.2.1 t ht
  exact ⟨t.2.1, sa, h1 ▸ h2⟩
section
variable {μ pc : Nat} {ls : eLs} {st : List Value} {σ : eS} {o : eO} {σo : eS} {r : List Value}
theorem m_throw {e9 len : Nat} (hc : chk1 μ pc (.checkcast e9) len = true) (h8 : stw st ≤ 8) : eMP μ pc ls st σ (.inr e9) (thrS σ) := by
  refine ⟨⟨Nat.le_refl _, Nat.le_succ _, by show sZ σ ≤ sZ σ + 6; omega⟩, ?_⟩
  intro l b base L xs cA D p e R s m args below meth c mc ms hl hf hs hr hmc hms H locs cells slots la hR hS hla hsz hcc hzz
  simp only [chk1, Bool.and_eq_true, decide_eq_true_eq, beq_iff_eq, Bool.not_eq_true', beq_eq_false_iff_ne, ne_eq] at hc
  obtain ⟨⟨⟨⟨⟨c1, c2⟩, c3⟩, c3'⟩, c4⟩, c5⟩ := hc
  obtain ⟨hx, hb, -, hml, hown, hts, hlk, -, hex, -⟩ := hf
  have hex := hex c3 c3'
  rw [c2] at hown
  have h9 := eRoom (b := b) (base := base) h8
  have e1 : cells + 1 ≤ mc := by
    have : cells + (sN σ + (sH σ + 1) - (sN σ + sH σ)) ≤ mc := hcc
    omega
  have e2 : slots + 6 ≤ ms := by
    have : slots + (sZ σ + 6 - sZ σ) ≤ ms := hzz
    omega
  have hxc : ∀ t : State, s.vm.Alike t.vm → H.size ≤ t.heap.size → (∀ q : Nat, q < H.size → t.heap[q]? = H[q]?) → eXC b base L xs cA D (.inr e9) (thrS σ) (eEN e9) s t := fun t _ z k =>
    ⟨c1, rfl, eRep_thr hR k, Nat.le_trans hS.1 z, fun q q1 q2 => (k q (Nat.lt_of_lt_of_le q1 hS.1)).trans (hS.2.1 q q1 q2)⟩
  have r1 := hr.1
  have r2 := hr.2
  have hAll : ∀ (is : Nat), lkS is = true → ∀ (ik ic : Nat), lkE 8 ik e9 = true → lkI 8 ic e9 = true → decode (eB μ) pc = .ok (.new ik, 3) → decode (eB μ) (pc + 3) = .ok (.dup, 1) →
      ((decode (eB μ) (pc + 4) = .ok (.ldc is, 2) ∧ decode (eB μ) (pc + 6) = .ok (.invokespecial ic, 3) ∧ decode (eB μ) (pc + 9) = .ok (.athrow, 1)) ∨
       (decode (eB μ) (pc + 4) = .ok (.ldc_w is, 3) ∧ decode (eB μ) (pc + 7) = .ok (.invokespecial ic, 3) ∧ decode (eB μ) (pc + 10) = .ok (.athrow, 1))) →
      W p l e R s m args below meth c H locs cells slots (vx_MQ below (eQc b base L xs cA D (.inr e9) (thrS σ)) (eXC b base L xs cA D (.inr e9) (thrS σ)) args s mc ms (eA base)) (F0 m pc la (st.map (eVl b base))) := by
    intro is hls ik ic he hi d0 d3 dd
    obtain ⟨tx, sa, hvk⟩ := eVk hs hls
    by_cases h3 : e9 = 3
    · subst h3
      have hic := lkI_3 hi
      subst hic
      have hat : ∀ w ∈ (nsAtoms RX8 193 (eEN 3) 13 ns_rx "java/lang/RuntimeException" ["java/lang/Exception"]).filter vx_no, w.before args s = true := fun w hw => eTb_before hs hts (ns_words w hw)
      have hgood : ∀ w ∈ Cond.classLink RX8 ik (eEN 3) :: Cond.initialized (eEN 3) :: (nsAtoms RX8 193 (eEN 3) 13 ns_rx "java/lang/RuntimeException" ["java/lang/Exception"]).filter vx_no, vx_ot w = true := by
        intro w hw
        rcases List.mem_cons.mp hw with rfl | hw
        · rfl
        · rcases List.mem_cons.mp hw with rfl | hw
          · rfl
          · exact eTb_ot (ns_words w hw)
      rcases dd with ⟨d4, d6, d9⟩ | ⟨d4, d6, d9⟩
      · refine ns_throw (pq := pc + 6) (sa := sa) hx hb hl ns_x0 ns_x1 ns_x2 ns_x5 hown (eFit c1) eNms_fit (hts _ (lkE_spec he)) (hts _ (eEI c1)) hat hgood hs.2.1 hs.2.2.1 hS (by rw [hml]; exact hla.1) d0 d3 (fun R1 s1 T1 l1 k1 n1 hW X st tg h => ?_) d6 d9 (fun x hx => (hex x hx).elim) (by show 2 + 3 < R.frames; omega) (by show _ + (13 * (2 + 1) + 43) ≤ _; omega) (by omega) (by omega) hlk hxc hS.2.2 e1 e2
        have hv1 := vk_R.warm hW hvk
        have ho1 : s1.vm.findClass RX8 = some m.cls := by rw [hW.alike.findClass]; exact hown
        exact X.ldcString hx (own := RX8) (text := tx) (index := is) (a := sa) ho1 hv1.1 hv1.2 (g := { method := m, pc := pc + 4, locals := la, stack := st, locked := none }) rfl (by rw [hb]; exact d4) _ h
      · refine ns_throw (pq := pc + 7) (sa := sa) hx hb hl ns_x0 ns_x1 ns_x2 ns_x5 hown (eFit c1) eNms_fit (hts _ (lkE_spec he)) (hts _ (eEI c1)) hat hgood hs.2.1 hs.2.2.1 hS (by rw [hml]; exact hla.1) d0 d3 (fun R1 s1 T1 l1 k1 n1 hW X st tg h => ?_) d6 d9 (fun x hx => (hex x hx).elim) (by show 2 + 3 < R.frames; omega) (by show _ + (13 * (2 + 1) + 43) ≤ _; omega) (by omega) (by omega) hlk hxc hS.2.2 e1 e2
        have hv1 := vk_R.warm hW hvk
        have ho1 : s1.vm.findClass RX8 = some m.cls := by rw [hW.alike.findClass]; exact hown
        exact X.ldcStringW hx (own := RX8) (text := tx) (index := is) (a := sa) ho1 hv1.1 hv1.2 (g := { method := m, pc := pc + 4, locals := la, stack := st, locked := none }) rfl (by rw [hb]; exact d4) _ h
    · have c9 : e9 < 3 := by omega
      have hat : ∀ w ∈ vx_atS RX8 ic (eEN e9) eNms, w.before args s = true := fun w hw => eTb_before hs hts (eEx hi c9 w hw)
      have hgood : ∀ w ∈ Cond.classLink RX8 ik (eEN e9) :: Cond.initialized (eEN e9) :: vx_atS RX8 ic (eEN e9) eNms, vx_ot w = true := by
        intro w hw
        rcases List.mem_cons.mp hw with rfl | hw
        · rfl
        · rcases List.mem_cons.mp hw with rfl | hw
          · rfl
          · exact eTb_ot (eEx hi c9 w hw)
      rcases dd with ⟨d4, d6, d9⟩ | ⟨d4, d6, d9⟩
      · exact vx_throwS hx hb hl hown (eFit c1) eNms_fit (hts _ (lkE_spec he)) (hts _ (eEI c1)) hvk hat hgood hs.2.1 hs.2.2.1 hS (by rw [hml]; exact hla.1) d0 d3 d4 d6 d9 (fun x hx => (hex x hx).elim) (by show 2 + 3 < R.frames; omega) (by show _ + (13 * (2 + 1) + 43) ≤ _; omega) (by omega) (by omega) hlk hxc hS.2.2 e1 e2
      · exact vx_throwSW hx hb hl hown (eFit c1) eNms_fit (hts _ (lkE_spec he)) (hts _ (eEI c1)) hvk hat hgood hs.2.1 hs.2.2.1 hS (by rw [hml]; exact hla.1) d0 d3 d4 d6 d9 (fun x hx => (hex x hx).elim) (by show 2 + 3 < R.frames; omega) (by show _ + (13 * (2 + 1) + 43) ≤ _; omega) (by omega) (by omega) hlk hxc hS.2.2 e1 e2
  split at c5
  · rename_i ik is d0 d3 d4
    simp only [Bool.and_eq_true] at c5
    obtain ⟨⟨g1, g2⟩, g3⟩ := c5
    split at g3
    · rename_i ic d6 d9
      exact hAll is g2 ik ic g1 g3 d0 d3 (Or.inl ⟨d4, d6, d9⟩)
    · cases g3
  · rename_i ik is d0 d3 d4
    simp only [Bool.and_eq_true] at c5
    obtain ⟨⟨g1, g2⟩, g3⟩ := c5
    split at g3
    · rename_i ic d6 d9
      exact hAll is g2 ik ic g1 g3 d0 d3 (Or.inr ⟨d4, d6, d9⟩)
    · cases g3
  · cases c5
theorem m_ireturn {x : Int32} {ty : FieldType} (hd : decode (eB μ) pc = .ok (.ireturn, 1)) (hr : eRt μ = some ty) (hn : narrow ty (.int x) = .int x) : eMP μ pc ls [.int x] σ (.inl (some (.int x))) σ := by
  refine ⟨⟨Nat.le_refl _, Nat.le_refl _, Nat.le_refl _⟩, ?_⟩
  intro l b base L xs cA D p e R s m args below meth c mc ms hl hf hs hrm hmc hms H locs cells slots la hR hS hla hsz hcc hzz
  refine W.widen (k := mc) (n := ms) (by omega) (by omega) (vx_ret ?_)
  exact W.zret hf.1 hf.2.1 (hf.2.2.1.trans hr) hn (fun t ht hW => ⟨rfl, by rw [ht]; exact hR, hS.F ht⟩) hS.2.2 hd hf.2.2.2.2.2.2.1
theorem m_lreturn {x : Int64} (hd : decode (eB μ) pc = .ok (.lreturn, 1)) (hr : eRt μ = some .long) : eMP μ pc ls [.long x] σ (.inl (some (.long x))) σ := by
  refine ⟨⟨Nat.le_refl _, Nat.le_refl _, Nat.le_refl _⟩, ?_⟩
  intro l b base L xs cA D p e R s m args below meth c mc ms hl hf hs hrm hmc hms H locs cells slots la hR hS hla hsz hcc hzz
  refine W.widen (k := mc) (n := ms) (by omega) (by omega) (vx_ret ?_)
  exact W.lret hf.1 hf.2.1 (hf.2.2.1.trans hr) (fun t ht hW => ⟨rfl, by rw [ht]; exact hR, hS.F ht⟩) hS.2.2 hd hf.2.2.2.2.2.2.1
theorem m_return (hd : decode (eB μ) pc = .ok (.return_, 1)) (hr : eRt μ = none) : eMP μ pc ls [] σ (.inl none) σ := by
  refine ⟨⟨Nat.le_refl _, Nat.le_refl _, Nat.le_refl _⟩, ?_⟩
  intro l b base L xs cA D p e R s m args below meth c mc ms hl hf hs hrm hmc hms H locs cells slots la hR hS hla hsz hcc hzz
  refine W.widen (k := mc) (n := ms) (by omega) (by omega) (vx_ret ?_)
  exact W.vret hf.1 hf.2.1 (hf.2.2.1.trans hr) (fun t ht hW => ⟨rfl, by rw [ht]; exact hR, hS.F ht⟩) hS.2.2 hd hf.2.2.2.2.2.2.1
theorem eRep_lb {b base L : Nat} {xs : Nat → Int32} {cA : FieldType → ClassId} {D : va_G} {H : Heap} (hR : eRep b base L xs cA D σ H) (h : base ≤ H.size) : base + (sN σ - 1) ≤ H.size := by
  by_cases h1 : sN σ - 1 = 0
  · omega
  · have h2 := (hR.1 _ _ (eW_at (b := b) (base := base) (cA := cA) (σ := σ) (a := sN σ - 1) (by omega) (by omega))).lt
    have h3 : eAd b base (sN σ - 1) = base + (sN σ - 1 - 1) := by
      obtain ⟨j, hj⟩ : ∃ j, sN σ - 1 = j + 1 := ⟨sN σ - 2, by omega⟩
      rw [hj]; rfl
    have h4 : eAd b base (sN σ - 1) < H.size := h2
    omega
theorem eRep_new {b base L : Nat} {xs : Nat → Int32} {cA : FieldType → ClassId} {D : va_G} {H H1 : Heap} {kd : Nat ⊕ (FieldType × Nat)} {z : Nat} (hR : eRep b base L xs cA D σ H) (hh : H.size = base + (sN σ - 1)) (ho : ∀ q : Nat, q < H.size → H1[q]? = H[q]?)
    (hk : (∀ c, kd = .inl c → c < 10) ∧ (∀ ty n, kd = .inr (ty, n) → ty ∈ eTys ∧ n ≤ 100000)) (hat : va_at D eCl (base + (sN σ - 1), eCell b base cA (newK σ kd z) (sN σ)) H1) : eRep b base L xs cA D (newK σ kd z) H1 := by
  obtain ⟨r1, r2, r3, r4, r5, r6⟩ := hR
  have hne : ∀ a', a' < sN σ → ¬ a' = sN σ := fun a' h => by omega
  have h0 : ¬ 0 = sN σ := by omega
  refine ⟨?_, by show 1 ≤ sN σ + 1; omega, fun a q1 q2 => ?_, r4, ?_, fun j => ?_⟩
  · rw [← eW_new r2 (σ := σ) (σ' := newK σ kd z) rfl (fun a' h => eCell_eq (by show (if a' = sN σ then kd else sK σ a') = _; rw [if_neg (hne a' h)]) (u1_o (hne a' h)) (u1_o (hne a' h)) (u1_o (hne a' h))) rfl]
    refine (r1.kept (fun k q hq => ho q.1 (r1 k q hq).lt)).app (fun k x hx => ?_)
    have hz : k < 1 := (List.getElem?_eq_some_iff.mp hx).1
    rw [show k = 0 by omega] at hx
    cases hx
    exact hat
  · by_cases ha : a = sN σ
    · have e1 : sK (newK σ kd z) a = kd := by show (if a = sN σ then kd else sK σ a) = _; rw [if_pos ha]
      rw [e1]; exact hk
    · have e1 : sK (newK σ kd z) a = sK σ a := by show (if a = sN σ then kd else sK σ a) = _; rw [if_neg ha]
      rw [e1]
      exact r3 a q1 (by have : a < sN σ + 1 := q2; omega)
  · show (if 0 = sN σ then kd else sK σ 0) = _
    rw [if_neg h0]; exact r5
  · show u1 (sI σ) (sN σ) (fun _ => 0) 0 j = _
    rw [u1_o h0]; exact r6 j
theorem eAd_new {b base : Nat} {σ : eS} (h : 1 ≤ sN σ) : eAd b base (sN σ) = base + (sN σ - 1) := by
  obtain ⟨j, hj⟩ : ∃ j, sN σ = j + 1 := ⟨sN σ - 1, by omega⟩
  rw [hj]; rfl
/-- a step that makes one cell of z slots -/
theorem eStepN {pc' : Nat} {st' : List Value} {kd : Nat ⊕ (FieldType × Nat)} {z : Nat} (h0 : sH σ = 0) (h : eMP μ pc' ls st' (newK σ kd z) o σo)
    (row : ∀ (l : Launch) (b base L : Nat) (xs : Nat → Int32) (cA : FieldType → ClassId) (D : va_G) (p : Program) (e : Env) (R : Room) (s : State) (m : MethodId) (args : Array Value) (below : List Frame) (meth : Method) (c : Code) (H : Heap) (locs : List Loc) (cells slots : Nat) (Q : State → Prop) (la : Array Slot),
      eFr μ p s m args meth c → eSt b base L xs cA D s → eRep b base L xs cA D σ H → H.size = base + (sN σ - 1) → cells + 1 ≤ R.cells → slots + z ≤ R.slots →
      (∀ (H1 : Heap), eRep b base L xs cA D (newK σ kd z) H1 → H1.size = H.size + 1 → (∀ q : Nat, q < H.size → H1[q]? = H[q]?) → W p l e R s m args below meth c H1 locs (cells + 1) (slots + z) Q (F0 m pc' la (st'.map (eVl b base)))) →
      W p l e R s m args below meth c H locs cells slots Q (F0 m pc la (st.map (eVl b base)))) : eMP μ pc ls st σ o σo := by
  obtain ⟨⟨m1, m2, m3⟩, h⟩ := h
  have m1 : sN σ + 1 ≤ sN σo := m1
  have m2 : sH σ ≤ sH σo := m2
  have m3 : sZ σ + z ≤ sZ σo := m3
  refine ⟨⟨by omega, m2, by omega⟩, ?_⟩
  intro l b base L xs cA D p e R s m args below meth c mc ms hl hf hs hr hmc hms H locs cells slots la hR hS hla hsz hc hz T hT X
  have hub := X.heapSize
  rw [hT] at hub
  have hlb := eRep_lb hR (Nat.le_trans hs.2.2.2.2.2.1 hS.1)
  have hN1 := hR.2.1
  refine row l b base L xs cA D p e R s m args below meth c H locs cells slots _ la hf hs hR (by omega) (by omega) (by omega) (fun H1 hR1 hz1 ho1 => ?_) T hT X
  refine h l b base L xs cA D p e R s m args below meth c mc ms hl hf hs hr hmc hms H1 locs (cells + 1) (slots + z) la hR1 ⟨by have := hS.1; omega, fun q q1 q2 => (ho1 q (Nat.lt_of_lt_of_le q1 hS.1)).trans (hS.2.1 q q1 q2), hS.2.2⟩ hla ?_ ?_ ?_
  · show s.heap.size + (cells + 1) ≤ base + (sN σ + 1 - 1) + sH σ
    omega
  · show cells + 1 + (sN σo + sH σo - (sN σ + 1 + sH σ)) ≤ mc
    omega
  · show slots + z + (sZ σo - (sZ σ + z)) ≤ ms
    omega
theorem u1_s {α : Type} {f : Nat → Nat → α} {a j : Nat} {g : Nat → α} : u1 f a g a j = g j := by unfold u1; rw [if_pos rfl]
theorem m_new {c9 i : Nat} (hd : decode (eB μ) pc = .ok (.new i, 3)) (hl : lkN (eC μ) i c9 = true) (h0 : sH σ = 0) (h : eMP μ (pc + 3) ls (.ref (sN σ) :: st) (newK σ (.inl c9) (eNF c9)) o σo) : eMP μ pc ls st σ o σo := by
  obtain ⟨q1, q2⟩ := lkN_spec hl
  refine eStepN h0 h fun l b base L xs cA D p e R s m args below meth c H locs cells slots Q la hf hs hR hh hc hz k => ?_
  have hKn := hs.1.1 c9 _ (eCl_at q1)
  refine W.newcK hf.1 hf.2.1 hf.2.2.2.2.1 (hf.2.2.2.2.2.1 _ q2) (hf.2.2.2.2.2.1 _ (eInst q1).1) (hf.2.2.2.2.2.1 _ (eInst q1).2) rfl hd hc hz hKn.2.1 hh fun H1 kC hkC e1 z1 o1 => ?_
  have o1' : ∀ q : Nat, q < H.size → H1[q]? = H[q]? := fun q hq => o1 q (by rw [← hh]; exact hq)
  have k9 := k H1 (eRep_new hR hh o1' ⟨fun c h => by cases h; exact q1, fun ty n h => by cases h⟩ ?_) (by rw [z1, hh]) o1'
  · refine W.eq ?_ k9
    show F0 m (pc + 3) la (.ref (base + (sN σ - 1)) :: _) = F0 m (pc + 3) la (.ref (eAd b base (sN σ)) :: _)
    rw [eAd_new hR.2.1]
  · have e9 : eCell b base cA (newK σ (.inl c9) (eNF c9)) (sN σ) = .inr (c9, (List.range (eNF c9)).map (fun i => eFl b base (newK σ (.inl c9) (eNF c9)) (sN σ) c9 i)) := by
      have e8 : sK (newK σ (.inl c9) (eNF c9)) (sN σ) = .inl c9 := if_pos rfl
      unfold eCell
      rw [e8]
    rw [e9]
    refine ⟨_, eCl_at q1, (u_born (eTy c9) hf.2.2.2.2.2.1 (eU_in q1) hKn hkC e1 (eTy_ok q1)).to (fun j hj => ?_)⟩
    show defaultValue (eTy c9 j) = vp_V _ j
    unfold vp_V
    rw [List.getD_eq_getElem?_getD, map_range_at _ hj]
    show defaultValue (eTy c9 j) = eFl b base (newK σ (.inl c9) (eNF c9)) (sN σ) c9 j
    rw [eDef q1 hj]
    have f1 : sR (newK σ (.inl c9) (eNF c9)) (sN σ) j = 0 := u1_s (f := sR σ) (g := fun _ => 0)
    have f2 : sI (newK σ (.inl c9) (eNF c9)) (sN σ) j = 0 := u1_s (f := sI σ) (g := fun _ => 0)
    unfold eFl
    rw [f1, f2, if_pos rfl]
theorem u1_f {α : Type} {f : Nat → Nat → α} {a : Nat} {g : Nat → α} : u1 f a g a = g := by funext j; exact u1_s
theorem m_newarray {n : Int32} {t : ArrayType} (ht : t = .int ∨ t = .long ∨ t = .byte ∨ t = .boolean) (hd : decode (eB μ) pc = .ok (.newarray t, 2)) (h0 : sH σ = 0) (hn : ¬ n < 0) (hn2 : n.toNatClampNeg ≤ 100000) (h : eMP μ (pc + 2) ls (.ref (sN σ) :: r) (newK σ (.inr (newarray.typeOf t, n.toNatClampNeg)) n.toNatClampNeg) o σo) : eMP μ pc ls (.int n :: r) σ o σo := by
  refine eStepN h0 h fun l b base L xs cA D p e R s m args below meth c H locs cells slots Q la hf hs hR hh hc hz k => ?_
  have hacl : Cond.arrayClass (newarray.typeOf t) ∈ gTb := by rcases ht with rfl | rfl | rfl | rfl <;> first | exact eAC_int | exact eAC_long | exact eAC_byte | exact eAC_boolean
  have hty : newarray.typeOf t ∈ eTys := by rcases ht with rfl | rfl | rfl | rfl <;> decide
  have hcb : n.toNatClampNeg * componentBytes (newarray.typeOf t) ≤ 536870912 := by
    have : componentBytes (newarray.typeOf t) ≤ 8 := by rcases ht with rfl | rfl | rfl | rfl <;> decide
    exact Nat.le_trans (Nat.mul_le_mul hn2 this) (by decide)
  refine va_newaK hf.1 hf.2.1 (hf.2.2.2.2.2.1 _ hacl) rfl hd rfl hn rfl hcb hc hz hh fun H1 cA1 e1 z1 o1 _ hNm => ?_
  have o1' : ∀ q : Nat, q < H.size → H1[q]? = H[q]? := fun q hq => o1 q (by rw [← hh]; exact hq)
  have hcA : cA1 = cA (newarray.typeOf t) := by
    obtain ⟨t0, ht0⟩ := eTs_at (cA := cA) hty
    have h9 := (hs.1.2 t0 _ ht0).2
    rcases ht with rfl | rfl | rfl | rfl <;> exact Option.some.inj (hNm.symm.trans h9)
  subst hcA
  have k9 := k H1 (eRep_new hR hh o1' ⟨(fun c h => by cases h), (fun ty n9 h => by cases h; exact ⟨hty, hn2⟩)⟩ ?_) (by rw [z1, hh]) o1'
  · refine W.eq ?_ k9
    show F0 m (pc + 2) la (.ref (base + (sN σ - 1)) :: _) = F0 m (pc + 2) la (.ref (eAd b base (sN σ)) :: _)
    rw [eAd_new hR.2.1]
  · have e8 : sK (newK σ (.inr (newarray.typeOf t, n.toNatClampNeg)) n.toNatClampNeg) (sN σ) = .inr (newarray.typeOf t, n.toNatClampNeg) := if_pos rfl
    have f1 : sL (newK σ (.inr (newarray.typeOf t, n.toNatClampNeg)) n.toNatClampNeg) (sN σ) = fun _ => 0 := u1_f (f := sL σ) (g := fun _ => 0)
    have f2 : sI (newK σ (.inr (newarray.typeOf t, n.toNatClampNeg)) n.toNatClampNeg) (sN σ) = fun _ => 0 := u1_f (f := sI σ) (g := fun _ => 0)
    unfold eCell
    rw [e8]
    dsimp only
    rw [f1, f2]
    rcases ht with rfl | rfl | rfl | rfl <;> exact e1
theorem m_anewarray {n : Int32} {c9 i : Nat} (h367 : c9 = 3 ∨ c9 = 6 ∨ c9 = 7) (hd : decode (eB μ) pc = .ok (.anewarray i, 3)) (hl : lkN (eC μ) i c9 = true) (h0 : sH σ = 0) (hn : ¬ n < 0) (hn2 : n.toNatClampNeg ≤ 100000) (h : eMP μ (pc + 3) ls (.ref (sN σ) :: r) (newK σ (.inr (.object (eCN c9), n.toNatClampNeg)) n.toNatClampNeg) o σo) : eMP μ pc ls (.int n :: r) σ o σo := by
  obtain ⟨q1, q2⟩ := lkN_spec hl
  refine eStepN h0 h fun l b base L xs cA D p e R s m args below meth c H locs cells slots Q la hf hs hR hh hc hz k => ?_
  have hao : va_AO (eCN c9) s := by
    obtain ⟨g1, g2, g3⟩ := hs.2.2.2.2.2.2.2.1
    rcases h367 with rfl | rfl | rfl
    · exact g1
    · exact g2
    · exact g3
  have hty : FieldType.object (eCN c9) ∈ eTys := by rcases h367 with rfl | rfl | rfl <;> simp [eTys, eCN]
  refine W.anew hf.1 hf.2.1 hf.2.2.2.2.1 (hf.2.2.2.2.2.1 _ q2) (va_AO.use hao) rfl hd rfl hn (by omega) hc hz fun cA1 kA comp f1 f2 f3 f4 => ?_
  generalize hH1 : H.push ({ cls := cA1, slots := Array.replicate n.toNatClampNeg .null, vm := .none } : Cell) = H1
  have z1 : H1.size = H.size + 1 := by rw [← hH1, Array.size_push]
  have e1 : H1[H.size]? = some (arrV cA1 n.toNatClampNeg (fun _ => .null)) := by rw [← hH1, Array.getElem?_push_size, ← arrV_new]
  have o1 : ∀ q : Nat, q < H.size → H1[q]? = H[q]? := fun q hq => by rw [← hH1, Array.getElem?_push, if_neg (by omega)]
  have hcA : cA1 = cA (.object (eCN c9)) := by
    obtain ⟨t0, ht0⟩ := eTs_at (cA := cA) hty
    obtain ⟨k8, c8, g1, g2, g3, g4⟩ := (hs.1.2 t0 _ ht0).2
    exact Option.some.inj (f1.symm.trans g4)
  subst hcA
  have k9 := k H1 (eRep_new hR hh o1 ⟨(fun c h => by cases h), (fun ty n9 h => by cases h; exact ⟨hty, hn2⟩)⟩ ?_) z1 o1
  · refine W.eq ?_ k9
    show F0 m (pc + 3) la (.ref H.size :: _) = F0 m (pc + 3) la (.ref (eAd b base (sN σ)) :: _)
    rw [eAd_new hR.2.1, hh]
  · have e8 : sK (newK σ (.inr (.object (eCN c9), n.toNatClampNeg)) n.toNatClampNeg) (sN σ) = .inr (.object (eCN c9), n.toNatClampNeg) := if_pos rfl
    have f2 : sR (newK σ (.inr (.object (eCN c9), n.toNatClampNeg)) n.toNatClampNeg) (sN σ) = fun _ => 0 := u1_f (f := sR σ) (g := fun _ => 0)
    unfold eCell
    rw [e8]
    dsimp only
    rw [f2, ← hh]
    exact e1
end
end
section
/-! Calls, and what catches. -/
theorem eKd_ok : ((List.range 174).all fun q => !(eKd q == 4) && (!(eKd q == 2) || decide (eRt q = none)) && (eKd q == 0 || eKd q == 1 || eKd q == 2 || eKd q == 3)) = true := by decide +kernel
theorem eKd_f {q : Nat} (h : q < 174) : ¬ eKd q = 4 ∧ (eKd q = 2 → eRt q = none) ∧ (eKd q = 0 ∨ eKd q = 1 ∨ eKd q = 2 ∨ eKd q = 3) := by
  have h1 := List.all_eq_true.mp eKd_ok q (List.mem_range.mpr h)
  simp only [Bool.and_eq_true, Bool.or_eq_true, Bool.not_eq_true', beq_eq_false_iff_ne, beq_iff_eq, decide_eq_true_eq, ne_eq] at h1
  obtain ⟨⟨h1, h2⟩, h3⟩ := h1
  exact ⟨h1, fun h => h2.resolve_left (fun n => n h), by omega⟩
theorem eMf {q : Nat} (h : q < 174) : eCw q ∈ gTb ∧ Cond.initialized (eY q).cls ∈ gTb ∧ (eY q).cls = eCN (eC q) ∧ plainName (eY q).cls = true ∧ ((eY q).cls ≠ "java/lang/invoke/MethodHandle" ∧ (eY q).cls ≠ "java/lang/invoke/VarHandle") ∧
    (parseMethodDescriptor (eY q).desc).map (fun d => d.parameters.length) = some (eNP q) ∧
    (eKd q = 0 → Cond.instanceMethod (eY q) ∈ gTb ∧ Cond.selects (eY q).cls (eY q) (eY q) ∈ gTb) ∧ (eKd q = 2 → Cond.instanceMethod (eY q) ∈ gTb ∧ (eY q).name = "<init>") ∧ (¬ eKd q = 0 → ¬ eKd q = 2 → Cond.static (eY q) ∈ gTb) := by
  have h1 := eM_ok (r := q) (by omega)
  unfold eMokR eMok at h1
  have h4 := (eKd_f h).1
  simp only [Bool.and_eq_true, Bool.or_eq_true, beq_iff_eq, decide_eq_true_eq] at h1
  rcases h1 with h1 | h1
  · exact absurd h1 h4
  · obtain ⟨⟨⟨⟨⟨⟨⟨⟨a1, a2⟩, a3⟩, a4⟩, a5⟩, a6⟩, a7⟩, a8⟩, a9⟩ := h1
    refine ⟨List.mem_filter.mpr ⟨eCat_mem a1, a2⟩, List.mem_filter.mpr ⟨eAt_mem a3, rfl⟩, a4, a5, ⟨a6, a7⟩, a8, fun hk => ?_, fun hk => ?_, fun hk hk2 => ?_⟩
    · rw [if_pos hk] at a9
      simp only [Bool.and_eq_true, decide_eq_true_eq] at a9
      exact ⟨List.mem_filter.mpr ⟨eAt_mem a9.1, rfl⟩, List.mem_filter.mpr ⟨List.mem_of_getElem? a9.2, rfl⟩⟩
    · rw [if_neg (by omega), if_pos hk] at a9
      simp only [Bool.and_eq_true, decide_eq_true_eq] at a9
      exact ⟨List.mem_filter.mpr ⟨eAt_mem a9.1, rfl⟩, a9.2⟩
    · rw [if_neg hk, if_neg hk2] at a9
      exact List.mem_filter.mpr ⟨eAt_mem a9, rfl⟩
theorem gTb_good : ∀ w ∈ gTb, w ∈ gTb ∧ ((w.onTables && w.keeps) = true ∨ ∃ ty, w = .arrayClass ty) := fun w hw => ⟨hw, good_of_word (List.mem_filter.mp hw).2⟩
abbrev eWs (q : Nat) : List Cond := eCw q :: gTb
theorem eWs_good {q : Nat} (h : q < 174) : GoodIn gTb (eWs q) := fun w hw => by
  rcases List.mem_cons.mp hw with rfl | hw
  · exact gTb_good _ (eMf h).1
  · exact gTb_good w hw
abbrev eRoomOf (q mc ms : Nat) : Room := { frames := eDp q, cells := mc, slots := ms, locals := 40 * eDp q + 100 }
def ePc (b base L : Nat) (xs : Nat → Int32) (cA : FieldType → ClassId) (D : va_G) (as : List Value) (σ : eS) : Array Value → State → Prop := fun a U =>
  a = (as.map (eVl b base)).toArray ∧ eRep b base L xs cA D σ U.heap ∧ eSt b base L xs cA D U ∧ U.heap.size ≤ base + (sN σ - 1) + sH σ
theorem ePc_blind {b base L : Nat} {xs : Nat → Int32} {cA : FieldType → ClassId} {D : va_G} {as : List Value} {σ : eS} : FrameBlind (ePc b base L xs cA D as σ) := by
  intro a U g mk ⟨h1, h2, h3, h4⟩
  exact ⟨h1, h2, h3.on (U := U.calling g mk a) (State.WarmedH.refl U) rfl va_S.rf, h4⟩
theorem lv_args_map {b base : Nat} (as : List Value) : ∀ i, lv_args i (as.map (eVl b base)) = eLm b base (lv_args i as) := by
  induction as with
  | nil => intro i; rfl
  | cons v vs ih =>
    intro i
    show (i, eVl b base v) :: lv_args (if (eVl b base v).category = 2 then i + 2 else i + 1) (vs.map (eVl b base)) = (i, eVl b base v) :: eLm b base (lv_args (if v.category = 2 then i + 2 else i + 1) vs)
    rw [eVl_cat, ih]
theorem lg_sl_len {b base : Nat} (as : List Value) : (lg_sl (as.map (eVl b base))).length = stw as := by
  induction as with
  | nil => rfl
  | cons v vs ih =>
    have e1 : lg_sl ((v :: vs).map (eVl b base)) = (if (eVl b base v).category = 2 then [.val (eVl b base v), .second] else [.val (eVl b base v)]) ++ lg_sl (vs.map (eVl b base)) := rfl
    rw [e1, List.length_append, ih, eVl_cat]
    show _ = v.category + stw vs
    rcases lv_cat v with h | h
    · rw [h, if_neg (by decide)]; rfl
    · rw [h, if_pos rfl]; rfl
section
variable {σ σ1 : eS} {o1 : eO} {as : List Value} {q : Nat}
theorem eBody (h : eMP q 0 (lv_args 0 as) [] σ o1 σ1) (hlen : stw as ≤ eL q) {l : Launch} (hl : l.stackTraces = false) {b base L : Nat} {xs : Nat → Int32} {cA : FieldType → ClassId} {D : va_G}
    {p : Program} {e : Env} {s : State} {m : MethodId} {below : List Frame} {meth : Method} {c : Code} (hf : eFr q p s m ((as.map (eVl b base)).toArray) meth c) (hR : eRep b base L xs cA D σ s.heap) (hs : eSt b base L xs cA D s) (hsz : s.heap.size ≤ base + (sN σ - 1) + sH σ) :
    W p l e (eRoomOf q (sN σ1 + sH σ1 - (sN σ + sH σ)) (sZ σ1 - sZ σ)) s m ((as.map (eVl b base)).toArray) below meth c s.heap [] 0 0 (vx_MQ below (eQc b base L xs cA D o1 σ1) (eXC b base L xs cA D o1 σ1) ((as.map (eVl b base)).toArray) s (sN σ1 + sH σ1 - (sN σ + sH σ)) (sZ σ1 - sZ σ) (eA base)) (entryFrame m ((as.map (eVl b base)).toArray) (eL q)) := by
  rw [lg_entry_eq]
  have hla := lv_entry (as.map (eVl b base)) (n := eL q) (by rw [lg_sl_len]; exact hlen)
  rw [lv_args_map] at hla
  exact h.2 l b base L xs cA D p e _ s m _ below meth c (sN σ1 + sH σ1 - (sN σ + sH σ)) (sZ σ1 - sZ σ) hl hf hs ⟨Nat.le_refl _, Nat.le_refl _⟩ (Nat.le_refl _) (Nat.le_refl _) s.heap [] 0 0 _ hR va_S.rf hla (by omega) (by omega) (by omega)
theorem eMet (hq : q < 174) (hk : ¬ eKd q = 3) (h : eMP q 0 (lv_args 0 as) [] σ o1 σ1) (hlen : stw as ≤ eL q) {l : Launch} (hl : l.stackTraces = false) {b base L : Nat} {xs : Nat → Int32} {cA : FieldType → ClassId} {D : va_G} :
    vx_Met l (eY q) (eWs q) (eRoomOf q (sN σ1 + sH σ1 - (sN σ + sH σ)) (sZ σ1 - sZ σ)) (ePc b base L xs cA D as σ) (eQc b base L xs cA D o1 σ1) (eXC b base L xs cA D o1 σ1) (sN σ1 + sH σ1 - (sN σ + sH σ)) (sZ σ1 - sZ σ) (eA base) := by
  obtain ⟨f1, f2, f3, f4, f5, f6, f7, f8, f9⟩ := eMf hq
  refine vx_ofW (cc := eB q) (maxL := eL q) (ret := eRt q) (ws' := gTb) f4 (by unfold eWs eCw; rw [if_neg hk]) ?_
  intro p e s m args below meth c s₁ B hml hex hv
  obtain ⟨rfl, hR, hs, hsz⟩ := hv
  have hts := atoms_spec (ws := eWs q) B.pre
  refine eBody h hlen hl ⟨B.exec, B.bytes, B.returns, hml, by rw [← f3]; exact findClass_of_methodNamed B.named, fun w hw => hts w (List.mem_cons_of_mem _ hw), B.notSynchronized, fun h3 => absurd h3 hk, fun _ _ => hex, fun h2 => ?_⟩ hR hs hsz
  rw [← (f8 h2).2]
  exact (name_of_methodNamed B.named B.method).1
theorem eMet3 {v : Option Value} (hq : q < 174) (hk : eKd q = 3) (h : eMP q 0 (lv_args 0 as) [] σ (.inl v) σ1) (hlen : stw as ≤ eL q) {l : Launch} (hl : l.stackTraces = false) {b base L : Nat} {xs : Nat → Int32} {cA : FieldType → ClassId} {D : va_G} :
    Met l (eY q) (eWs q) (eRoomOf q (sN σ1 + sH σ1 - (sN σ + sH σ)) (sZ σ1 - sZ σ)) (ePc b base L xs cA D as σ) (eQc b base L xs cA D (.inl v) σ1) (sN σ1 + sH σ1 - (sN σ + sH σ)) (sZ σ1 - sZ σ) (eA base) := by
  obtain ⟨f1, f2, f3, f4, f5, f6, f7, f8, f9⟩ := eMf hq
  have h9 : vx_Met l (eY q) (eWs q) (eRoomOf q (sN σ1 + sH σ1 - (sN σ + sH σ)) (sZ σ1 - sZ σ)) (ePc b base L xs cA D as σ) (eQc b base L xs cA D (.inl v) σ1) (eXC b base L xs cA D (.inl v) σ1) (sN σ1 + sH σ1 - (sN σ + sH σ)) (sZ σ1 - sZ σ) (eA base) := by
    have hcw : eCw q = Cond.codeWith (eY q) (eB q) (eL q) (eRt q) (eHL q) := by unfold eCw; rw [if_pos hk]
    refine vx_ofWH (cc := eB q) (maxL := eL q) (ret := eRt q) (hh := eHL q) (ws' := gTb) f4 (by unfold eWs; rw [hcw]) ?_
    intro p e s m args below meth c s₁ B hml hv
    obtain ⟨rfl, hR, hs, hsz⟩ := hv
    have hts := atoms_spec (ws := eWs q) B.pre
    refine eBody h hlen hl ⟨B.exec, B.bytes, B.returns, hml, by rw [← f3]; exact findClass_of_methodNamed B.named, fun w hw => hts w (List.mem_cons_of_mem _ hw), B.notSynchronized, fun _ => ?_, fun h3 => absurd hk h3, fun h2 => by omega⟩ hR hs hsz
    have h8 := hts _ List.mem_cons_self
    rw [hcw] at h8
    exact vx_table (x := eY q) B h8
  refine MetFree.mono h9 (fun _ _ h => h) (fun _ _ _ _ _ h => h) (fun a st o t _ hQ => ?_)
  rcases hQ with hQ | ⟨q9, -, E, ce, L9, hXC, -⟩
  · exact hQ
  · exact hXC.elim
/-- the words, the room of a call -/
theorem eCallB {hq : q < 174} {hk : ¬ eKd q = 3} {μ i : Nat} {R : Room} {s : State} {args : Array Value} {mc ms n : Nat} (hts : ∀ w ∈ gTb, w.before args s = true) (hrm : eRm μ R) (hdp : eDp q < eDp μ) (hl : Cond.methodLink (eCN (eC μ)) i (eY q) ∈ gTb) (hn : n = eNP q) :
    CallB R s args (eCN (eC μ)) i (eY q) (eB q) (eL q) (eRt q) (eWs q) (eRoomOf q mc ms) mc ms n := by
  obtain ⟨f1, f2, f3, f4, f5, f6, f7, f8, f9⟩ := eMf hq
  have hcw : eCw q = Cond.code (eY q) (eB q) (eL q) (eRt q) := by unfold eCw; rw [if_neg hk]
  have h21 : eL q ≤ 21 := of_decide_eq_true (List.all_eq_true.mp eLn q (List.mem_range.mpr (by omega)))
  have r1 := hrm.1
  have r2 := hrm.2
  refine ⟨rfl, rfl, by show eDp q + 1 ≤ _; omega, by show 8 + (eL q + 11) + (40 * eDp q + 100) ≤ _; omega, pay_in hts (eWs_good hq), by rw [← hcw]; exact List.mem_cons_self, by rw [← hcw]; exact hts _ f1, hts _ f2, f5, fun sig h => ?_, hts _ hl⟩
  rw [h] at f6
  exact hn.trans (Option.some.inj f6).symm
theorem eCallN {hq : q < 174} {hk : ¬ eKd q = 3} {μ i : Nat} {R : Room} {s : State} {args : Array Value} {mc ms n : Nat} (hts : ∀ w ∈ gTb, w.before args s = true) (hrm : eRm μ R) (hdp : eDp q < eDp μ) (hl : va_Nw (Cond.methodLinkNest (eCN (eC μ)) i (eY q) "EventVault") s) (hn : n = eNP q) :
    va_CN R s args (eCN (eC μ)) i (eY q) "EventVault" (eB q) (eL q) (eRt q) (eWs q) (eRoomOf q mc ms) mc ms n := by
  obtain ⟨f1, f2, f3, f4, f5, f6, f7, f8, f9⟩ := eMf hq
  have hcw : eCw q = Cond.code (eY q) (eB q) (eL q) (eRt q) := by unfold eCw; rw [if_neg hk]
  have h21 : eL q ≤ 21 := of_decide_eq_true (List.all_eq_true.mp eLn q (List.mem_range.mpr (by omega)))
  have r1 := hrm.1
  have r2 := hrm.2
  refine ⟨⟨rfl, rfl, by show eDp q + 1 ≤ _; omega, by show 8 + (eL q + 11) + (40 * eDp q + 100) ≤ _; omega, pay_in hts (eWs_good hq), by rw [← hcw]; exact List.mem_cons_self⟩, by rw [← hcw]; exact hts _ f1, hts _ f2, f5, fun sig h => ?_, va_Nw.use rfl hl⟩
  rw [h] at f6
  exact hn.trans (Option.some.inj f6).symm
end
def eRaw (μ pc q n : Nat) : Prop := ∃ i, lkM (eC μ) i q = true ∧ ((decode (eB μ) pc = .ok (.invokevirtual i, 3) ∧ eKd q = 0 ∧ n = eNP q + 1) ∨ (decode (eB μ) pc = .ok (.invokestatic i, 3) ∧ (eKd q = 1 ∨ eKd q = 3) ∧ n = eNP q) ∨ (decode (eB μ) pc = .ok (.invokespecial i, 3) ∧ eKd q = 2 ∧ n = eNP q + 1))
section
variable {μ pc q n : Nat} {ls : eLs} {st : List Value} {σ σ1 : eS} {o o1 : eO} {σo : eS}
/-- the call of a method that isn't one with handlers: the machine runs it -/
theorem eRun (hq : q < 174) (hk : ¬ eKd q = 3) (hdp : eDp q < eDp μ) (hraw : eRaw μ pc q n) (h1 : n ≤ st.length) (h0 : stw (st.take n).reverse ≤ eL q) (h2 : stw (st.drop n) ≤ 8)
    (h3 : recvOk q (st.take n).reverse σ)
    (hcal : eMP q 0 (lv_args 0 (st.take n).reverse) [] σ o1 σ1) {l : Launch} (hl : l.stackTraces = false) {b base L : Nat} {xs : Nat → Int32} {cA : FieldType → ClassId} {D : va_G} {p : Program} {e : Env} {R : Room} {s : State} {m : MethodId} {args : Array Value} {below : List Frame} {meth : Method} {c : Code}
    (hf : eFr μ p s m args meth c) (hs : eSt b base L xs cA D s) (hr : eRm μ R) {H : Heap} {locs : List Loc} {cells slots : Nat} {la : Array Slot} (hR : eRep b base L xs cA D σ H) (hS : va_S (eA base) s.heap H locs) (hla : lv_has la (eL μ) (eLm b base ls)) (hsz : H.size ≤ base + (sN σ - 1) + sH σ)
    (hc : cells + (sN σ1 + sH σ1 - (sN σ + sH σ)) ≤ R.cells) (hz : slots + (sZ σ1 - sZ σ) ≤ R.slots) :
    vx_Run p l e R s m args below meth c H locs cells slots (sN σ1 + sH σ1 - (sN σ + sH σ)) (sZ σ1 - sZ σ) (F0 m pc la (st.map (eVl b base))) ((st.drop n).map (eVl b base)) (fun st₀ oc t => eQc b base L xs cA D o1 σ1 #[] st₀ oc t) (eXC b base L xs cA D o1 σ1) (eA base) := by
  obtain ⟨f1, f2, f3, f4, f5, f6, f7, f8, f9⟩ := eMf hq
  obtain ⟨hx, hb, hret, hml, hown, hts, hlk, hh3, hhn, hin⟩ := hf
  have hM := eMet hq hk hcal h0 hl (b := b) (base := base) (L := L) (xs := xs) (cA := cA) (D := D)
  have hW := eRoom (b := b) (base := base) h2
  have hlenA : (st.take n).reverse.length = n := by rw [List.length_reverse, List.length_take]; omega
  have hst : st = (st.take n).reverse.reverse ++ st.drop n := by rw [List.reverse_reverse, List.take_append_drop]
  have hP : ∀ U : State, U.heap = H → s.WarmedH U.vm → ePc b base L xs cA D (st.take n).reverse σ ((st.take n).reverse.map (eVl b base)).toArray U := fun U hU hWU => ⟨rfl, by rw [hU]; exact hR, hs.on hWU hU hS, by rw [hU]; exact hsz⟩
  generalize (st.take n).reverse = as at hM hlenA hst hP h3
  obtain ⟨i, hlm, hraw⟩ := hraw
  have hlm := lkM_spec hlm
  have hsize : la.size = eL μ := hla.1
  rcases hraw with ⟨hd, hk0, hn⟩ | ⟨hd, hk1, hn⟩ | ⟨hd, hk2, hn⟩
  · unfold recvOk at h3
    rw [hk0] at h3
    cases as with
    | nil => exact h3.elim
    | cons v As =>
      cases v with
      | ref bb =>
        have hci := (hR.2.2.1 bb h3.1 h3.2.1).1 _ h3.2.2
        have hrecv := va_recv hs.1 hR.1 (eCl_at hci) (eW_obj (b := b) (base := base) (cA := cA) h3)
        rw [← f3] at hrecv
        have hst2 : (F0 m pc la (st.map (eVl b base))).stack = (As.map (eVl b base)).reverse ++ .ref (eAd b base bb) :: (st.drop n).map (eVl b base) := by
          show st.map (eVl b base) = _
          conv => lhs; rw [hst]
          rw [List.map_append, List.map_reverse, List.map_cons, List.reverse_cons, List.append_assoc]
          rfl
        have hn2 : (As.map (eVl b base)).length = eNP q := by rw [List.length_map]; simp only [List.length_cons] at hlenA; omega
        rcases hlm with hlm | hlm
        · exact vx_runVN ⟨hx, hb, hml, hown, hts⟩ hM ⟨eCallN (hq := hq) (hk := hk) hts hr hdp (hs.2.2.2.2.2.2.1 _ hlm rfl) rfl, hts _ (f7 hk0).1, hts _ (f7 hk0).2⟩ ⟨ePc_blind, hrecv, hP⟩ rfl hn2 hsize hst2 (lv_room hW) hd ⟨hc, hz⟩
        · exact vx_runV ⟨hx, hb, hml, hown, hts⟩ hM ⟨eCallB (hq := hq) (hk := hk) hts hr hdp hlm rfl, hts _ (f7 hk0).1, hts _ (f7 hk0).2⟩ ⟨ePc_blind, hrecv, hP⟩ rfl hn2 hsize hst2 (lv_room hW) hd ⟨hc, hz⟩
      | _ => exact h3.elim
  · have hk9 : eKd q = 1 := by omega
    have hst2 : (F0 m pc la (st.map (eVl b base))).stack = (as.map (eVl b base)).reverse ++ (st.drop n).map (eVl b base) := by
      show st.map (eVl b base) = _
      conv => lhs; rw [hst]
      rw [List.map_append, List.map_reverse]
    have hn2 : (as.map (eVl b base)).length = eNP q := by rw [List.length_map]; omega
    rcases hlm with hlm | hlm
    · exact vx_runSN (As := as.map (eVl b base)) ⟨hx, hb, hml, hown, hts⟩ hM ⟨eCallN (hq := hq) (hk := hk) hts hr hdp (hs.2.2.2.2.2.2.1 _ hlm rfl) rfl, hts _ (f9 (by omega) (by omega)), trivial⟩ ⟨ePc_blind, hP⟩ rfl hn2 hsize hst2 (lv_room hW) hd ⟨hc, hz⟩
    · exact vx_runS (As := as.map (eVl b base)) ⟨hx, hb, hml, hown, hts⟩ hM ⟨eCallB (hq := hq) (hk := hk) hts hr hdp hlm rfl, hts _ (f9 (by omega) (by omega))⟩ ⟨ePc_blind, hP⟩ rfl hn2 hsize hst2 (lv_room hW) hd ⟨hc, hz⟩
  · unfold recvOk at h3
    rw [hk2] at h3
    have hrt := (eKd_f hq).2.1 hk2
    cases as with
    | nil => exact h3.elim
    | cons v As =>
      cases v with
      | ref bb =>
        have hst2 : (F0 m pc la (st.map (eVl b base))).stack = (As.map (eVl b base)).reverse ++ .ref (eAd b base bb) :: (st.drop n).map (eVl b base) := by
          show st.map (eVl b base) = _
          conv => lhs; rw [hst]
          rw [List.map_append, List.map_reverse, List.map_cons, List.reverse_cons, List.append_assoc]
          rfl
        have hn2 : (As.map (eVl b base)).length = eNP q := by rw [List.length_map]; simp only [List.length_cons] at hlenA; omega
        rcases hlm with hlm | hlm
        · exact vx_runIN (bytes := eB q) (maxL := eL q) ⟨hx, hb, hml, hown, hts⟩ hM ⟨by rw [← hrt]; exact eCallN (hq := hq) (hk := hk) hts hr hdp (hs.2.2.2.2.2.2.1 _ hlm rfl) rfl, (f8 hk2).2, hts _ (f8 hk2).1⟩ ⟨ePc_blind, hP⟩ rfl hn2 hsize hst2 (lv_room hW) hd ⟨hc, hz⟩
        · exact vx_runI (bytes := eB q) (maxL := eL q) ⟨hx, hb, hml, hown, hts⟩ hM ⟨by rw [← hrt]; exact eCallB (hq := hq) (hk := hk) hts hr hdp hlm rfl, (f8 hk2).2, hts _ (f8 hk2).1⟩ ⟨ePc_blind, hP⟩ rfl hn2 hsize hst2 (lv_room hW) hd ⟨hc, hz⟩
      | _ => exact h3.elim
end
end
section
/-! What a call comes back with; then: the machine is closed under rows of instructions. -/
theorem eLM_nest : ((eLM.all fun t => !t.2.2.2.1 || eKd t.2.2.1 == 2) = true) := by decide +kernel
theorem lkM_static {own i q : Nat} (h : lkM own i q = true) (hk : ¬ eKd q = 2) : Cond.methodLink (eCN own) i (eY q) ∈ gTb := by
  obtain ⟨t, ht, h1⟩ := List.any_eq_true.mp h
  have h2 := List.all_eq_true.mp eLM_ok t ht
  have h4 := List.all_eq_true.mp eLM_nest t ht
  simp only [Bool.and_eq_true, beq_iff_eq, decide_eq_true_eq, Bool.or_eq_true, Bool.not_eq_true'] at h1 h2 h4
  obtain ⟨⟨e1, e2⟩, e3⟩ := h1
  have h3 := eAt_mem h2.1
  unfold eMw at h3
  rw [e1, e2, e3] at h3
  rw [e3] at h4
  rcases h4 with h4 | h4
  · rw [h4] at h3
    exact List.mem_filter.mpr ⟨h3, rfl⟩
  · exact absurd h4 hk
section
variable {μ pc q n : Nat} {ls : eLs} {st : List Value} {σ σ1 : eS} {o : eO} {σo : eS}
theorem e_back {b base : Nat} (v : Option Value) (r : List Value) : (v.map (eVl b base)).toList ++ r.map (eVl b base) = (v.toList ++ r).map (eVl b base) := by cases v <;> rfl
theorem m_callR {v : Option Value} (hq : q < 174) (hdp : eDp q < eDp μ) (hraw : eRaw μ pc q n) (h1 : n ≤ st.length) (h0 : stw (st.take n).reverse ≤ eL q) (h2 : stw (st.drop n) ≤ 8)
    (h3 : recvOk q (st.take n).reverse σ)
    (hcal : eMP q 0 (lv_args 0 (st.take n).reverse) [] σ (.inl v) σ1) (hk : eMP μ (pc + 3) ls (v.toList ++ st.drop n) σ1 o σo) : eMP μ pc ls st σ o σo := by
  obtain ⟨⟨m1, m2, m3⟩, hgo⟩ := hk
  obtain ⟨c1, c2, c3⟩ := hcal.1
  refine ⟨⟨by omega, by omega, by omega⟩, ?_⟩
  intro l b base L xs cA D p e R s m args below meth c mc ms hl hf hs hr hmc hms H locs cells slots la hR hS hla hsz hc hz T hT X
  have hub := X.heapSize
  rw [hT] at hub
  have hN1 := hR.2.1
  have key : ∃ (st₀ t T' : State) (L9 : List Loc), st₀.heap = H ∧ Stand p l e R s m args below meth c T' (locs ++ L9) (cells + (sN σ1 + sH σ1 - (sN σ + sH σ))) (slots + (sZ σ1 - sZ σ)) ∧ (∀ q ∈ L9, eA base q.base) ∧ T'.heap = t.heap ∧ eRep b base L xs cA D σ1 t.heap ∧ va_F (eA base) st₀ t ∧
      Goes p e below T (F0 m pc la (st.map (eVl b base))) T' { F0 m pc la (st.map (eVl b base)) with pc := pc + 3, stack := (v.map (eVl b base)).toList ++ (st.drop n).map (eVl b base) } := by
    by_cases hk3 : eKd q = 3
    · obtain ⟨f1, f2, f3, f4, f5, f6, f7, f8, f9⟩ := eMf hq
      obtain ⟨hx, hb, hret, hml, hown, hts, hlk, hh3, hhn, hin⟩ := hf
      have hM := eMet3 hq hk3 hcal h0 hl (b := b) (base := base) (L := L) (xs := xs) (cA := cA) (D := D)
      obtain ⟨i, hlm, hraw⟩ := hraw
      have hd : decode (eB μ) pc = .ok (.invokestatic i, 3) ∧ n = eNP q := by
        rcases hraw with ⟨hd, hk0, hn⟩ | ⟨hd, hk1, hn⟩ | ⟨hd, hk2, hn⟩
        · omega
        · exact ⟨hd, hn⟩
        · omega
      have hlm2 : Cond.methodLink (eCN (eC μ)) i (eY q) ∈ gTb := lkM_static hlm (by omega)
      have hcw : eCw q = Cond.codeWith (eY q) (eB q) (eL q) (eRt q) (eHL q) := by unfold eCw; rw [if_pos hk3]
      have h21 : eL q ≤ 21 := of_decide_eq_true (List.all_eq_true.mp eLn q (List.mem_range.mpr (by omega)))
      have r1 := hr.1
      have r2 := hr.2
      have hW := eRoom (b := b) (base := base) h2
      have hlenA : (st.take n).reverse.length = n := by rw [List.length_reverse, List.length_take]; omega
      have hst2 : (F0 m pc la (st.map (eVl b base))).stack = ((st.take n).reverse.map (eVl b base)).reverse ++ (st.drop n).map (eVl b base) := by
        show st.map (eVl b base) = _
        rw [← List.map_reverse, List.reverse_reverse, ← List.map_append, List.take_append_drop]
      obtain ⟨v9, st₀, t, T', L9, e0, X', hL, e1, e2, ⟨hv, hR1, hF⟩, hgoes⟩ := vx_runSW (As := (st.take n).reverse.map (eVl b base)) (hh := eHL q) (bytes := eB q) (maxL := eL q) (ret := eRt q) ⟨hx, hb, hml, hown, hts⟩ hM
        ⟨⟨rfl, rfl, by show eDp q + 1 ≤ _; omega, by show 8 + (eL q + 11) + (40 * eDp q + 100) ≤ _; omega, pay_in hts (eWs_good hq), by rw [← hcw]; exact List.mem_cons_self⟩, by rw [← hcw]; exact hts _ f1, hts _ f2, f5, fun sig h => by rw [h] at f6; exact hd.2.trans (Option.some.inj f6).symm, hts _ hlm2, hts _ (f9 (by omega) (by omega))⟩
        ⟨ePc_blind, fun U hU hWU => ⟨rfl, by rw [hU]; exact hR, hs.on hWU hU hS, by rw [hU]; omega⟩⟩ rfl (by rw [List.length_map, hlenA]) hla.1 hst2 (lv_room hW) hd.1 ⟨by omega, by omega⟩ T hT X
      have hv' : v9 = v.map (eVl b base) := by injection hv
      rw [hv'] at hgoes
      exact ⟨st₀, t, T', L9, e0, X', hL, e1, hR1, hF, hgoes⟩
    · rcases eRun hq hk3 hdp hraw h1 h0 h2 h3 hcal hl hf hs hr hR hS hla (by omega) (by omega) (by omega) T hT X with ⟨v9, st₀, t, T', L9, e0, X', hL, e1, e2, ⟨hv, hR1, hF⟩, hgoes⟩ | ⟨q9, st₀, t, T', L9, E, ce, e0, X', hL, e1, e2, hXC, -⟩
      · have hv' : v9 = v.map (eVl b base) := by injection hv
        rw [hv'] at hgoes
        exact ⟨st₀, t, T', L9, e0, X', hL, e1, hR1, hF, hgoes⟩
      · exact hXC.elim
  obtain ⟨st₀, t, T', L9, e0, X', hL, e1, hR1, hF, hgoes⟩ := key
  obtain ⟨k1, k2, k3⟩ := vx_keep (A1 := eA base) e0 e1 hS (fun _ _ h => h) (fun _ h => h) hL hF
  obtain ⟨t2, a1, b1⟩ := hgo l b base L xs cA D p e R s m args below meth c mc ms hl hf hs hr hmc hms T'.heap (locs ++ L9) _ _ la (by rw [e1]; exact hR1) k3 hla (by omega) (by omega) (by omega) T' rfl X'
  rw [← e_back] at a1
  exact ⟨t2, hgoes t2 a1, b1⟩
end
end
section
section
variable {μ pc q n : Nat} {ls : eLs} {st : List Value} {σ σ1 : eS} {o : eO} {σo : eS}
theorem eTh_le {e9 : Nat} (h : eTh eMP μ o σo e9 pc ls σ1) : sN σ1 ≤ sN σo ∧ sH σ1 ≤ sH σo ∧ sZ σ1 ≤ sZ σo := by
  rcases h with ⟨-, -, -, rfl⟩ | ⟨-, j, hh, k, len, -, h⟩
  · exact ⟨Nat.le_refl _, Nat.le_refl _, Nat.le_refl _⟩
  · exact h.1
/-- thrown over this frame: caught by its table, or handed on -/
theorem e_thrown {e9 : Nat} (h : eTh eMP μ o σo e9 pc ls σ1) {l : Launch} (hl : l.stackTraces = false) {b base L : Nat} {xs : Nat → Int32} {cA : FieldType → ClassId} {D : va_G} {p : Program} {e : Env} {R : Room} {s : State} {m : MethodId} {args : Array Value} {below : List Frame} {meth : Method} {c : Code} {mc ms : Nat}
    (hf : eFr μ p s m args meth c) (hs : eSt b base L xs cA D s) (hr : eRm μ R) (hmc : mc ≤ R.cells) (hms : ms ≤ R.slots) {H : Heap} {locs : List Loc} {cells slots : Nat} {la : Array Slot} {rest : List Value} {q9 : Addr} {ce : Cell} (h4 : e9 < 4) (hR : eRep b base L xs cA D σ1 H) (hS : va_S (eA base) s.heap H locs) (hla : lv_has la (eL μ) (eLm b base ls))
    (hsz : s.heap.size + cells ≤ base + (sN σ1 - 1) + sH σ1) (hc : cells + (sN σo + sH σo - (sN σ1 + sH σ1)) ≤ mc) (hz : slots + (sZ σo - sZ σ1) ≤ ms) (hce : H[q9]? = some ce) (hcv : ce.vm = .none) (hcl : s.vm.findClass (eEN e9) = some ce.cls) :
    vx_W p l e R s m args below meth c H locs cells slots (vx_MQ below (eQc b base L xs cA D o σo) (eXC b base L xs cA D o σo) args s mc ms (eA base)) (F0 m pc la rest) q9 := by
  have hf' := hf
  obtain ⟨hx, hb, hret, hml, hown, hts, hlk, hh3, hhn, hin⟩ := hf
  rcases h with ⟨k3, k4, rfl, rfl⟩ | ⟨k3, j, hh, k, len, hok, hgo⟩
  · exact vx_out (fun x hx => ((hhn k3 k4) x hx).elim) hlk hce hcv hcl (fun t ht _ => ⟨h4, rfl, by rw [ht]; exact hR, hS.F ht⟩) hS.2.2 (by omega) (by omega)
  · unfold hOk at hok
    simp only [Bool.and_eq_true, decide_eq_true_eq, beq_iff_eq] at hok
    obtain ⟨⟨⟨⟨g1, g2⟩, g3⟩, g4⟩, g5⟩ := hok
    cases hx9 : (eHL μ)[j]? with
    | none => rw [hx9] at g1; cases g1
    | some x9 =>
      rw [hx9] at g1
      simp only [Bool.and_eq_true, decide_eq_true_eq, beq_iff_eq, Bool.not_eq_true', beq_eq_false_iff_ne, ne_eq] at g1
      obtain ⟨⟨⟨⟨⟨a1, a2⟩, a3⟩, a4⟩, a5⟩, a6⟩ := g1
      have hle := lkE_spec a4
      rw [← g5] at hle
      have hsplit : c.exceptionTable.toList = tableOf ((eHL μ).take j) ++ (⟨x9.1, x9.2.1, x9.2.2.1, x9.2.2.2⟩ : ExceptionTableEntry) :: tableOf ((eHL μ).drop (j + 1)) := by
        rw [hh3 k3]
        have e1 : eHL μ = (eHL μ).take j ++ x9 :: (eHL μ).drop (j + 1) := by
          obtain ⟨hj, hj2⟩ := List.getElem?_eq_some_iff.mp hx9
          rw [← hj2, List.getElem_cons_drop, List.take_append_drop]
        conv => lhs; rw [e1]
        unfold tableOf
        rw [List.map_append, List.map_cons]
      refine vx_catch (own := eCN (eC μ)) (name := eEN e9) (E := eEN e9) (ce := ce) hown _ _ _ hsplit (fun z hz => Or.inr ?_) ?_ a5 (hts _ hle) (va_Nw.use rfl (hs.2.2.2.2.2.2.1 _ (eCs h4) rfl)) hce hcv hcl ?_
      · unfold tableOf at hz
        obtain ⟨y, hy, rfl⟩ := List.mem_map.mp hz
        have h9 := List.all_eq_true.mp a6 y hy
        simp only [Bool.and_eq_true, Bool.not_eq_true', beq_eq_false_iff_ne, ne_eq] at h9
        obtain ⟨b1, b2⟩ := h9
        obtain ⟨e', he', b3⟩ := List.any_eq_true.mp b2
        simp only [Bool.and_eq_true, Bool.not_eq_true', beq_eq_false_iff_ne, ne_eq] at b3
        have hle2 := lkE_spec b3.2
        rw [← g5] at hle2
        exact ⟨b1, eEN e', hts _ hle2, hs.2.2.2.2.2.2.2.2.2 e9 e' h4 (List.mem_range.mp he') (fun z => b3.1 z.symm)⟩
      · show (decide (x9.1 ≤ pc) && decide (pc < x9.2.1)) = true
        simp [a1, a2]
      · show W p l e R s m args below meth c H locs cells slots _ (F0 m x9.2.2.1 la [.ref q9])
        rw [a3]
        have kk : ∀ (la' : Array Slot), lv_has la' (eL μ) ((k, .ref q9) :: (eLm b base ls).filter (fun q => !(q.1 == k) && !(q.1 + 1 == k && q.2.category == 2))) → W p l e R s m args below meth c H locs cells slots (vx_MQ below (eQc b base L xs cA D o σo) (eXC b base L xs cA D o σo) args s mc ms (eA base)) (F0 m (hh + len) la' []) := by
          intro la' hla'
          refine hgo.2 l b base L xs cA D p e R s m args below meth c mc ms hl hf' hs hr hmc hms H locs cells slots la' hR hS ?_ hsz hc hz
          rw [eLm_fl1] at hla'
          exact ⟨hla'.1, hla'.2.1, fun q hq => hla'.2.2 q (List.mem_cons_of_mem _ hq)⟩
        split at g2
        · rename_i i hdi
          simp only [Bool.and_eq_true, beq_iff_eq] at g2
          obtain ⟨g2, g6⟩ := g2
          subst g6
          exact lv_astore_n hx hb hdi g2 hla g3 rfl kk
        · rename_i i hdi
          simp only [Bool.and_eq_true, beq_iff_eq] at g2
          obtain ⟨g2, g6⟩ := g2
          subst g6
          subst g2
          exact lv_astore hx hb hdi hla g3 rfl kk
        · cases g2
theorem m_callX {e9 : Nat} (hq : q < 174) (hk3 : ¬ eKd q = 3) (hdp : eDp q < eDp μ) (hraw : eRaw μ pc q n) (h1 : n ≤ st.length) (h0 : stw (st.take n).reverse ≤ eL q) (h2 : stw (st.drop n) ≤ 8)
    (h3 : recvOk q (st.take n).reverse σ)
    (hcal : eMP q 0 (lv_args 0 (st.take n).reverse) [] σ (.inr e9) σ1) (hk : eTh eMP μ o σo e9 pc ls σ1) : eMP μ pc ls st σ o σo := by
  obtain ⟨m1, m2, m3⟩ := eTh_le hk
  obtain ⟨c1, c2, c3⟩ := hcal.1
  refine ⟨⟨by omega, by omega, by omega⟩, ?_⟩
  intro l b base L xs cA D p e R s m args below meth c mc ms hl hf hs hr hmc hms H locs cells slots la hR hS hla hsz hc hz T hT X
  have hub := X.heapSize
  rw [hT] at hub
  have hN1 := hR.2.1
  rcases eRun hq hk3 hdp hraw h1 h0 h2 h3 hcal hl hf hs hr hR hS hla (by omega) (by omega) (by omega) T hT X with ⟨v9, st₀, t, T', L9, e0, X', hL, e1, e2, ⟨⟩, -⟩ | ⟨q9, st₀, t, T', L9, E, ce, e0, X', hL, e1, e2, ⟨h4, hE, hR1, hF⟩, hce, hcv, hcl, hst⟩
  subst hE
  obtain ⟨k1, k2, k3⟩ := vx_keep (A1 := eA base) e0 e1 hS (fun _ _ h => h) (fun _ h => h) hL hF
  obtain ⟨t2, a1, b1⟩ := e_thrown hk hl (rest := (st.drop n).map (eVl b base)) hf hs hr hmc hms h4 (by rw [e1]; exact hR1) k3 hla (by omega) (by omega) (by omega) (by rw [e1]; exact hce) hcv hcl T' rfl X'
  exact ⟨t2, hst.trans a1, b1⟩
end
end
section
/-! Stores that show the same cells stand for the same heap. -/
theorem arrV_eq {cA : ClassId} {n : Nat} {f g : Nat → Value} (h : ∀ j, j < n → f j = g j) : arrV cA n f = arrV cA n g := by
  unfold arrV
  have e1 : (Array.ofFn (n := n) fun j => f j.val) = Array.ofFn (n := n) fun j => g j.val := by
    congr 1
    funext j
    exact h j.val j.isLt
  rw [e1]
theorem eRep_ag {b base L : Nat} {xs : Nat → Int32} {cA : FieldType → ClassId} {D : va_G} {σ σ' : eS} {H : Heap} (hA : eAg σ σ') (hR : eRep b base L xs cA D σ H) : eRep b base L xs cA D σ' H := by
  obtain ⟨n1, n2, n3, n4, n5, n6⟩ := hA
  obtain ⟨r1, r2, r3, r4, r5, r6⟩ := hR
  refine ⟨fun k q hq => ?_, by rw [n1]; exact r2, fun a q1 q2 => by rw [(n6 a q1 (by rw [← n1]; exact q2)).1]; exact r3 a q1 (by rw [← n1]; exact q2), r4, by rw [n4]; exact r5, fun j => (n5 j).trans (r6 j)⟩
  have hk : k < sN σ - 1 := by
    have h1 := (List.getElem?_eq_some_iff.mp hq).1
    unfold eW at h1
    rw [List.length_map, List.length_range, n1] at h1
    exact h1
  have e1 : (eW b base cA σ')[k]? = some (base + k, eCell b base cA σ' (k + 1)) := by
    unfold eW
    rw [List.getElem?_map, List.getElem?_range (by rw [n1]; exact hk)]; rfl
  have e2 : (eW b base cA σ)[k]? = some (base + k, eCell b base cA σ (k + 1)) := by
    unfold eW
    rw [List.getElem?_map, List.getElem?_range hk]; rfl
  have h2 := r1 k _ e2
  rw [e1] at hq
  cases hq
  obtain ⟨m1, m2, m3⟩ := n6 (k + 1) (by omega) (by omega)
  unfold eCell at h2 ⊢
  rw [m1]
  cases hK : sK σ (k + 1) with
  | inl c =>
    rw [hK] at h2
    dsimp only at h2 ⊢
    have e3 : (List.range (eNF c)).map (fun i => eFl b base σ' (k + 1) c i) = (List.range (eNF c)).map (fun i => eFl b base σ (k + 1) c i) := by
      apply List.map_congr_left
      intro i hi
      obtain ⟨g1, g2⟩ := m2 c hK i (List.mem_range.mp hi)
      unfold eFl
      rw [g1, g2]
    rw [e3]
    exact h2
  | inr tn =>
    obtain ⟨ty, n⟩ := tn
    rw [hK] at h2
    dsimp only at h2 ⊢
    have m4 := m3 ty n hK
    unfold va_at at h2 ⊢
    dsimp only at h2 ⊢
    rw [h2]
    congr 1
    cases ty with
    | long => exact arrV_eq (f := fun j => .long (sL σ (k + 1) j)) (g := fun j => .long (sL σ' (k + 1) j)) (fun j hj => by rw [(m4 j hj).2.1])
    | object C => exact arrV_eq (f := fun j => va_rf (if sR σ (k + 1) j = 0 then none else some (eAd b base (sR σ (k + 1) j)))) (g := fun j => va_rf (if sR σ' (k + 1) j = 0 then none else some (eAd b base (sR σ' (k + 1) j)))) (fun j hj => by rw [(m4 j hj).2.2])
    | _ => exact arrV_eq (f := fun j => .int (sI σ (k + 1) j)) (g := fun j => .int (sI σ' (k + 1) j)) (fun j hj => by rw [(m4 j hj).1])
theorem eMP_ag {μ pc : Nat} {ls : eLs} {st : List Value} {σ σ' : eS} {o : eO} {σo : eS} (hA : eAg σ σ') (h : eMP μ pc ls st σ' o σo) : eMP μ pc ls st σ o σo := by
  have n1 := hA.1
  have n2 := hA.2.1
  have n3 := hA.2.2.1
  refine ⟨by rw [← n1, ← n2, ← n3]; exact h.1, ?_⟩
  intro l b base L xs cA D p e R s m args below meth c mc ms hl hf hS hr hmc hms H locs cells slots la hR hS2 hla hsz hc hz
  exact h.2 l b base L xs cA D p e R s m args below meth c mc ms hl hf hS hr hmc hms H locs cells slots la (eRep_ag hA hR) hS2 hla (by rw [n1, n2]; exact hsz) (by rw [n1, n2]; exact hc) (by rw [n3]; exact hz)
end
section
/-! The machine's predicate is closed under rows of instructions; so 'Run' says what the machine does. -/
theorem chk1_d {μ pc len : Nat} {op : Instr} (hne : ∀ e, ¬ op = .checkcast e) (h : chk1 μ pc op len = true) : ∃ raw, decode (eB μ) pc = .ok (raw, len) ∧ rel μ pc op raw len = true := by
  unfold chk1 at h
  split at h
  · exact absurd rfl (hne _)
  · split at h
    · rename_i raw n hd
      simp only [Bool.and_eq_true, beq_iff_eq] at h
      exact ⟨raw, by rw [← h.2]; exact hd, h.1⟩
    · cases h
set_option maxHeartbeats 4000000 in
theorem snd1 {μ pc len : Nat} {op : Instr} {ls : eLs} {st : List Value} {σ : eS} {o : eO} {σo : eS} {k : eLs → List Value → eS → Prop} (hdp : 1 ≤ eDp μ) (hc : chk1 μ pc op len = true)
    (h : wp1 (eDen eMP) (eRt μ) (fun v σ1 => o = .inl v ∧ σo = σ1) (eTh eMP μ o σo) (fun pc ls st σ1 => eMP μ pc ls st σ1 o σo) op pc ls st σ k) (hk : ∀ ls st σ, k ls st σ → eMP μ (pc + len) ls st σ o σo) : eMP μ pc ls st σ o σo := by
  by_cases hcc : ∃ e, op = .checkcast e
  · obtain ⟨e, rfl⟩ := hcc
    simp only [wp1] at h
    obtain ⟨h8, h⟩ := h
    have hc2 := hc
    simp only [chk1, Bool.and_eq_true, Bool.not_eq_true', beq_eq_false_iff_ne, ne_eq] at hc2
    rcases h with ⟨-, -, rfl, rfl⟩ | ⟨h3, -⟩
    · exact m_throw hc h8
    · exact absurd h3 hc2.1.1.1.2
  obtain ⟨raw, hd, hr⟩ := chk1_d (fun e he => hcc ⟨e, he⟩) hc
  cases op <;> simp only [wp1] at h <;> try exact h.elim
  case aload i =>
    simp only [rel, il, iok, Bool.and_eq_true, decide_eq_true_eq, beq_iff_eq, Bool.and_true] at hr
    obtain ⟨rfl, rfl⟩ := hr
    split at h
    · rename_i a heq; exact m_aload hd heq (hk _ _ _ h)
    · exact h.elim
  case aload_n i =>
    simp only [rel, il, iok, Bool.and_eq_true, decide_eq_true_eq, beq_iff_eq, Bool.and_true] at hr
    obtain ⟨rfl, rfl⟩ := hr
    split at h
    · rename_i a heq; exact m_aload_n hd heq (hk _ _ _ h)
    · exact h.elim
  case iload i =>
    simp only [rel, il, iok, Bool.and_eq_true, decide_eq_true_eq, beq_iff_eq, Bool.and_true] at hr
    obtain ⟨rfl, rfl⟩ := hr
    split at h
    · rename_i a heq; exact m_iload hd heq (hk _ _ _ h)
    · exact h.elim
  case iload_n i =>
    simp only [rel, il, iok, Bool.and_eq_true, decide_eq_true_eq, beq_iff_eq, Bool.and_true] at hr
    obtain ⟨rfl, rfl⟩ := hr
    split at h
    · rename_i a heq; exact m_iload_n hd heq (hk _ _ _ h)
    · exact h.elim
  case lload i =>
    simp only [rel, il, iok, Bool.and_eq_true, decide_eq_true_eq, beq_iff_eq, Bool.and_true] at hr
    obtain ⟨rfl, rfl⟩ := hr
    split at h
    · rename_i a heq; exact m_lload hd heq (hk _ _ _ h)
    · exact h.elim
  case lload_n i =>
    simp only [rel, il, iok, Bool.and_eq_true, decide_eq_true_eq, beq_iff_eq, Bool.and_true] at hr
    obtain ⟨rfl, rfl⟩ := hr
    split at h
    · rename_i a heq; exact m_lload_n hd heq (hk _ _ _ h)
    · exact h.elim
  case istore i =>
    simp only [rel, il, iok, Bool.and_eq_true, decide_eq_true_eq, beq_iff_eq, Bool.and_true] at hr
    obtain ⟨⟨rfl, rfl⟩, hi⟩ := hr
    split at h
    · exact m_istore hd hi (hk _ _ _ h)
    · exact h.elim
  case istore_n i =>
    simp only [rel, il, iok, Bool.and_eq_true, decide_eq_true_eq, beq_iff_eq, Bool.and_true] at hr
    obtain ⟨⟨rfl, rfl⟩, hi⟩ := hr
    split at h
    · exact m_istore_n hd hi (hk _ _ _ h)
    · exact h.elim
  case astore i =>
    simp only [rel, il, iok, Bool.and_eq_true, decide_eq_true_eq, beq_iff_eq, Bool.and_true] at hr
    obtain ⟨⟨rfl, rfl⟩, hi⟩ := hr
    split at h
    · exact m_astore hd hi (hk _ _ _ h)
    · exact h.elim
  case astore_n i =>
    simp only [rel, il, iok, Bool.and_eq_true, decide_eq_true_eq, beq_iff_eq, Bool.and_true] at hr
    obtain ⟨⟨rfl, rfl⟩, hi⟩ := hr
    split at h
    · exact m_astore_n hd hi (hk _ _ _ h)
    · exact h.elim
  case lstore i =>
    simp only [rel, il, iok, Bool.and_eq_true, decide_eq_true_eq, beq_iff_eq, Bool.and_true] at hr
    obtain ⟨⟨rfl, rfl⟩, hi⟩ := hr
    split at h
    · exact m_lstore hd hi (hk _ _ _ h)
    · exact h.elim
  case lstore_n i =>
    simp only [rel, il, iok, Bool.and_eq_true, decide_eq_true_eq, beq_iff_eq, Bool.and_true] at hr
    obtain ⟨⟨rfl, rfl⟩, hi⟩ := hr
    split at h
    · exact m_lstore_n hd hi (hk _ _ _ h)
    · exact h.elim
  case iinc i n =>
    simp only [rel, il, iok, Bool.and_eq_true, decide_eq_true_eq, beq_iff_eq, Bool.and_true] at hr
    obtain ⟨⟨rfl, rfl⟩, hi⟩ := hr
    split at h
    · rename_i a heq; exact m_iinc hd hi heq (hk _ _ _ h)
    · exact h.elim
  case lconst v =>
    simp only [rel, il, iok, Bool.and_eq_true, decide_eq_true_eq, beq_iff_eq, Bool.and_true] at hr
    obtain ⟨rfl, rfl⟩ := hr
    exact m_lconst hd (hk _ _ _ h)
  case iadd  =>
    simp only [rel, il, iok, Bool.and_eq_true, decide_eq_true_eq, beq_iff_eq, Bool.and_true] at hr
    obtain ⟨rfl, rfl⟩ := hr
    split at h
    · exact m_iadd hd (hk _ _ _ h)
    · exact h.elim
  case isub  =>
    simp only [rel, il, iok, Bool.and_eq_true, decide_eq_true_eq, beq_iff_eq, Bool.and_true] at hr
    obtain ⟨rfl, rfl⟩ := hr
    split at h
    · exact m_isub hd (hk _ _ _ h)
    · exact h.elim
  case imul  =>
    simp only [rel, il, iok, Bool.and_eq_true, decide_eq_true_eq, beq_iff_eq, Bool.and_true] at hr
    obtain ⟨rfl, rfl⟩ := hr
    split at h
    · exact m_imul hd (hk _ _ _ h)
    · exact h.elim
  case iand  =>
    simp only [rel, il, iok, Bool.and_eq_true, decide_eq_true_eq, beq_iff_eq, Bool.and_true] at hr
    obtain ⟨rfl, rfl⟩ := hr
    split at h
    · exact m_iand hd (hk _ _ _ h)
    · exact h.elim
  case ishr  =>
    simp only [rel, il, iok, Bool.and_eq_true, decide_eq_true_eq, beq_iff_eq, Bool.and_true] at hr
    obtain ⟨rfl, rfl⟩ := hr
    split at h
    · exact m_ishr hd (hk _ _ _ h)
    · exact h.elim
  case iushr  =>
    simp only [rel, il, iok, Bool.and_eq_true, decide_eq_true_eq, beq_iff_eq, Bool.and_true] at hr
    obtain ⟨rfl, rfl⟩ := hr
    split at h
    · exact m_iushr hd (hk _ _ _ h)
    · exact h.elim
  case ladd  =>
    simp only [rel, il, iok, Bool.and_eq_true, decide_eq_true_eq, beq_iff_eq, Bool.and_true] at hr
    obtain ⟨rfl, rfl⟩ := hr
    split at h
    · exact m_ladd hd (hk _ _ _ h)
    · exact h.elim
  case lsub  =>
    simp only [rel, il, iok, Bool.and_eq_true, decide_eq_true_eq, beq_iff_eq, Bool.and_true] at hr
    obtain ⟨rfl, rfl⟩ := hr
    split at h
    · exact m_lsub hd (hk _ _ _ h)
    · exact h.elim
  case lmul  =>
    simp only [rel, il, iok, Bool.and_eq_true, decide_eq_true_eq, beq_iff_eq, Bool.and_true] at hr
    obtain ⟨rfl, rfl⟩ := hr
    split at h
    · exact m_lmul hd (hk _ _ _ h)
    · exact h.elim
  case land  =>
    simp only [rel, il, iok, Bool.and_eq_true, decide_eq_true_eq, beq_iff_eq, Bool.and_true] at hr
    obtain ⟨rfl, rfl⟩ := hr
    split at h
    · exact m_land hd (hk _ _ _ h)
    · exact h.elim
  case lor  =>
    simp only [rel, il, iok, Bool.and_eq_true, decide_eq_true_eq, beq_iff_eq, Bool.and_true] at hr
    obtain ⟨rfl, rfl⟩ := hr
    split at h
    · exact m_lor hd (hk _ _ _ h)
    · exact h.elim
  case lshl  =>
    simp only [rel, il, iok, Bool.and_eq_true, decide_eq_true_eq, beq_iff_eq, Bool.and_true] at hr
    obtain ⟨rfl, rfl⟩ := hr
    split at h
    · exact m_lshl hd (hk _ _ _ h)
    · exact h.elim
  case i2l  =>
    simp only [rel, il, iok, Bool.and_eq_true, decide_eq_true_eq, beq_iff_eq, Bool.and_true] at hr
    obtain ⟨rfl, rfl⟩ := hr
    split at h
    · exact m_i2l hd (hk _ _ _ h)
    · exact h.elim
  case lcmp  =>
    simp only [rel, il, iok, Bool.and_eq_true, decide_eq_true_eq, beq_iff_eq, Bool.and_true] at hr
    obtain ⟨rfl, rfl⟩ := hr
    split at h
    · exact m_lcmp hd (hk _ _ _ h)
    · exact h.elim
  case pop2  =>
    simp only [rel, il, iok, Bool.and_eq_true, decide_eq_true_eq, beq_iff_eq, Bool.and_true] at hr
    obtain ⟨rfl, rfl⟩ := hr
    split at h
    · exact m_pop2 hd (hk _ _ _ h)
    · exact h.elim
  case idiv  =>
    simp only [rel, il, iok, Bool.and_eq_true, decide_eq_true_eq, beq_iff_eq, Bool.and_true] at hr
    obtain ⟨rfl, rfl⟩ := hr
    split at h
    · exact m_idiv hd h.1 (hk _ _ _ h.2)
    · exact h.elim
  case irem  =>
    simp only [rel, il, iok, Bool.and_eq_true, decide_eq_true_eq, beq_iff_eq, Bool.and_true] at hr
    obtain ⟨rfl, rfl⟩ := hr
    split at h
    · exact m_irem hd h.1 (hk _ _ _ h.2)
    · exact h.elim
  case ldiv  =>
    simp only [rel, il, iok, Bool.and_eq_true, decide_eq_true_eq, beq_iff_eq, Bool.and_true] at hr
    obtain ⟨rfl, rfl⟩ := hr
    split at h
    · exact m_ldiv hd h.1 (hk _ _ _ h.2)
    · exact h.elim
  case dup  =>
    simp only [rel, il, iok, Bool.and_eq_true, decide_eq_true_eq, beq_iff_eq, Bool.and_true] at hr
    obtain ⟨rfl, rfl⟩ := hr
    split at h
    · exact m_dup hd h.1 (hk _ _ _ h.2)
    · exact h.elim
  case dup2  =>
    simp only [rel, il, iok, Bool.and_eq_true, decide_eq_true_eq, beq_iff_eq, Bool.and_true] at hr
    obtain ⟨rfl, rfl⟩ := hr
    split at h
    · exact m_dup2 hd h.1 h.2.1 (hk _ _ _ h.2.2)
    · exact h.elim
  case goto off =>
    simp only [rel, Bool.and_eq_true, decide_eq_true_eq, beq_iff_eq] at hr
    obtain ⟨⟨rfl, rfl⟩, hj⟩ := hr
    exact m_goto hd hj h
  case ifCond c off =>
    simp only [rel, Bool.and_eq_true, decide_eq_true_eq, beq_iff_eq] at hr
    obtain ⟨⟨rfl, rfl⟩, hj⟩ := hr
    split at h
    · cases c
      · exact m_if_eq hd hj h.1 (fun z => hk _ _ _ (h.2 z))
      · exact m_if_ne hd hj h.1 (fun z => hk _ _ _ (h.2 z))
      · exact m_if_lt hd hj h.1 (fun z => hk _ _ _ (h.2 z))
      · exact m_if_ge hd hj h.1 (fun z => hk _ _ _ (h.2 z))
      · exact m_if_gt hd hj h.1 (fun z => hk _ _ _ (h.2 z))
      · exact m_if_le hd hj h.1 (fun z => hk _ _ _ (h.2 z))
    · exact h.elim
  case if_icmp c off =>
    simp only [rel, Bool.and_eq_true, decide_eq_true_eq, beq_iff_eq] at hr
    obtain ⟨⟨rfl, rfl⟩, hj⟩ := hr
    split at h
    · cases c
      · exact m_icmp_eq hd hj h.1 (fun z => hk _ _ _ (h.2 z))
      · exact m_icmp_ne hd hj h.1 (fun z => hk _ _ _ (h.2 z))
      · exact m_icmp_lt hd hj h.1 (fun z => hk _ _ _ (h.2 z))
      · exact m_icmp_ge hd hj h.1 (fun z => hk _ _ _ (h.2 z))
      · exact m_icmp_gt hd hj h.1 (fun z => hk _ _ _ (h.2 z))
      · exact m_icmp_le hd hj h.1 (fun z => hk _ _ _ (h.2 z))
    · exact h.elim
  case tableswitch d lo hi offs =>
    simp only [rel, decide_eq_true_eq] at hr
    subst hr
    split at h
    · obtain ⟨off, h1, h2, h3⟩ := h; exact m_tableswitch hd h1 h2 h3
    · exact h.elim
  case lookupswitch d ps =>
    simp only [rel, Bool.and_eq_true, decide_eq_true_eq] at hr
    obtain ⟨rfl, hp⟩ := hr
    split at h
    · exact m_lookupswitch hd (by simpa using hp) h.1 h.2
    · exact h.elim
  case iconst v =>
    simp only [rel] at hr
    split at hr
    · simp only [Bool.and_eq_true, beq_iff_eq] at hr; obtain ⟨rfl, rfl⟩ := hr; exact m_iconst hd (hk _ _ _ h)
    · simp only [Bool.and_eq_true, beq_iff_eq, decide_eq_true_eq] at hr; obtain ⟨hv, rfl⟩ := hr; exact m_bipush hd hv (hk _ _ _ h)
    · simp only [Bool.and_eq_true, beq_iff_eq, decide_eq_true_eq] at hr; obtain ⟨hv, rfl⟩ := hr; exact m_sipush hd hv (hk _ _ _ h)
    · simp only [Bool.and_eq_true, beq_iff_eq] at hr; obtain ⟨hv, rfl⟩ := hr; exact m_ldc hd (lkC_spec hv) (hk _ _ _ h)
    · simp only [Bool.and_eq_true, beq_iff_eq] at hr; obtain ⟨hv, rfl⟩ := hr; exact m_ldc_w hd (lkC_spec hv) (hk _ _ _ h)
    · cases hr
  case ldc2_w v =>
    simp only [rel, Bool.and_eq_true, beq_iff_eq] at hr
    obtain ⟨rfl, hr⟩ := hr
    split at hr
    · exact m_ldc2_w hd (lkL_spec hr) (hk _ _ _ h)
    · cases hr
  case getfield f =>
    simp only [rel, Bool.and_eq_true, beq_iff_eq] at hr
    obtain ⟨rfl, hr⟩ := hr
    split at hr
    · split at h
      · obtain ⟨ho, h⟩ := h
        cases hrf : eRf (f / 64) (f % 64) with
        | true => rw [hrf] at h; exact m_getR hd hr ho hrf h.1 (hk _ _ _ h.2)
        | false => rw [hrf] at h; exact m_getI hd hr ho hrf (hk _ _ _ h)
      · exact h.elim
    · cases hr
  case putfield f =>
    simp only [rel, Bool.and_eq_true, beq_iff_eq] at hr
    obtain ⟨rfl, hr⟩ := hr
    split at hr
    · split at h
      · obtain ⟨ho, h⟩ := h
        cases hrf : eRf (f / 64) (f % 64) with
        | true =>
          rw [hrf] at h
          dsimp only at h
          split at h
          · exact m_putR hd hr ho hrf h.1 (hk _ _ _ h.2)
          · exact h.elim
        | false =>
          rw [hrf] at h
          dsimp only at h
          split at h
          · exact m_putI hd hr ho hrf h.1 (hk _ _ _ h.2)
          · exact h.elim
      · exact h.elim
    · cases hr
  case iaload  =>
    simp only [rel, il, iok, Bool.and_eq_true, decide_eq_true_eq, beq_iff_eq, Bool.and_true] at hr
    obtain ⟨rfl, rfl⟩ := hr
    split at h
    · obtain ⟨n, h1, h2, h3⟩ := h; exact m_iaload hd h1 h2 (hk _ _ _ h3)
    · exact h.elim
  case baload  =>
    simp only [rel, il, iok, Bool.and_eq_true, decide_eq_true_eq, beq_iff_eq, Bool.and_true] at hr
    obtain ⟨rfl, rfl⟩ := hr
    split at h
    · obtain ⟨ty, n, h1, h2, h3, h4, h5⟩ := h; exact m_baload hd h1 h2 h3 h4 (hk _ _ _ h5)
    · exact h.elim
  case laload  =>
    simp only [rel, il, iok, Bool.and_eq_true, decide_eq_true_eq, beq_iff_eq, Bool.and_true] at hr
    obtain ⟨rfl, rfl⟩ := hr
    split at h
    · obtain ⟨n, h1, h2, h3, h4⟩ := h; exact m_laload hd h1 h2 h3 (hk _ _ _ h4)
    · exact h.elim
  case aaload  =>
    simp only [rel, il, iok, Bool.and_eq_true, decide_eq_true_eq, beq_iff_eq, Bool.and_true] at hr
    obtain ⟨rfl, rfl⟩ := hr
    split at h
    · obtain ⟨C, n, h1, h2, h3, h4, h5⟩ := h; exact m_aaload hd h1 h2 h3 h4 (hk _ _ _ h5)
    · exact h.elim
  case iastore  =>
    simp only [rel, il, iok, Bool.and_eq_true, decide_eq_true_eq, beq_iff_eq, Bool.and_true] at hr
    obtain ⟨rfl, rfl⟩ := hr
    split at h
    · obtain ⟨n, h1, h2, h3, h4⟩ := h; exact m_iastore hd h1 h2 h3 (hk _ _ _ h4)
    · exact h.elim
  case bastore  =>
    simp only [rel, il, iok, Bool.and_eq_true, decide_eq_true_eq, beq_iff_eq, Bool.and_true] at hr
    obtain ⟨rfl, rfl⟩ := hr
    split at h
    · obtain ⟨ty, n, h1, h2, h3, h4, h5⟩ := h; exact m_bastore hd h1 h2 h3 h4 (hk _ _ _ h5)
    · exact h.elim
  case lastore  =>
    simp only [rel, il, iok, Bool.and_eq_true, decide_eq_true_eq, beq_iff_eq, Bool.and_true] at hr
    obtain ⟨rfl, rfl⟩ := hr
    split at h
    · obtain ⟨n, h1, h2, h3, h4⟩ := h; exact m_lastore hd h1 h2 h3 (hk _ _ _ h4)
    · exact h.elim
  case aastore  =>
    simp only [rel, il, iok, Bool.and_eq_true, decide_eq_true_eq, beq_iff_eq, Bool.and_true] at hr
    obtain ⟨rfl, rfl⟩ := hr
    split at h
    · obtain ⟨ci, n, h0, h1, h2, h3, h4, h5⟩ := h; exact m_aastore hd h0 h1 h2 h3 h4 (hk _ _ _ h5)
    · exact h.elim
  case arraylength  =>
    simp only [rel, il, iok, Bool.and_eq_true, decide_eq_true_eq, beq_iff_eq, Bool.and_true] at hr
    obtain ⟨rfl, rfl⟩ := hr
    split at h
    · obtain ⟨ty, n, h1, h2⟩ := h; exact m_arraylength hd h1 (hk _ _ _ h2)
    · exact h.elim
  case new c =>
    simp only [rel, Bool.and_eq_true, beq_iff_eq] at hr
    obtain ⟨rfl, hr⟩ := hr
    split at hr
    · exact m_new hd hr h.1 (hk _ _ _ h.2)
    · cases hr
  case newarray t =>
    simp only [rel, Bool.and_eq_true, beq_iff_eq, decide_eq_true_eq] at hr
    obtain ⟨⟨rfl, rfl⟩, ht⟩ := hr
    split at h
    · obtain ⟨h0, h1, h2, h3⟩ := h
      exact m_newarray (by cases t <;> first | (simp; done) | cases ht) hd h0 h1 h2 (hk _ _ _ h3)
    · exact h.elim
  case anewarray c =>
    simp only [rel, Bool.and_eq_true, beq_iff_eq] at hr
    obtain ⟨rfl, hr⟩ := hr
    split at hr
    · simp only [Bool.and_eq_true, Bool.or_eq_true, beq_iff_eq] at hr
      split at h
      · obtain ⟨h0, h1, h2, h3⟩ := h
        exact m_anewarray (by omega) hd hr.1 h0 h1 h2 (hk _ _ _ h3)
      · exact h.elim
    · cases hr
  case dadd  =>
    simp only [rel, Bool.and_eq_true, beq_iff_eq] at hr
    obtain ⟨rfl, hr⟩ := hr
    split at hr
    · split at h
      · exact m_dadd hd (lkX_spec hr) eMath_max_st eMath_in eMath_max_co hdp h.1 (hk _ _ _ h.2)
      · exact h.elim
    · cases hr
  case dsub  =>
    simp only [rel, Bool.and_eq_true, beq_iff_eq] at hr
    obtain ⟨rfl, hr⟩ := hr
    split at hr
    · split at h
      · exact m_dsub hd (lkX_spec hr) eMath_min_st eMath_in eMath_min_co hdp h.1 (hk _ _ _ h.2)
      · exact h.elim
    · cases hr
  case monitorenter  =>
    simp only [rel, Bool.and_eq_true, beq_iff_eq] at hr
    obtain ⟨rfl, hr⟩ := hr
    split at hr
    · split at h
      · exact m_objInit hd (lkO_spec hr) eObj_in eObj_co hdp h.1 (hk _ _ _ h.2)
      · exact h.elim
    · cases hr
  case monitorexit  =>
    simp only [rel, Bool.and_eq_true, beq_iff_eq] at hr
    obtain ⟨rfl, hr⟩ := hr
    split at hr
    · split at h
      · obtain ⟨h1, h2, h3, h4, h5, h6, h7⟩ := h
        rcases h7 with ⟨n0, n1, a1, a2, a3, a4, a5⟩ | ⟨n0, n1, a1, a2, a3, a4, a5⟩
        · exact m_copyI hd (lkP_spec hr) eSys_nat eSys_st eSys_in hdp h1 h2 h3 h4 h5 h6 a1 a2 a3 a4 (hk _ _ _ a5)
        · exact m_copyL hd (lkP_spec hr) eSys_nat eSys_st eSys_in hdp h1 h2 h3 h4 h5 h6 a1 a2 a3 a4 (hk _ _ _ a5)
      · exact h.elim
    · cases hr
  case invokeinterface q n =>
    simp only [rel, Bool.and_eq_true, beq_iff_eq, decide_eq_true_eq] at hr
    obtain ⟨⟨⟨rfl, hq⟩, hdq⟩, hr⟩ := hr
    have hraw : eRaw μ pc q n := by
      split at hr
      · rename_i i; simp only [Bool.and_eq_true, beq_iff_eq] at hr; exact ⟨i, hr.1.1, Or.inl ⟨hd, hr.1.2, hr.2⟩⟩
      · rename_i i; simp only [Bool.and_eq_true, beq_iff_eq, Bool.or_eq_true] at hr; exact ⟨i, hr.1.1, Or.inr (Or.inl ⟨hd, hr.1.2, hr.2⟩)⟩
      · rename_i i; simp only [Bool.and_eq_true, beq_iff_eq] at hr; exact ⟨i, hr.1.1, Or.inr (Or.inr ⟨hd, hr.1.2, hr.2⟩)⟩
      · cases hr
    obtain ⟨h1, h0, h2, h3, h4⟩ := h
    rcases h4 with ⟨v, σ1, a1, a2⟩ | ⟨e, σ1, a0, a1, a2⟩
    · exact m_callR hq hdq hraw h1 h0 h2 h3 a1 (hk _ _ _ a2)
    · exact m_callX hq a0 hdq hraw h1 h0 h2 h3 a1 a2
  case checkcast e =>
    exact absurd ⟨e, rfl⟩ hcc
  case ireturn  =>
    simp only [rel, il, iok, Bool.and_eq_true, decide_eq_true_eq, beq_iff_eq, Bool.and_true] at hr
    obtain ⟨rfl, rfl⟩ := hr
    split at h
    · unfold retI at h
      split at h
      · rename_i ty hty; obtain ⟨hn, rfl, rfl⟩ := h; exact m_ireturn hd hty hn
      · exact h.elim
    · exact h.elim
  case lreturn  =>
    simp only [rel, il, iok, Bool.and_eq_true, decide_eq_true_eq, beq_iff_eq, Bool.and_true] at hr
    obtain ⟨rfl, rfl⟩ := hr
    split at h
    · obtain ⟨hn, rfl, rfl⟩ := h; exact m_lreturn hd hn
    · exact h.elim
  case return_  =>
    simp only [rel, il, iok, Bool.and_eq_true, decide_eq_true_eq, beq_iff_eq, Bool.and_true] at hr
    obtain ⟨rfl, rfl⟩ := hr
    split at h
    · obtain ⟨hn, rfl, rfl⟩ := h; exact m_return hd hn
    · exact h.elim
theorem eDp_ok : ((List.range 175).all fun q => decide (1 ≤ eDp q)) = true := by decide +kernel
theorem eMP_sub {μ pc : Nat} {ls ls' : eLs} {st : List Value} {σ : eS} {o : eO} {σo : eS} (hs : ∀ q ∈ ls', q ∈ ls) (h : eMP μ pc ls' st σ o σo) : eMP μ pc ls st σ o σo :=
  ⟨h.1, fun l b base L xs cA D p e R s m args below meth c mc ms hl hf hS hr hmc hms H locs cells slots la hR hS2 hla hsz hc hz => h.2 l b base L xs cA D p e R s m args below meth c mc ms hl hf hS hr hmc hms H locs cells slots la hR hS2 ⟨hla.1, hla.2.1, fun q hq => by
    obtain ⟨q0, hq0, rfl⟩ := List.mem_map.mp hq
    exact hla.2.2 _ (List.mem_map.mpr ⟨q0, hs q0 hq0, rfl⟩)⟩ hsz hc hz⟩
theorem sndB {μ : Nat} (hdp : 1 ≤ eDp μ) (ops : List (Instr × Nat)) : ∀ {pc : Nat} {ls : eLs} {st : List Value} {σ : eS} {o : eO} {σo : eS}, chk μ pc ops = true →
    wp (eDen eMP) (eRt μ) (fun v σ1 => o = .inl v ∧ σo = σ1) (eTh eMP μ o σo) (fun pc ls st σ1 => eMP μ pc ls st σ1 o σo) ops pc ls st σ → eMP μ pc ls st σ o σo := by
  induction ops with
  | nil => intro pc ls st σ o σo _ h; exact h
  | cons a r ih =>
    obtain ⟨op, len⟩ := a
    intro pc ls st σ o σo hc h
    simp only [chk, Bool.and_eq_true] at hc
    exact snd1 hdp hc.1 h (fun ls st σ h9 => ih hc.2 h9)
theorem eDp_pos (μ : Nat) : 1 ≤ eDp μ := by
  by_cases h : μ < 175
  · exact of_decide_eq_true (List.all_eq_true.mp eDp_ok μ (List.mem_range.mpr h))
  · have e1 : eMs[μ]? = none := List.getElem?_eq_none (by rw [show eMs.length = 175 by decide +kernel]; omega)
    unfold eDp eM
    rw [e1]
    exact Nat.le_refl 1
theorem eClosed_mp : eClosed eMP :=
  ⟨fun μ pc ops ls st σ o σo hc h => sndB (eDp_pos μ) ops hc h, fun μ pc ls ls' st σ o σo hs h => eMP_sub hs h, fun μ pc ls st σ σ' o σo hA h => eMP_ag hA h⟩
theorem Run.sound {μ pc : Nat} {ls : eLs} {st : List Value} {σ : eS} {o : eO} {σo : eS} (h : Run μ pc ls st σ o σo) : eMP μ pc ls st σ o σo := h eMP eClosed_mp
end
section
/-! The canonical store: which cell is what, once the law has made its two objects and the row of one long. -/
def kTab0 : List (Nat ⊕ (FieldType × Nat)) := [.inl 8, .inl 0, .inl 1, .inr (.int, 8), .inr (.int, 8), .inr (.long, 8), .inl 5, .inr (.int, 64), .inr (.int, 64), .inl 2, .inr (.int, 2500), .inr (.int, 2500), .inr (.int, 2500), .inr (.int, 2500), .inr (.long, 2500), .inr (.int, 2500), .inr (.object "EventVault$Stream", 40), .inl 7, .inl 7, .inl 7, .inl 7, .inl 7, .inl 7, .inl 7, .inl 7, .inl 7, .inl 7, .inl 7, .inl 7, .inl 7, .inl 7, .inl 7, .inl 7, .inl 7, .inl 7, .inl 7, .inl 7, .inl 7, .inl 7, .inl 7, .inl 7, .inl 7, .inl 7, .inl 7, .inl 7, .inl 7, .inl 7, .inl 7]
def kTab1 : List (Nat ⊕ (FieldType × Nat)) := [.inl 7, .inl 7, .inl 7, .inl 7, .inl 7, .inl 7, .inl 7, .inl 7, .inl 7, .inl 4, .inr (.long, 16), .inr (.long, 4), .inr (.int, 4), .inr (.long, 4), .inr (.object "EventVault$Group", 8), .inr (.object "EventVault$Projection", 8), .inl 3, .inr (.int, 2500), .inr (.int, 2500), .inr (.int, 16), .inr (.int, 16), .inl 3, .inr (.int, 2500), .inr (.int, 2500), .inr (.int, 16), .inr (.int, 16), .inl 3, .inr (.int, 2500), .inr (.int, 2500), .inr (.int, 16), .inr (.int, 16), .inl 3, .inr (.int, 2500), .inr (.int, 2500), .inr (.int, 16), .inr (.int, 16), .inl 3, .inr (.int, 2500), .inr (.int, 2500), .inr (.int, 16), .inr (.int, 16), .inl 3, .inr (.int, 2500), .inr (.int, 2500), .inr (.int, 16), .inr (.int, 16), .inl 3, .inr (.int, 2500)]
def kTab2 : List (Nat ⊕ (FieldType × Nat)) := [.inr (.int, 2500), .inr (.int, 16), .inr (.int, 16), .inl 3, .inr (.int, 2500), .inr (.int, 2500), .inr (.int, 16), .inr (.int, 16), .inl 6, .inl 5, .inr (.int, 64), .inr (.int, 64), .inr (.long, 128), .inl 6, .inl 5, .inr (.int, 64), .inr (.int, 64), .inr (.long, 128), .inl 6, .inl 5, .inr (.int, 64), .inr (.int, 64), .inr (.long, 128), .inl 6, .inl 5, .inr (.int, 64), .inr (.int, 64), .inr (.long, 128), .inl 6, .inl 5, .inr (.int, 64), .inr (.int, 64), .inr (.long, 128), .inl 6, .inl 5, .inr (.int, 64), .inr (.int, 64), .inr (.long, 128), .inl 6, .inl 5, .inr (.int, 64), .inr (.int, 64), .inr (.long, 128), .inl 6, .inl 5, .inr (.int, 64), .inr (.int, 64), .inr (.long, 128)]
def kTab3 : List (Nat ⊕ (FieldType × Nat)) := [.inl 9, .inr (.int, 2500), .inr (.int, 2500), .inr (.int, 2500), .inr (.int, 2500), .inr (.long, 2500), .inr (.int, 2500), .inr (.boolean, 2500), .inr (.int, 40), .inr (.int, 40), .inr (.int, 40), .inr (.int, 40), .inr (.boolean, 40), .inr (.int, 8), .inr (.int, 8), .inr (.long, 8), .inr (.boolean, 8), .inr (.int, 8), .inr (.int, 8), .inr (.int, 8), .inr (.byte, 20000), .inr (.int, 20000), .inr (.int, 20000), .inr (.int, 64), .inr (.int, 64), .inr (.boolean, 8), .inr (.int, 8), .inr (.int, 512), .inr (.int, 512), .inr (.int, 8), .inr (.int, 8), .inr (.boolean, 8), .inr (.int, 8), .inr (.boolean, 8), .inr (.long, 1024), .inr (.long, 16), .inr (.long, 4), .inr (.int, 4), .inr (.long, 4), .inr (.long, 1)]
def kTab : List (Nat ⊕ (FieldType × Nat)) := kTab0 ++ (kTab1 ++ (kTab2 ++ (kTab3)))
def K0 (L : Nat) (a : Nat) : Nat ⊕ (FieldType × Nat) := match a with | 0 => .inr (.int, L) | j + 1 => (kTab[j]?).getD (.inr (.int, 0))
def rTab : List (List Nat) := [[], [2, 3, 7, 10, 58, 63, 64], [], [4, 5, 6], [], [], [], [8, 9], [], [], [11, 12, 13, 14, 15, 16, 17], [], [], [], [], [], [], [], [], [], [], [], [], [], [], [], [], [], [], [], [], [], [], [], [], [], [], [], [], [], [], [], [], [], [], [], [], [], [], [], [], [], [], [], [], [], [], [], [59, 60, 61, 62], [], [], [], [], [], [], [66, 67, 68, 69], [], [], [], [], [71, 72, 73, 74], [], [], [], [], [76, 77, 78, 79], [], [], [], [], [81, 82, 83, 84], [], [], [], [], [86, 87, 88, 89], [], [], [], [], [91, 92, 93, 94], [], [], [], [], [96, 97, 98, 99], [], [], [], [], [101, 102, 103, 104], [], [], [], [], [106, 109], [107, 108], [], [], [], [111, 114], [112, 113], [], [], [], [116, 119], [117, 118], [], [], [], [121, 124], [122, 123], [], [], [], [126, 129], [127, 128], [], [], [], [131, 134], [132, 133], [], [], [], [136, 139], [137, 138], [], [], [], [141, 144], [142, 143], [], [], [], [0, 0, 0, 0, 0, 0, 146, 147, 148, 149, 150, 151, 152, 0, 153, 154, 155, 156, 157, 158, 159, 160, 0, 161, 162, 163, 164, 165, 166, 167, 168, 169, 0, 170, 171, 172, 173, 174, 175, 176, 177, 178, 179, 0, 180, 0, 181, 182, 183], [], [], [], [], [], [], [], [], [], [], [], [], [], [], [], [], [], [], [], [], [], [], [], [], [], [], [], [], [], [], [], [], [], [], [], [], [], [], []]
def R0 (a i : Nat) : Nat := if a = 17 then (if i < 40 then 18 + i else 0) else if a = 63 then (if i < 8 then 65 + 5 * i else 0) else if a = 64 then (if i < 8 then 105 + 5 * i else 0) else (((rTab[a]?).getD [])[i]?).getD 0
def I0 (xs : Nat → Int32) (a i : Nat) : Int32 := if a = 0 then xs i else if a = 2 then (if i = 0 then 1 else if i = 3 then -1 else 0) else if 18 ≤ a ∧ a < 58 then (if i = 0 then -1 else 0) else if a = 145 then (if i = 1 then 1 else if i = 5 then -1 else 0) else if a = 153 then (if i < 40 then -1 else 0) else 0
/-- the store of the calls: ints, longs, how many were thrown; L: how long the script is -/
abbrev mS (L : Nat) (I : Nat → Nat → Int32) (J : Nat → Nat → Int64) (h z : Nat) : eS := (I, J, R0, K0 L, (185, h, z))
def oK (a c : Nat) : Prop := 0 < a ∧ a < 185 ∧ (∀ L, K0 L a = .inl c)
def aK (a : Nat) (ty : FieldType) (n : Nat) : Prop := 0 < a ∧ a < 185 ∧ (∀ L, K0 L a = .inr (ty, n))
theorem oK_isO {L a c : Nat} {I : Nat → Nat → Int32} {J : Nat → Nat → Int64} {h z : Nat} (k : oK a c) : isO (mS L I J h z) a c := ⟨k.1, k.2.1, k.2.2 L⟩
theorem aK_isA {L a n : Nat} {ty : FieldType} {I : Nat → Nat → Int32} {J : Nat → Nat → Int64} {h z : Nat} (k : aK a ty n) : isA (mS L I J h z) a ty n := ⟨k.2.1, k.2.2 L⟩
theorem oK_of {a c : Nat} (h0 : 0 < a) (h1 : a < 185) (h : kTab[a - 1]? = some (.inl c)) : oK a c := by
  refine ⟨h0, h1, fun L => ?_⟩
  obtain ⟨j, rfl⟩ : ∃ j, a = j + 1 := ⟨a - 1, by omega⟩
  show (kTab[j]?).getD _ = _
  rw [show kTab[j]? = some (.inl c) from h]; rfl
theorem aK_of {a n : Nat} {ty : FieldType} (h0 : 0 < a) (h1 : a < 185) (h : kTab[a - 1]? = some (.inr (ty, n))) : aK a ty n := by
  refine ⟨h0, h1, fun L => ?_⟩
  obtain ⟨j, rfl⟩ : ∃ j, a = j + 1 := ⟨a - 1, by omega⟩
  show (kTab[j]?).getD _ = _
  rw [show kTab[j]? = some (.inr (ty, n)) from h]; rfl
theorem kO_1 : oK 1 8 := oK_of (by decide) (by decide) (by decide +kernel)
theorem rN_1_0 : ¬ R0 1 0 = 0 := by decide +kernel
theorem rN_1_1 : ¬ R0 1 1 = 0 := by decide +kernel
theorem rN_1_2 : ¬ R0 1 2 = 0 := by decide +kernel
theorem rN_1_3 : ¬ R0 1 3 = 0 := by decide +kernel
theorem rN_1_4 : ¬ R0 1 4 = 0 := by decide +kernel
theorem rN_1_5 : ¬ R0 1 5 = 0 := by decide +kernel
theorem rN_1_6 : ¬ R0 1 6 = 0 := by decide +kernel
theorem kO_2 : oK 2 0 := oK_of (by decide) (by decide) (by decide +kernel)
theorem kO_3 : oK 3 1 := oK_of (by decide) (by decide) (by decide +kernel)
theorem rN_3_0 : ¬ R0 3 0 = 0 := by decide +kernel
theorem rN_3_1 : ¬ R0 3 1 = 0 := by decide +kernel
theorem rN_3_2 : ¬ R0 3 2 = 0 := by decide +kernel
theorem kA_4 : aK 4 (.int) 8 := aK_of (by decide) (by decide) (by decide +kernel)
theorem kA_5 : aK 5 (.int) 8 := aK_of (by decide) (by decide) (by decide +kernel)
theorem kA_6 : aK 6 (.long) 8 := aK_of (by decide) (by decide) (by decide +kernel)
theorem kO_7 : oK 7 5 := oK_of (by decide) (by decide) (by decide +kernel)
theorem rN_7_0 : ¬ R0 7 0 = 0 := by decide +kernel
theorem rN_7_1 : ¬ R0 7 1 = 0 := by decide +kernel
theorem kA_8 : aK 8 (.int) 64 := aK_of (by decide) (by decide) (by decide +kernel)
theorem kA_9 : aK 9 (.int) 64 := aK_of (by decide) (by decide) (by decide +kernel)
theorem kO_10 : oK 10 2 := oK_of (by decide) (by decide) (by decide +kernel)
theorem rN_10_0 : ¬ R0 10 0 = 0 := by decide +kernel
theorem rN_10_1 : ¬ R0 10 1 = 0 := by decide +kernel
theorem rN_10_2 : ¬ R0 10 2 = 0 := by decide +kernel
theorem rN_10_3 : ¬ R0 10 3 = 0 := by decide +kernel
theorem rN_10_4 : ¬ R0 10 4 = 0 := by decide +kernel
theorem rN_10_5 : ¬ R0 10 5 = 0 := by decide +kernel
theorem rN_10_6 : ¬ R0 10 6 = 0 := by decide +kernel
theorem kA_11 : aK 11 (.int) 2500 := aK_of (by decide) (by decide) (by decide +kernel)
theorem kA_12 : aK 12 (.int) 2500 := aK_of (by decide) (by decide) (by decide +kernel)
theorem kA_13 : aK 13 (.int) 2500 := aK_of (by decide) (by decide) (by decide +kernel)
theorem kA_14 : aK 14 (.int) 2500 := aK_of (by decide) (by decide) (by decide +kernel)
theorem kA_15 : aK 15 (.long) 2500 := aK_of (by decide) (by decide) (by decide +kernel)
theorem kA_16 : aK 16 (.int) 2500 := aK_of (by decide) (by decide) (by decide +kernel)
theorem kA_17 : aK 17 (.object "EventVault$Stream") 40 := aK_of (by decide) (by decide) (by decide +kernel)
theorem kO_58 : oK 58 4 := oK_of (by decide) (by decide) (by decide +kernel)
theorem rN_58_0 : ¬ R0 58 0 = 0 := by decide +kernel
theorem rN_58_1 : ¬ R0 58 1 = 0 := by decide +kernel
theorem rN_58_2 : ¬ R0 58 2 = 0 := by decide +kernel
theorem rN_58_3 : ¬ R0 58 3 = 0 := by decide +kernel
theorem kA_59 : aK 59 (.long) 16 := aK_of (by decide) (by decide) (by decide +kernel)
theorem kA_60 : aK 60 (.long) 4 := aK_of (by decide) (by decide) (by decide +kernel)
theorem kA_61 : aK 61 (.int) 4 := aK_of (by decide) (by decide) (by decide +kernel)
theorem kA_62 : aK 62 (.long) 4 := aK_of (by decide) (by decide) (by decide +kernel)
theorem kA_63 : aK 63 (.object "EventVault$Group") 8 := aK_of (by decide) (by decide) (by decide +kernel)
theorem kA_64 : aK 64 (.object "EventVault$Projection") 8 := aK_of (by decide) (by decide) (by decide +kernel)
theorem kO_145 : oK 145 9 := oK_of (by decide) (by decide) (by decide +kernel)
theorem rN_145_6 : ¬ R0 145 6 = 0 := by decide +kernel
theorem rN_145_7 : ¬ R0 145 7 = 0 := by decide +kernel
theorem rN_145_8 : ¬ R0 145 8 = 0 := by decide +kernel
theorem rN_145_9 : ¬ R0 145 9 = 0 := by decide +kernel
theorem rN_145_10 : ¬ R0 145 10 = 0 := by decide +kernel
theorem rN_145_11 : ¬ R0 145 11 = 0 := by decide +kernel
theorem rN_145_12 : ¬ R0 145 12 = 0 := by decide +kernel
theorem rN_145_14 : ¬ R0 145 14 = 0 := by decide +kernel
theorem rN_145_15 : ¬ R0 145 15 = 0 := by decide +kernel
theorem rN_145_16 : ¬ R0 145 16 = 0 := by decide +kernel
theorem rN_145_17 : ¬ R0 145 17 = 0 := by decide +kernel
theorem rN_145_18 : ¬ R0 145 18 = 0 := by decide +kernel
theorem rN_145_19 : ¬ R0 145 19 = 0 := by decide +kernel
theorem rN_145_20 : ¬ R0 145 20 = 0 := by decide +kernel
theorem rN_145_21 : ¬ R0 145 21 = 0 := by decide +kernel
theorem rN_145_23 : ¬ R0 145 23 = 0 := by decide +kernel
theorem rN_145_24 : ¬ R0 145 24 = 0 := by decide +kernel
theorem rN_145_25 : ¬ R0 145 25 = 0 := by decide +kernel
theorem rN_145_26 : ¬ R0 145 26 = 0 := by decide +kernel
theorem rN_145_27 : ¬ R0 145 27 = 0 := by decide +kernel
theorem rN_145_28 : ¬ R0 145 28 = 0 := by decide +kernel
theorem rN_145_29 : ¬ R0 145 29 = 0 := by decide +kernel
theorem rN_145_30 : ¬ R0 145 30 = 0 := by decide +kernel
theorem rN_145_31 : ¬ R0 145 31 = 0 := by decide +kernel
theorem rN_145_33 : ¬ R0 145 33 = 0 := by decide +kernel
theorem rN_145_34 : ¬ R0 145 34 = 0 := by decide +kernel
theorem rN_145_35 : ¬ R0 145 35 = 0 := by decide +kernel
theorem rN_145_36 : ¬ R0 145 36 = 0 := by decide +kernel
theorem rN_145_37 : ¬ R0 145 37 = 0 := by decide +kernel
theorem rN_145_38 : ¬ R0 145 38 = 0 := by decide +kernel
theorem rN_145_39 : ¬ R0 145 39 = 0 := by decide +kernel
theorem rN_145_40 : ¬ R0 145 40 = 0 := by decide +kernel
theorem rN_145_41 : ¬ R0 145 41 = 0 := by decide +kernel
theorem rN_145_42 : ¬ R0 145 42 = 0 := by decide +kernel
theorem rN_145_44 : ¬ R0 145 44 = 0 := by decide +kernel
theorem rN_145_46 : ¬ R0 145 46 = 0 := by decide +kernel
theorem rN_145_47 : ¬ R0 145 47 = 0 := by decide +kernel
theorem rN_145_48 : ¬ R0 145 48 = 0 := by decide +kernel
theorem kA_146 : aK 146 (.int) 2500 := aK_of (by decide) (by decide) (by decide +kernel)
theorem kA_147 : aK 147 (.int) 2500 := aK_of (by decide) (by decide) (by decide +kernel)
theorem kA_148 : aK 148 (.int) 2500 := aK_of (by decide) (by decide) (by decide +kernel)
theorem kA_149 : aK 149 (.int) 2500 := aK_of (by decide) (by decide) (by decide +kernel)
theorem kA_150 : aK 150 (.long) 2500 := aK_of (by decide) (by decide) (by decide +kernel)
theorem kA_151 : aK 151 (.int) 2500 := aK_of (by decide) (by decide) (by decide +kernel)
theorem kA_152 : aK 152 (.boolean) 2500 := aK_of (by decide) (by decide) (by decide +kernel)
theorem kA_153 : aK 153 (.int) 40 := aK_of (by decide) (by decide) (by decide +kernel)
theorem kA_154 : aK 154 (.int) 40 := aK_of (by decide) (by decide) (by decide +kernel)
theorem kA_155 : aK 155 (.int) 40 := aK_of (by decide) (by decide) (by decide +kernel)
theorem kA_156 : aK 156 (.int) 40 := aK_of (by decide) (by decide) (by decide +kernel)
theorem kA_157 : aK 157 (.boolean) 40 := aK_of (by decide) (by decide) (by decide +kernel)
theorem kA_158 : aK 158 (.int) 8 := aK_of (by decide) (by decide) (by decide +kernel)
theorem kA_159 : aK 159 (.int) 8 := aK_of (by decide) (by decide) (by decide +kernel)
theorem kA_160 : aK 160 (.long) 8 := aK_of (by decide) (by decide) (by decide +kernel)
theorem kA_161 : aK 161 (.boolean) 8 := aK_of (by decide) (by decide) (by decide +kernel)
theorem kA_162 : aK 162 (.int) 8 := aK_of (by decide) (by decide) (by decide +kernel)
theorem kA_163 : aK 163 (.int) 8 := aK_of (by decide) (by decide) (by decide +kernel)
theorem kA_164 : aK 164 (.int) 8 := aK_of (by decide) (by decide) (by decide +kernel)
theorem kA_165 : aK 165 (.byte) 20000 := aK_of (by decide) (by decide) (by decide +kernel)
theorem kA_166 : aK 166 (.int) 20000 := aK_of (by decide) (by decide) (by decide +kernel)
theorem kA_167 : aK 167 (.int) 20000 := aK_of (by decide) (by decide) (by decide +kernel)
theorem kA_168 : aK 168 (.int) 64 := aK_of (by decide) (by decide) (by decide +kernel)
theorem kA_169 : aK 169 (.int) 64 := aK_of (by decide) (by decide) (by decide +kernel)
theorem kA_170 : aK 170 (.boolean) 8 := aK_of (by decide) (by decide) (by decide +kernel)
theorem kA_171 : aK 171 (.int) 8 := aK_of (by decide) (by decide) (by decide +kernel)
theorem kA_172 : aK 172 (.int) 512 := aK_of (by decide) (by decide) (by decide +kernel)
theorem kA_173 : aK 173 (.int) 512 := aK_of (by decide) (by decide) (by decide +kernel)
theorem kA_174 : aK 174 (.int) 8 := aK_of (by decide) (by decide) (by decide +kernel)
theorem kA_175 : aK 175 (.int) 8 := aK_of (by decide) (by decide) (by decide +kernel)
theorem kA_176 : aK 176 (.boolean) 8 := aK_of (by decide) (by decide) (by decide +kernel)
theorem kA_177 : aK 177 (.int) 8 := aK_of (by decide) (by decide) (by decide +kernel)
theorem kA_178 : aK 178 (.boolean) 8 := aK_of (by decide) (by decide) (by decide +kernel)
theorem kA_179 : aK 179 (.long) 1024 := aK_of (by decide) (by decide) (by decide +kernel)
theorem kA_180 : aK 180 (.long) 16 := aK_of (by decide) (by decide) (by decide +kernel)
theorem kA_181 : aK 181 (.long) 4 := aK_of (by decide) (by decide) (by decide +kernel)
theorem kA_182 : aK 182 (.int) 4 := aK_of (by decide) (by decide) (by decide +kernel)
theorem kA_183 : aK 183 (.long) 4 := aK_of (by decide) (by decide) (by decide +kernel)
theorem kA_184 : aK 184 (.long) 1 := aK_of (by decide) (by decide) (by decide +kernel)
def w7 (a : Nat) : Prop := oK a 7
theorem w7_o {a : Nat} (h : w7 a) : oK a 7 := h
def w5 (a : Nat) : Prop := oK a 5 ∧ aK (R0 a 0) .int 64 ∧ aK (R0 a 1) .int 64
theorem w5_o {a : Nat} (h : w5 a) : oK a 5 := h.1
theorem w5_a0 {a : Nat} (h : w5 a) : aK (R0 a 0) .int 64 := h.2.1
theorem w5_a1 {a : Nat} (h : w5 a) : aK (R0 a 1) .int 64 := h.2.2
def w3 (a : Nat) : Prop := oK a 3 ∧ aK (R0 a 0) .int 2500 ∧ aK (R0 a 1) .int 2500 ∧ aK (R0 a 2) .int 16 ∧ aK (R0 a 3) .int 16
theorem w3_o {a : Nat} (h : w3 a) : oK a 3 := h.1
theorem w3_a0 {a : Nat} (h : w3 a) : aK (R0 a 0) .int 2500 := h.2.1
theorem w3_a1 {a : Nat} (h : w3 a) : aK (R0 a 1) .int 2500 := h.2.2.1
theorem w3_a2 {a : Nat} (h : w3 a) : aK (R0 a 2) .int 16 := h.2.2.2.1
theorem w3_a3 {a : Nat} (h : w3 a) : aK (R0 a 3) .int 16 := h.2.2.2.2
def w6 (a : Nat) : Prop := oK a 6 ∧ w5 (R0 a 0) ∧ aK (R0 a 1) .long 128
theorem w6_o {a : Nat} (h : w6 a) : oK a 6 := h.1
theorem w6_w0 {a : Nat} (h : w6 a) : w5 (R0 a 0) := h.2.1
theorem w6_a1 {a : Nat} (h : w6 a) : aK (R0 a 1) .long 128 := h.2.2
theorem kt_0 {j : Nat} (h : j < 40) : kTab[18 + j - 1]? = some (.inl 7) := by
  have h9 : ((List.range 40).all fun j => decide (kTab[18 + j - 1]? = some (.inl 7))) = true := by decide +kernel
  exact of_decide_eq_true (List.all_eq_true.mp h9 j (List.mem_range.mpr h))
theorem sS {j : Nat} (h : j < 40) : w7 (18 + j) := oK_of (by omega) (by omega) (kt_0 h)
def kt_g (j : Nat) : Bool := decide (kTab[65 + 5 * j - 1]? = some (.inl 3)) && decide (R0 (65 + 5 * j) 0 = 66 + 5 * j) && decide (kTab[66 + 5 * j - 1]? = some (.inr (.int, 2500))) && decide (R0 (65 + 5 * j) 1 = 67 + 5 * j) && decide (kTab[67 + 5 * j - 1]? = some (.inr (.int, 2500))) && decide (R0 (65 + 5 * j) 2 = 68 + 5 * j) && decide (kTab[68 + 5 * j - 1]? = some (.inr (.int, 16))) && decide (R0 (65 + 5 * j) 3 = 69 + 5 * j) && decide (kTab[69 + 5 * j - 1]? = some (.inr (.int, 16)))
theorem kt_g_ok : ((List.range 8).all kt_g) = true := by decide +kernel
theorem R0_g {j : Nat} (h : j < 8) : R0 (65 + 5 * j) 0 = 66 + 5 * j ∧ R0 (65 + 5 * j) 1 = 67 + 5 * j ∧ R0 (65 + 5 * j) 2 = 68 + 5 * j ∧ R0 (65 + 5 * j) 3 = 69 + 5 * j := by
  have h1 := List.all_eq_true.mp kt_g_ok j (List.mem_range.mpr h)
  simp only [kt_g, Bool.and_eq_true, decide_eq_true_eq] at h1
  exact ⟨h1.1.1.1.1.1.1.1.2, h1.1.1.1.1.1.2, h1.1.1.1.2, h1.1.2⟩
theorem sG {j : Nat} (h : j < 8) : w3 (65 + 5 * j) := by
  have h1 := List.all_eq_true.mp kt_g_ok j (List.mem_range.mpr h)
  simp only [kt_g, Bool.and_eq_true, decide_eq_true_eq] at h1
  obtain ⟨⟨⟨⟨⟨⟨⟨⟨a1, a2⟩, a3⟩, a4⟩, a5⟩, a6⟩, a7⟩, a8⟩, a9⟩ := h1
  exact ⟨oK_of (by omega) (by omega) a1, by rw [a2]; exact aK_of (by omega) (by omega) a3, by rw [a4]; exact aK_of (by omega) (by omega) a5, by rw [a6]; exact aK_of (by omega) (by omega) a7, by rw [a8]; exact aK_of (by omega) (by omega) a9⟩
def kt_p (j : Nat) : Bool := decide (kTab[105 + 5 * j - 1]? = some (.inl 6)) && decide (R0 (105 + 5 * j) 0 = 106 + 5 * j) && decide (kTab[106 + 5 * j - 1]? = some (.inl 5)) && decide (R0 (106 + 5 * j) 0 = 107 + 5 * j) && decide (kTab[107 + 5 * j - 1]? = some (.inr (.int, 64))) && decide (R0 (106 + 5 * j) 1 = 108 + 5 * j) && decide (kTab[108 + 5 * j - 1]? = some (.inr (.int, 64))) && decide (R0 (105 + 5 * j) 1 = 109 + 5 * j) && decide (kTab[109 + 5 * j - 1]? = some (.inr (.long, 128)))
theorem kt_p_ok : ((List.range 8).all kt_p) = true := by decide +kernel
theorem R0_p {j : Nat} (h : j < 8) : R0 (105 + 5 * j) 0 = 106 + 5 * j ∧ R0 (106 + 5 * j) 0 = 107 + 5 * j ∧ R0 (106 + 5 * j) 1 = 108 + 5 * j ∧ R0 (105 + 5 * j) 1 = 109 + 5 * j := by
  have h1 := List.all_eq_true.mp kt_p_ok j (List.mem_range.mpr h)
  simp only [kt_p, Bool.and_eq_true, decide_eq_true_eq] at h1
  exact ⟨h1.1.1.1.1.1.1.1.2, h1.1.1.1.1.1.2, h1.1.1.1.2, h1.1.2⟩
theorem sP {j : Nat} (h : j < 8) : w6 (105 + 5 * j) := by
  have h1 := List.all_eq_true.mp kt_p_ok j (List.mem_range.mpr h)
  simp only [kt_p, Bool.and_eq_true, decide_eq_true_eq] at h1
  obtain ⟨⟨⟨⟨⟨⟨⟨⟨a1, a2⟩, a3⟩, a4⟩, a5⟩, a6⟩, a7⟩, a8⟩, a9⟩ := h1
  exact ⟨oK_of (by omega) (by omega) a1, by rw [a2]; exact ⟨oK_of (by omega) (by omega) a3, by rw [a4]; exact aK_of (by omega) (by omega) a5, by rw [a6]; exact aK_of (by omega) (by omega) a7⟩, by rw [a8]; exact aK_of (by omega) (by omega) a9⟩
theorem w5_c : w5 7 := ⟨kO_7, kA_8, kA_9⟩
theorem vp_lt {x : Int32} {n : Nat} (h : vp_in x n) : x.toNatClampNeg < n := Nat.not_le.mp fun q => h (Or.inr q)
theorem R0_17 {i : Nat} (h : i < 40) : R0 17 i = 18 + i := by unfold R0; rw [if_pos rfl, if_pos h]
theorem R0_63 {i : Nat} (h : i < 8) : R0 63 i = 65 + 5 * i := by unfold R0; rw [if_neg (by decide), if_pos rfl, if_pos h]
theorem R0_64 {i : Nat} (h : i < 8) : R0 64 i = 105 + 5 * i := by unfold R0; rw [if_neg (by decide), if_neg (by decide), if_pos rfl, if_pos h]
theorem sT_17 {x : Int32} (h : vp_in x 40) : w7 (R0 17 x.toNatClampNeg) := by rw [R0_17 (vp_lt h)]; exact sS (vp_lt h)
theorem sT_63 {x : Int32} (h : vp_in x 8) : w3 (R0 63 x.toNatClampNeg) := by rw [R0_63 (vp_lt h)]; exact sG (vp_lt h)
theorem sT_64 {x : Int32} (h : vp_in x 8) : w6 (R0 64 x.toNatClampNeg) := by rw [R0_64 (vp_lt h)]; exact sP (vp_lt h)
theorem w_nz7 {a : Nat} (h : w7 a) : ¬ a = 0 := fun z => by have := h.1; omega
theorem w_nz3 {a : Nat} (h : w3 a) : ¬ a = 0 := fun z => by have := h.1.1; omega
theorem w_nz5 {a : Nat} (h : w5 a) : ¬ a = 0 := fun z => by have := h.1.1; omega
theorem w_nz6 {a : Nat} (h : w6 a) : ¬ a = 0 := fun z => by have := h.1.1; omega
theorem a_nz {a n : Nat} {ty : FieldType} (h : aK a ty n) : ¬ a = 0 := fun z => by have := h.1; omega
theorem sub_pick {ls canon : eLs} (ks : List Nat) (h : lv_pick ls ks = canon) : ∀ q ∈ canon, q ∈ ls := by
  intro q hq
  rw [← h] at hq
  obtain ⟨k, -, hk⟩ := List.mem_filterMap.mp hq
  exact List.mem_of_getElem? hk
theorem ret_i {μ : Nat} {ty : FieldType} {x : Int32} {A : Prop} (hr : eRt μ = some ty) (hn : narrow ty (.int x) = .int x) (hk : A) : retI (eRt μ) x A := by unfold retI; rw [hr]; exact ⟨hn, hk⟩
theorem recv_o {q b c : Nat} {As : List Value} {σ : eS} (hk : eKd q = 0 ∨ eKd q = 2) (hc : eC q = c) (h : isO σ b c) : recvOk q (.ref b :: As) σ := by
  unfold recvOk
  rcases hk with hk | hk <;> (rw [hk]; dsimp only; rw [hc]; exact h)
theorem recv_s {q : Nat} {as : List Value} {σ : eS} (hk : ¬ eKd q = 0) (hk2 : ¬ eKd q = 2) : recvOk q as σ := by
  unfold recvOk
  split
  · rename_i h; exact absurd h hk
  · rename_i h; exact absurd h hk2
  · trivial
end
section
theorem isA_0 (L : Nat) (I : Nat → Nat → Int32) (J : Nat → Nat → Int64) (h z : Nat) : isA (mS L I J h z) 0 .int L := ⟨by show 0 < 185; decide, rfl⟩
end
