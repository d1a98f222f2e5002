-- ===== PART A: goes FIRST, ahead of the names: the tables' words, and 'selects' of the private methods out of them =====
/-- a private method of a class that the tables say can be made, by its rows of tables_1 -/
def lw_okq (q : MethodName × Nat) : Prop := (q.1.cls ≠ "java/lang/invoke/MethodHandle" ∧ q.1.cls ≠ "java/lang/invoke/VarHandle") ∧ Cond.instantiable q.1.cls q.2 ∈ tables_1 ∧ Cond.privateMethod q.1 ∈ tables_1 ∧ Cond.instanceMethod q.1 ∈ tables_1
theorem lw_p0 : lw_okq (⟨"HotHall$Works", "putInOrder", "()V"⟩, 16) := ⟨⟨by decide +kernel, by decide +kernel⟩, List.mem_of_getElem? (i := 189) (by decide +kernel), List.mem_of_getElem? (i := 550) (by decide +kernel), List.mem_of_getElem? (i := 551) (by decide +kernel)⟩
theorem lw_p1 : lw_okq (⟨"HotHall$Works", "isAhead", "(II)Z"⟩, 16) := ⟨⟨by decide +kernel, by decide +kernel⟩, List.mem_of_getElem? (i := 189) (by decide +kernel), List.mem_of_getElem? (i := 554) (by decide +kernel), List.mem_of_getElem? (i := 555) (by decide +kernel)⟩
theorem lw_p2 : lw_okq (⟨"HotHall$Works", "placeInOrder", "(I)I"⟩, 16) := ⟨⟨by decide +kernel, by decide +kernel⟩, List.mem_of_getElem? (i := 189) (by decide +kernel), List.mem_of_getElem? (i := 558) (by decide +kernel), List.mem_of_getElem? (i := 559) (by decide +kernel)⟩
theorem lw_p3 : lw_okq (⟨"HotHall", "isPin", "(I)Z"⟩, 8) := ⟨⟨by decide +kernel, by decide +kernel⟩, List.mem_of_getElem? (i := 24) (by decide +kernel), List.mem_of_getElem? (i := 566) (by decide +kernel), List.mem_of_getElem? (i := 567) (by decide +kernel)⟩
theorem lw_p4 : lw_okq (⟨"HotHall$Works", "add", "(III)I"⟩, 16) := ⟨⟨by decide +kernel, by decide +kernel⟩, List.mem_of_getElem? (i := 189) (by decide +kernel), List.mem_of_getElem? (i := 574) (by decide +kernel), List.mem_of_getElem? (i := 575) (by decide +kernel)⟩
theorem lw_p5 : lw_okq (⟨"HotHall$Rules", "readAll", "()V"⟩, 13) := ⟨⟨by decide +kernel, by decide +kernel⟩, List.mem_of_getElem? (i := 253) (by decide +kernel), List.mem_of_getElem? (i := 594) (by decide +kernel), List.mem_of_getElem? (i := 595) (by decide +kernel)⟩
theorem lw_p6 : lw_okq (⟨"HotHall$Rules", "readAt", "(I)V"⟩, 13) := ⟨⟨by decide +kernel, by decide +kernel⟩, List.mem_of_getElem? (i := 253) (by decide +kernel), List.mem_of_getElem? (i := 598) (by decide +kernel), List.mem_of_getElem? (i := 599) (by decide +kernel)⟩
theorem lw_p7 : lw_okq (⟨"HotHall$Rules", "readDigit", "(II)V"⟩, 13) := ⟨⟨by decide +kernel, by decide +kernel⟩, List.mem_of_getElem? (i := 253) (by decide +kernel), List.mem_of_getElem? (i := 602) (by decide +kernel), List.mem_of_getElem? (i := 603) (by decide +kernel)⟩
theorem lw_p8 : lw_okq (⟨"HotHall$Rules", "refuse", "(II)V"⟩, 13) := ⟨⟨by decide +kernel, by decide +kernel⟩, List.mem_of_getElem? (i := 253) (by decide +kernel), List.mem_of_getElem? (i := 606) (by decide +kernel), List.mem_of_getElem? (i := 607) (by decide +kernel)⟩
theorem lw_p9 : lw_okq (⟨"HotHall$Rules", "putUnit", "(I)V"⟩, 13) := ⟨⟨by decide +kernel, by decide +kernel⟩, List.mem_of_getElem? (i := 253) (by decide +kernel), List.mem_of_getElem? (i := 610) (by decide +kernel), List.mem_of_getElem? (i := 611) (by decide +kernel)⟩
theorem lw_p10 : lw_okq (⟨"HotHall$Rules", "put", "(I)V"⟩, 13) := ⟨⟨by decide +kernel, by decide +kernel⟩, List.mem_of_getElem? (i := 253) (by decide +kernel), List.mem_of_getElem? (i := 614) (by decide +kernel), List.mem_of_getElem? (i := 615) (by decide +kernel)⟩
theorem lw_p11 : lw_okq (⟨"HotHall$Rules", "readUnit", "(II)V"⟩, 13) := ⟨⟨by decide +kernel, by decide +kernel⟩, List.mem_of_getElem? (i := 253) (by decide +kernel), List.mem_of_getElem? (i := 618) (by decide +kernel), List.mem_of_getElem? (i := 619) (by decide +kernel)⟩
theorem lw_p12 : lw_okq (⟨"HotHall$Rules", "await", "(I)V"⟩, 13) := ⟨⟨by decide +kernel, by decide +kernel⟩, List.mem_of_getElem? (i := 253) (by decide +kernel), List.mem_of_getElem? (i := 709) (by decide +kernel), List.mem_of_getElem? (i := 710) (by decide +kernel)⟩
theorem lw_p13 : lw_okq (⟨"HotHall$Rules", "readClosing", "(I)V"⟩, 13) := ⟨⟨by decide +kernel, by decide +kernel⟩, List.mem_of_getElem? (i := 253) (by decide +kernel), List.mem_of_getElem? (i := 713) (by decide +kernel), List.mem_of_getElem? (i := 714) (by decide +kernel)⟩
theorem lw_p14 : lw_okq (⟨"HotHall$Rules", "putWaiting", "(I)V"⟩, 13) := ⟨⟨by decide +kernel, by decide +kernel⟩, List.mem_of_getElem? (i := 253) (by decide +kernel), List.mem_of_getElem? (i := 720) (by decide +kernel), List.mem_of_getElem? (i := 721) (by decide +kernel)⟩
theorem lw_p15 : lw_okq (⟨"HotHall$Rules", "readJoin", "(II)V"⟩, 13) := ⟨⟨by decide +kernel, by decide +kernel⟩, List.mem_of_getElem? (i := 253) (by decide +kernel), List.mem_of_getElem? (i := 724) (by decide +kernel), List.mem_of_getElem? (i := 725) (by decide +kernel)⟩
def lw_privs_1 : List (MethodName × Nat) := [(⟨"HotHall$Works", "putInOrder", "()V"⟩, 16), (⟨"HotHall$Works", "isAhead", "(II)Z"⟩, 16), (⟨"HotHall$Works", "placeInOrder", "(I)I"⟩, 16), (⟨"HotHall", "isPin", "(I)Z"⟩, 8), (⟨"HotHall$Works", "add", "(III)I"⟩, 16), (⟨"HotHall$Rules", "readAll", "()V"⟩, 13), (⟨"HotHall$Rules", "readAt", "(I)V"⟩, 13), (⟨"HotHall$Rules", "readDigit", "(II)V"⟩, 13), (⟨"HotHall$Rules", "refuse", "(II)V"⟩, 13), (⟨"HotHall$Rules", "putUnit", "(I)V"⟩, 13), (⟨"HotHall$Rules", "put", "(I)V"⟩, 13), (⟨"HotHall$Rules", "readUnit", "(II)V"⟩, 13), (⟨"HotHall$Rules", "await", "(I)V"⟩, 13), (⟨"HotHall$Rules", "readClosing", "(I)V"⟩, 13), (⟨"HotHall$Rules", "putWaiting", "(I)V"⟩, 13), (⟨"HotHall$Rules", "readJoin", "(II)V"⟩, 13)]
theorem lw_r1 : ∀ q ∈ lw_privs_1, lw_okq q := List.forall_mem_cons.mpr ⟨lw_p0, List.forall_mem_cons.mpr ⟨lw_p1, List.forall_mem_cons.mpr ⟨lw_p2, List.forall_mem_cons.mpr ⟨lw_p3, List.forall_mem_cons.mpr ⟨lw_p4, List.forall_mem_cons.mpr ⟨lw_p5, List.forall_mem_cons.mpr ⟨lw_p6, List.forall_mem_cons.mpr ⟨lw_p7, List.forall_mem_cons.mpr ⟨lw_p8, List.forall_mem_cons.mpr ⟨lw_p9, List.forall_mem_cons.mpr ⟨lw_p10, List.forall_mem_cons.mpr ⟨lw_p11, List.forall_mem_cons.mpr ⟨lw_p12, List.forall_mem_cons.mpr ⟨lw_p13, List.forall_mem_cons.mpr ⟨lw_p14, List.forall_mem_cons.mpr ⟨lw_p15, fun _ h => absurd h List.not_mem_nil⟩⟩⟩⟩⟩⟩⟩⟩⟩⟩⟩⟩⟩⟩⟩⟩
theorem lw_p16 : lw_okq (⟨"HotHall$Hall", "tellSpeed", "()V"⟩, 9) := ⟨⟨by decide +kernel, by decide +kernel⟩, List.mem_of_getElem? (i := 32) (by decide +kernel), List.mem_of_getElem? (i := 749) (by decide +kernel), List.mem_of_getElem? (i := 750) (by decide +kernel)⟩
theorem lw_p17 : lw_okq (⟨"HotHall$Hall", "readGauges", "()V"⟩, 9) := ⟨⟨by decide +kernel, by decide +kernel⟩, List.mem_of_getElem? (i := 32) (by decide +kernel), List.mem_of_getElem? (i := 791) (by decide +kernel), List.mem_of_getElem? (i := 792) (by decide +kernel)⟩
theorem lw_p18 : lw_okq (⟨"HotHall$Hall", "placeWorks", "()V"⟩, 9) := ⟨⟨by decide +kernel, by decide +kernel⟩, List.mem_of_getElem? (i := 32) (by decide +kernel), List.mem_of_getElem? (i := 796) (by decide +kernel), List.mem_of_getElem? (i := 797) (by decide +kernel)⟩
theorem lw_p19 : lw_okq (⟨"HotHall$Hall", "placeWork", "(I)V"⟩, 9) := ⟨⟨by decide +kernel, by decide +kernel⟩, List.mem_of_getElem? (i := 32) (by decide +kernel), List.mem_of_getElem? (i := 810) (by decide +kernel), List.mem_of_getElem? (i := 811) (by decide +kernel)⟩
theorem lw_p20 : lw_okq (⟨"HotHall$Hall", "setSpeeds", "()V"⟩, 9) := ⟨⟨by decide +kernel, by decide +kernel⟩, List.mem_of_getElem? (i := 32) (by decide +kernel), List.mem_of_getElem? (i := 822) (by decide +kernel), List.mem_of_getElem? (i := 823) (by decide +kernel)⟩
theorem lw_p21 : lw_okq (⟨"HotHall$Hall", "stop", "(II)V"⟩, 9) := ⟨⟨by decide +kernel, by decide +kernel⟩, List.mem_of_getElem? (i := 32) (by decide +kernel), List.mem_of_getElem? (i := 831) (by decide +kernel), List.mem_of_getElem? (i := 832) (by decide +kernel)⟩
theorem lw_p22 : lw_okq (⟨"HotHall$Hall", "tripFeeds", "()V"⟩, 9) := ⟨⟨by decide +kernel, by decide +kernel⟩, List.mem_of_getElem? (i := 32) (by decide +kernel), List.mem_of_getElem? (i := 835) (by decide +kernel), List.mem_of_getElem? (i := 836) (by decide +kernel)⟩
theorem lw_p23 : lw_okq (⟨"HotHall$Hall", "shedWorks", "()V"⟩, 9) := ⟨⟨by decide +kernel, by decide +kernel⟩, List.mem_of_getElem? (i := 32) (by decide +kernel), List.mem_of_getElem? (i := 848) (by decide +kernel), List.mem_of_getElem? (i := 849) (by decide +kernel)⟩
theorem lw_p24 : lw_okq (⟨"HotHall$Air", "exchange", "(II)V"⟩, 9) := ⟨⟨by decide +kernel, by decide +kernel⟩, List.mem_of_getElem? (i := 38) (by decide +kernel), List.mem_of_getElem? (i := 887) (by decide +kernel), List.mem_of_getElem? (i := 888) (by decide +kernel)⟩
theorem lw_p25 : lw_okq (⟨"HotHall$Hall", "failMachines", "()V"⟩, 9) := ⟨⟨by decide +kernel, by decide +kernel⟩, List.mem_of_getElem? (i := 32) (by decide +kernel), List.mem_of_getElem? (i := 893) (by decide +kernel), List.mem_of_getElem? (i := 894) (by decide +kernel)⟩
theorem lw_p26 : lw_okq (⟨"HotHall$Hall", "finishWorks", "()V"⟩, 9) := ⟨⟨by decide +kernel, by decide +kernel⟩, List.mem_of_getElem? (i := 32) (by decide +kernel), List.mem_of_getElem? (i := 907) (by decide +kernel), List.mem_of_getElem? (i := 908) (by decide +kernel)⟩
theorem lw_p27 : lw_okq (⟨"HotHall$Works", "finishSteady", "(III)V"⟩, 16) := ⟨⟨by decide +kernel, by decide +kernel⟩, List.mem_of_getElem? (i := 189) (by decide +kernel), List.mem_of_getElem? (i := 915) (by decide +kernel), List.mem_of_getElem? (i := 916) (by decide +kernel)⟩
theorem lw_p28 : lw_okq (⟨"HotHall$Works", "stateAt", "(II)I"⟩, 16) := ⟨⟨by decide +kernel, by decide +kernel⟩, List.mem_of_getElem? (i := 189) (by decide +kernel), List.mem_of_getElem? (i := 928) (by decide +kernel), List.mem_of_getElem? (i := 929) (by decide +kernel)⟩
theorem lw_p29 : lw_okq (⟨"HotHall$Placer", "takeWorks", "(LHotHall$Works;)V"⟩, 7) := ⟨⟨by decide +kernel, by decide +kernel⟩, List.mem_of_getElem? (i := 418) (by decide +kernel), List.mem_of_getElem? (i := 983) (by decide +kernel), List.mem_of_getElem? (i := 984) (by decide +kernel)⟩
theorem lw_p30 : lw_okq (⟨"HotHall$Placer", "takeMachines", "(LHotHall$Hall;)I"⟩, 7) := ⟨⟨by decide +kernel, by decide +kernel⟩, List.mem_of_getElem? (i := 418) (by decide +kernel), List.mem_of_getElem? (i := 987) (by decide +kernel), List.mem_of_getElem? (i := 988) (by decide +kernel)⟩
theorem lw_p31 : lw_okq (⟨"HotHall$Placer", "bestFrom", "(II)J"⟩, 7) := ⟨⟨by decide +kernel, by decide +kernel⟩, List.mem_of_getElem? (i := 418) (by decide +kernel), List.mem_of_getElem? (i := 993) (by decide +kernel), List.mem_of_getElem? (i := 994) (by decide +kernel)⟩
def lw_privs_2 : List (MethodName × Nat) := [(⟨"HotHall$Hall", "tellSpeed", "()V"⟩, 9), (⟨"HotHall$Hall", "readGauges", "()V"⟩, 9), (⟨"HotHall$Hall", "placeWorks", "()V"⟩, 9), (⟨"HotHall$Hall", "placeWork", "(I)V"⟩, 9), (⟨"HotHall$Hall", "setSpeeds", "()V"⟩, 9), (⟨"HotHall$Hall", "stop", "(II)V"⟩, 9), (⟨"HotHall$Hall", "tripFeeds", "()V"⟩, 9), (⟨"HotHall$Hall", "shedWorks", "()V"⟩, 9), (⟨"HotHall$Air", "exchange", "(II)V"⟩, 9), (⟨"HotHall$Hall", "failMachines", "()V"⟩, 9), (⟨"HotHall$Hall", "finishWorks", "()V"⟩, 9), (⟨"HotHall$Works", "finishSteady", "(III)V"⟩, 16), (⟨"HotHall$Works", "stateAt", "(II)I"⟩, 16), (⟨"HotHall$Placer", "takeWorks", "(LHotHall$Works;)V"⟩, 7), (⟨"HotHall$Placer", "takeMachines", "(LHotHall$Hall;)I"⟩, 7), (⟨"HotHall$Placer", "bestFrom", "(II)J"⟩, 7)]
theorem lw_r2 : ∀ q ∈ lw_privs_2, lw_okq q := List.forall_mem_cons.mpr ⟨lw_p16, List.forall_mem_cons.mpr ⟨lw_p17, List.forall_mem_cons.mpr ⟨lw_p18, List.forall_mem_cons.mpr ⟨lw_p19, List.forall_mem_cons.mpr ⟨lw_p20, List.forall_mem_cons.mpr ⟨lw_p21, List.forall_mem_cons.mpr ⟨lw_p22, List.forall_mem_cons.mpr ⟨lw_p23, List.forall_mem_cons.mpr ⟨lw_p24, List.forall_mem_cons.mpr ⟨lw_p25, List.forall_mem_cons.mpr ⟨lw_p26, List.forall_mem_cons.mpr ⟨lw_p27, List.forall_mem_cons.mpr ⟨lw_p28, List.forall_mem_cons.mpr ⟨lw_p29, List.forall_mem_cons.mpr ⟨lw_p30, List.forall_mem_cons.mpr ⟨lw_p31, fun _ h => absurd h List.not_mem_nil⟩⟩⟩⟩⟩⟩⟩⟩⟩⟩⟩⟩⟩⟩⟩⟩
theorem lw_p32 : lw_okq (⟨"HotHall$Placer", "worth", "(I)J"⟩, 7) := ⟨⟨by decide +kernel, by decide +kernel⟩, List.mem_of_getElem? (i := 418) (by decide +kernel), List.mem_of_getElem? (i := 997) (by decide +kernel), List.mem_of_getElem? (i := 998) (by decide +kernel)⟩
theorem lw_p33 : lw_okq (⟨"HotHall$Placer", "firstChoice", "(IIJ)I"⟩, 7) := ⟨⟨by decide +kernel, by decide +kernel⟩, List.mem_of_getElem? (i := 418) (by decide +kernel), List.mem_of_getElem? (i := 1002) (by decide +kernel), List.mem_of_getElem? (i := 1003) (by decide +kernel)⟩
theorem lw_p34 : lw_okq (⟨"HotHall", "allKeptWithout", "(II)Z"⟩, 8) := ⟨⟨by decide +kernel, by decide +kernel⟩, List.mem_of_getElem? (i := 24) (by decide +kernel), List.mem_of_getElem? (i := 1028) (by decide +kernel), List.mem_of_getElem? (i := 1029) (by decide +kernel)⟩
theorem lw_p35 : lw_okq (⟨"HotHall$Fit", "multiplyAll", "(LHotHall$Lots;II)V"⟩, 3) := ⟨⟨by decide +kernel, by decide +kernel⟩, List.mem_of_getElem? (i := 446) (by decide +kernel), List.mem_of_getElem? (i := 1110) (by decide +kernel), List.mem_of_getElem? (i := 1111) (by decide +kernel)⟩
theorem lw_p36 : lw_okq (⟨"HotHall$Fit", "multiply", "(I)V"⟩, 3) := ⟨⟨by decide +kernel, by decide +kernel⟩, List.mem_of_getElem? (i := 446) (by decide +kernel), List.mem_of_getElem? (i := 1114) (by decide +kernel), List.mem_of_getElem? (i := 1115) (by decide +kernel)⟩
theorem lw_p37 : lw_okq (⟨"HotHall$Fit", "isTriedGreater", "()Z"⟩, 3) := ⟨⟨by decide +kernel, by decide +kernel⟩, List.mem_of_getElem? (i := 446) (by decide +kernel), List.mem_of_getElem? (i := 1119) (by decide +kernel), List.mem_of_getElem? (i := 1120) (by decide +kernel)⟩
theorem lw_p38 : lw_okq (⟨"HotHall", "brokenInDrill", "(I)I"⟩, 8) := ⟨⟨by decide +kernel, by decide +kernel⟩, List.mem_of_getElem? (i := 24) (by decide +kernel), List.mem_of_getElem? (i := 1131) (by decide +kernel), List.mem_of_getElem? (i := 1132) (by decide +kernel)⟩
theorem lw_p39 : lw_okq (⟨"HotHallModel", "change", "(IJ)I"⟩, 31) := ⟨⟨by decide +kernel, by decide +kernel⟩, List.mem_of_getElem? (i := 1185) (by decide +kernel), List.mem_of_getElem? (i := 1308) (by decide +kernel), List.mem_of_getElem? (i := 1309) (by decide +kernel)⟩
theorem lw_p40 : lw_okq (⟨"HotHallModel", "addMachine", "(JJJJJ)V"⟩, 31) := ⟨⟨by decide +kernel, by decide +kernel⟩, List.mem_of_getElem? (i := 1185) (by decide +kernel), List.mem_of_getElem? (i := 1323) (by decide +kernel), List.mem_of_getElem? (i := 1324) (by decide +kernel)⟩
theorem lw_p41 : lw_okq (⟨"HotHallModel", "at", "(I)I"⟩, 31) := ⟨⟨by decide +kernel, by decide +kernel⟩, List.mem_of_getElem? (i := 1185) (by decide +kernel), List.mem_of_getElem? (i := 1327) (by decide +kernel), List.mem_of_getElem? (i := 1328) (by decide +kernel)⟩
theorem lw_p42 : lw_okq (⟨"HotHallModel", "isPin", "(I)Z"⟩, 31) := ⟨⟨by decide +kernel, by decide +kernel⟩, List.mem_of_getElem? (i := 1185) (by decide +kernel), List.mem_of_getElem? (i := 1373) (by decide +kernel), List.mem_of_getElem? (i := 1374) (by decide +kernel)⟩
theorem lw_p43 : lw_okq (⟨"HotHallModel", "addWork", "(IIIIII)I"⟩, 31) := ⟨⟨by decide +kernel, by decide +kernel⟩, List.mem_of_getElem? (i := 1185) (by decide +kernel), List.mem_of_getElem? (i := 1377) (by decide +kernel), List.mem_of_getElem? (i := 1378) (by decide +kernel)⟩
theorem lw_p44 : lw_okq (⟨"HotHallModel", "workRules", "()V"⟩, 31) := ⟨⟨by decide +kernel, by decide +kernel⟩, List.mem_of_getElem? (i := 1185) (by decide +kernel), List.mem_of_getElem? (i := 1400) (by decide +kernel), List.mem_of_getElem? (i := 1401) (by decide +kernel)⟩
theorem lw_p45 : lw_okq (⟨"HotHallModel", "put", "(J)V"⟩, 31) := ⟨⟨by decide +kernel, by decide +kernel⟩, List.mem_of_getElem? (i := 1185) (by decide +kernel), List.mem_of_getElem? (i := 1409) (by decide +kernel), List.mem_of_getElem? (i := 1410) (by decide +kernel)⟩
theorem lw_p46 : lw_okq (⟨"HotHallModel", "named", "(I)J"⟩, 31) := ⟨⟨by decide +kernel, by decide +kernel⟩, List.mem_of_getElem? (i := 1185) (by decide +kernel), List.mem_of_getElem? (i := 1416) (by decide +kernel), List.mem_of_getElem? (i := 1417) (by decide +kernel)⟩
theorem lw_p47 : lw_okq (⟨"HotHallModel", "greatest", "()J"⟩, 31) := ⟨⟨by decide +kernel, by decide +kernel⟩, List.mem_of_getElem? (i := 1185) (by decide +kernel), List.mem_of_getElem? (i := 1420) (by decide +kernel), List.mem_of_getElem? (i := 1421) (by decide +kernel)⟩
def lw_privs_3 : List (MethodName × Nat) := [(⟨"HotHall$Placer", "worth", "(I)J"⟩, 7), (⟨"HotHall$Placer", "firstChoice", "(IIJ)I"⟩, 7), (⟨"HotHall", "allKeptWithout", "(II)Z"⟩, 8), (⟨"HotHall$Fit", "multiplyAll", "(LHotHall$Lots;II)V"⟩, 3), (⟨"HotHall$Fit", "multiply", "(I)V"⟩, 3), (⟨"HotHall$Fit", "isTriedGreater", "()Z"⟩, 3), (⟨"HotHall", "brokenInDrill", "(I)I"⟩, 8), (⟨"HotHallModel", "change", "(IJ)I"⟩, 31), (⟨"HotHallModel", "addMachine", "(JJJJJ)V"⟩, 31), (⟨"HotHallModel", "at", "(I)I"⟩, 31), (⟨"HotHallModel", "isPin", "(I)Z"⟩, 31), (⟨"HotHallModel", "addWork", "(IIIIII)I"⟩, 31), (⟨"HotHallModel", "workRules", "()V"⟩, 31), (⟨"HotHallModel", "put", "(J)V"⟩, 31), (⟨"HotHallModel", "named", "(I)J"⟩, 31), (⟨"HotHallModel", "greatest", "()J"⟩, 31)]
theorem lw_r3 : ∀ q ∈ lw_privs_3, lw_okq q := List.forall_mem_cons.mpr ⟨lw_p32, List.forall_mem_cons.mpr ⟨lw_p33, List.forall_mem_cons.mpr ⟨lw_p34, List.forall_mem_cons.mpr ⟨lw_p35, List.forall_mem_cons.mpr ⟨lw_p36, List.forall_mem_cons.mpr ⟨lw_p37, List.forall_mem_cons.mpr ⟨lw_p38, List.forall_mem_cons.mpr ⟨lw_p39, List.forall_mem_cons.mpr ⟨lw_p40, List.forall_mem_cons.mpr ⟨lw_p41, List.forall_mem_cons.mpr ⟨lw_p42, List.forall_mem_cons.mpr ⟨lw_p43, List.forall_mem_cons.mpr ⟨lw_p44, List.forall_mem_cons.mpr ⟨lw_p45, List.forall_mem_cons.mpr ⟨lw_p46, List.forall_mem_cons.mpr ⟨lw_p47, fun _ h => absurd h List.not_mem_nil⟩⟩⟩⟩⟩⟩⟩⟩⟩⟩⟩⟩⟩⟩⟩⟩
theorem lw_p48 : lw_okq (⟨"HotHallModel", "gauge", "(I)J"⟩, 31) := ⟨⟨by decide +kernel, by decide +kernel⟩, List.mem_of_getElem? (i := 1185) (by decide +kernel), List.mem_of_getElem? (i := 1424) (by decide +kernel), List.mem_of_getElem? (i := 1425) (by decide +kernel)⟩
theorem lw_p49 : lw_okq (⟨"HotHallModel", "openWorks", "()I"⟩, 31) := ⟨⟨by decide +kernel, by decide +kernel⟩, List.mem_of_getElem? (i := 1185) (by decide +kernel), List.mem_of_getElem? (i := 1428) (by decide +kernel), List.mem_of_getElem? (i := 1429) (by decide +kernel)⟩
theorem lw_p50 : lw_okq (⟨"HotHallModel", "isOpen", "(I)Z"⟩, 31) := ⟨⟨by decide +kernel, by decide +kernel⟩, List.mem_of_getElem? (i := 1185) (by decide +kernel), List.mem_of_getElem? (i := 1432) (by decide +kernel), List.mem_of_getElem? (i := 1433) (by decide +kernel)⟩
theorem lw_p51 : lw_okq (⟨"HotHallModel", "failedOnes", "()I"⟩, 31) := ⟨⟨by decide +kernel, by decide +kernel⟩, List.mem_of_getElem? (i := 1185) (by decide +kernel), List.mem_of_getElem? (i := 1436) (by decide +kernel), List.mem_of_getElem? (i := 1437) (by decide +kernel)⟩
theorem lw_p52 : lw_okq (⟨"HotHallModel", "reduce", "(I)V"⟩, 31) := ⟨⟨by decide +kernel, by decide +kernel⟩, List.mem_of_getElem? (i := 1185) (by decide +kernel), List.mem_of_getElem? (i := 1443) (by decide +kernel), List.mem_of_getElem? (i := 1444) (by decide +kernel)⟩
theorem lw_p53 : lw_okq (⟨"HotHallModel", "broken", "()I"⟩, 31) := ⟨⟨by decide +kernel, by decide +kernel⟩, List.mem_of_getElem? (i := 1185) (by decide +kernel), List.mem_of_getElem? (i := 1454) (by decide +kernel), List.mem_of_getElem? (i := 1455) (by decide +kernel)⟩
theorem lw_p54 : lw_okq (⟨"HotHallModel", "minute", "()V"⟩, 31) := ⟨⟨by decide +kernel, by decide +kernel⟩, List.mem_of_getElem? (i := 1185) (by decide +kernel), List.mem_of_getElem? (i := 1458) (by decide +kernel), List.mem_of_getElem? (i := 1459) (by decide +kernel)⟩
theorem lw_p55 : lw_okq (⟨"HotHallModel", "findLine", "()V"⟩, 31) := ⟨⟨by decide +kernel, by decide +kernel⟩, List.mem_of_getElem? (i := 1185) (by decide +kernel), List.mem_of_getElem? (i := 1465) (by decide +kernel), List.mem_of_getElem? (i := 1466) (by decide +kernel)⟩
theorem lw_p56 : lw_okq (⟨"HotHallModel", "isAhead", "(II)Z"⟩, 31) := ⟨⟨by decide +kernel, by decide +kernel⟩, List.mem_of_getElem? (i := 1185) (by decide +kernel), List.mem_of_getElem? (i := 1469) (by decide +kernel), List.mem_of_getElem? (i := 1470) (by decide +kernel)⟩
theorem lw_p57 : lw_okq (⟨"HotHallModel", "place", "(I)V"⟩, 31) := ⟨⟨by decide +kernel, by decide +kernel⟩, List.mem_of_getElem? (i := 1185) (by decide +kernel), List.mem_of_getElem? (i := 1473) (by decide +kernel), List.mem_of_getElem? (i := 1474) (by decide +kernel)⟩
theorem lw_p58 : lw_okq (⟨"HotHallModel", "mayHave", "(II)Z"⟩, 31) := ⟨⟨by decide +kernel, by decide +kernel⟩, List.mem_of_getElem? (i := 1185) (by decide +kernel), List.mem_of_getElem? (i := 1477) (by decide +kernel), List.mem_of_getElem? (i := 1478) (by decide +kernel)⟩
theorem lw_p59 : lw_okq (⟨"HotHallModel", "trip", "(I)V"⟩, 31) := ⟨⟨by decide +kernel, by decide +kernel⟩, List.mem_of_getElem? (i := 1185) (by decide +kernel), List.mem_of_getElem? (i := 1481) (by decide +kernel), List.mem_of_getElem? (i := 1482) (by decide +kernel)⟩
theorem lw_p60 : lw_okq (⟨"HotHallModel", "drawn", "(I)J"⟩, 31) := ⟨⟨by decide +kernel, by decide +kernel⟩, List.mem_of_getElem? (i := 1185) (by decide +kernel), List.mem_of_getElem? (i := 1485) (by decide +kernel), List.mem_of_getElem? (i := 1486) (by decide +kernel)⟩
theorem lw_p61 : lw_okq (⟨"HotHallModel", "still", "(II)V"⟩, 31) := ⟨⟨by decide +kernel, by decide +kernel⟩, List.mem_of_getElem? (i := 1185) (by decide +kernel), List.mem_of_getElem? (i := 1489) (by decide +kernel), List.mem_of_getElem? (i := 1490) (by decide +kernel)⟩
theorem lw_p62 : lw_okq (⟨"HotHallModel", "supply", "()V"⟩, 31) := ⟨⟨by decide +kernel, by decide +kernel⟩, List.mem_of_getElem? (i := 1185) (by decide +kernel), List.mem_of_getElem? (i := 1493) (by decide +kernel), List.mem_of_getElem? (i := 1494) (by decide +kernel)⟩
theorem lw_p63 : lw_okq (⟨"HotHallModel", "allDrawn", "()J"⟩, 31) := ⟨⟨by decide +kernel, by decide +kernel⟩, List.mem_of_getElem? (i := 1185) (by decide +kernel), List.mem_of_getElem? (i := 1497) (by decide +kernel), List.mem_of_getElem? (i := 1498) (by decide +kernel)⟩
def lw_privs_4 : List (MethodName × Nat) := [(⟨"HotHallModel", "gauge", "(I)J"⟩, 31), (⟨"HotHallModel", "openWorks", "()I"⟩, 31), (⟨"HotHallModel", "isOpen", "(I)Z"⟩, 31), (⟨"HotHallModel", "failedOnes", "()I"⟩, 31), (⟨"HotHallModel", "reduce", "(I)V"⟩, 31), (⟨"HotHallModel", "broken", "()I"⟩, 31), (⟨"HotHallModel", "minute", "()V"⟩, 31), (⟨"HotHallModel", "findLine", "()V"⟩, 31), (⟨"HotHallModel", "isAhead", "(II)Z"⟩, 31), (⟨"HotHallModel", "place", "(I)V"⟩, 31), (⟨"HotHallModel", "mayHave", "(II)Z"⟩, 31), (⟨"HotHallModel", "trip", "(I)V"⟩, 31), (⟨"HotHallModel", "drawn", "(I)J"⟩, 31), (⟨"HotHallModel", "still", "(II)V"⟩, 31), (⟨"HotHallModel", "supply", "()V"⟩, 31), (⟨"HotHallModel", "allDrawn", "()J"⟩, 31)]
theorem lw_r4 : ∀ q ∈ lw_privs_4, lw_okq q := List.forall_mem_cons.mpr ⟨lw_p48, List.forall_mem_cons.mpr ⟨lw_p49, List.forall_mem_cons.mpr ⟨lw_p50, List.forall_mem_cons.mpr ⟨lw_p51, List.forall_mem_cons.mpr ⟨lw_p52, List.forall_mem_cons.mpr ⟨lw_p53, List.forall_mem_cons.mpr ⟨lw_p54, List.forall_mem_cons.mpr ⟨lw_p55, List.forall_mem_cons.mpr ⟨lw_p56, List.forall_mem_cons.mpr ⟨lw_p57, List.forall_mem_cons.mpr ⟨lw_p58, List.forall_mem_cons.mpr ⟨lw_p59, List.forall_mem_cons.mpr ⟨lw_p60, List.forall_mem_cons.mpr ⟨lw_p61, List.forall_mem_cons.mpr ⟨lw_p62, List.forall_mem_cons.mpr ⟨lw_p63, fun _ h => absurd h List.not_mem_nil⟩⟩⟩⟩⟩⟩⟩⟩⟩⟩⟩⟩⟩⟩⟩⟩
theorem lw_p64 : lw_okq (⟨"HotHallModel", "warm", "()V"⟩, 31) := ⟨⟨by decide +kernel, by decide +kernel⟩, List.mem_of_getElem? (i := 1185) (by decide +kernel), List.mem_of_getElem? (i := 1501) (by decide +kernel), List.mem_of_getElem? (i := 1502) (by decide +kernel)⟩
theorem lw_p65 : lw_okq (⟨"HotHallModel", "exchange", "(II)V"⟩, 31) := ⟨⟨by decide +kernel, by decide +kernel⟩, List.mem_of_getElem? (i := 1185) (by decide +kernel), List.mem_of_getElem? (i := 1505) (by decide +kernel), List.mem_of_getElem? (i := 1506) (by decide +kernel)⟩
theorem lw_p66 : lw_okq (⟨"HotHallModel", "fail", "()V"⟩, 31) := ⟨⟨by decide +kernel, by decide +kernel⟩, List.mem_of_getElem? (i := 1185) (by decide +kernel), List.mem_of_getElem? (i := 1510) (by decide +kernel), List.mem_of_getElem? (i := 1511) (by decide +kernel)⟩
theorem lw_p67 : lw_okq (⟨"HotHallModel", "finish", "(I)V"⟩, 31) := ⟨⟨by decide +kernel, by decide +kernel⟩, List.mem_of_getElem? (i := 1185) (by decide +kernel), List.mem_of_getElem? (i := 1516) (by decide +kernel), List.mem_of_getElem? (i := 1517) (by decide +kernel)⟩
theorem lw_p68 : lw_okq (⟨"HotHallModel", "allHeat", "()J"⟩, 31) := ⟨⟨by decide +kernel, by decide +kernel⟩, List.mem_of_getElem? (i := 1185) (by decide +kernel), List.mem_of_getElem? (i := 1522) (by decide +kernel), List.mem_of_getElem? (i := 1523) (by decide +kernel)⟩
theorem lw_p69 : lw_okq (⟨"HotHallModel", "isMachine", "(I)Z"⟩, 31) := ⟨⟨by decide +kernel, by decide +kernel⟩, List.mem_of_getElem? (i := 1185) (by decide +kernel), List.mem_of_getElem? (i := 1534) (by decide +kernel), List.mem_of_getElem? (i := 1535) (by decide +kernel)⟩
theorem lw_p70 : lw_okq (⟨"HotHallModel", "isWork", "(I)Z"⟩, 31) := ⟨⟨by decide +kernel, by decide +kernel⟩, List.mem_of_getElem? (i := 1185) (by decide +kernel), List.mem_of_getElem? (i := 1543) (by decide +kernel), List.mem_of_getElem? (i := 1544) (by decide +kernel)⟩
theorem lw_p71 : lw_okq (⟨"HotHallModel", "findOpen", "()I"⟩, 31) := ⟨⟨by decide +kernel, by decide +kernel⟩, List.mem_of_getElem? (i := 1185) (by decide +kernel), List.mem_of_getElem? (i := 1556) (by decide +kernel), List.mem_of_getElem? (i := 1557) (by decide +kernel)⟩
theorem lw_p72 : lw_okq (⟨"HotHallModel", "findPlacing", "(I)V"⟩, 31) := ⟨⟨by decide +kernel, by decide +kernel⟩, List.mem_of_getElem? (i := 1185) (by decide +kernel), List.mem_of_getElem? (i := 1561) (by decide +kernel), List.mem_of_getElem? (i := 1562) (by decide +kernel)⟩
theorem lw_p73 : lw_okq (⟨"HotHallModel", "times", "(J)V"⟩, 31) := ⟨⟨by decide +kernel, by decide +kernel⟩, List.mem_of_getElem? (i := 1185) (by decide +kernel), List.mem_of_getElem? (i := 1589) (by decide +kernel), List.mem_of_getElem? (i := 1590) (by decide +kernel)⟩
theorem lw_p74 : lw_okq (⟨"HotHallModel", "isWider", "()Z"⟩, 31) := ⟨⟨by decide +kernel, by decide +kernel⟩, List.mem_of_getElem? (i := 1185) (by decide +kernel), List.mem_of_getElem? (i := 1594) (by decide +kernel), List.mem_of_getElem? (i := 1595) (by decide +kernel)⟩
theorem lw_p75 : lw_okq (⟨"HotHallModel", "overs", "(I)I"⟩, 31) := ⟨⟨by decide +kernel, by decide +kernel⟩, List.mem_of_getElem? (i := 1185) (by decide +kernel), List.mem_of_getElem? (i := 1639) (by decide +kernel), List.mem_of_getElem? (i := 1640) (by decide +kernel)⟩
def lw_privs_5 : List (MethodName × Nat) := [(⟨"HotHallModel", "warm", "()V"⟩, 31), (⟨"HotHallModel", "exchange", "(II)V"⟩, 31), (⟨"HotHallModel", "fail", "()V"⟩, 31), (⟨"HotHallModel", "finish", "(I)V"⟩, 31), (⟨"HotHallModel", "allHeat", "()J"⟩, 31), (⟨"HotHallModel", "isMachine", "(I)Z"⟩, 31), (⟨"HotHallModel", "isWork", "(I)Z"⟩, 31), (⟨"HotHallModel", "findOpen", "()I"⟩, 31), (⟨"HotHallModel", "findPlacing", "(I)V"⟩, 31), (⟨"HotHallModel", "times", "(J)V"⟩, 31), (⟨"HotHallModel", "isWider", "()Z"⟩, 31), (⟨"HotHallModel", "overs", "(I)I"⟩, 31)]
theorem lw_r5 : ∀ q ∈ lw_privs_5, lw_okq q := List.forall_mem_cons.mpr ⟨lw_p64, List.forall_mem_cons.mpr ⟨lw_p65, List.forall_mem_cons.mpr ⟨lw_p66, List.forall_mem_cons.mpr ⟨lw_p67, List.forall_mem_cons.mpr ⟨lw_p68, List.forall_mem_cons.mpr ⟨lw_p69, List.forall_mem_cons.mpr ⟨lw_p70, List.forall_mem_cons.mpr ⟨lw_p71, List.forall_mem_cons.mpr ⟨lw_p72, List.forall_mem_cons.mpr ⟨lw_p73, List.forall_mem_cons.mpr ⟨lw_p74, List.forall_mem_cons.mpr ⟨lw_p75, fun _ h => absurd h List.not_mem_nil⟩⟩⟩⟩⟩⟩⟩⟩⟩⟩⟩⟩
def lw_privs : List (MethodName × Nat) := lw_privs_1 ++ (lw_privs_2 ++ (lw_privs_3 ++ (lw_privs_4 ++ (lw_privs_5))))
def lw_tbl : List Cond := k2_sels lw_privs ++ tables_1
theorem lw_privs_ok : ∀ q ∈ lw_privs, lw_okq q := by
  show ∀ q ∈ lw_privs_1 ++ (lw_privs_2 ++ (lw_privs_3 ++ (lw_privs_4 ++ (lw_privs_5)))), lw_okq q
  exact List.forall_mem_append.mpr ⟨lw_r1, List.forall_mem_append.mpr ⟨lw_r2, List.forall_mem_append.mpr ⟨lw_r3, List.forall_mem_append.mpr ⟨lw_r4, lw_r5⟩⟩⟩⟩
def RX0 : String := "HotHall$Air"
def TX0 : u_T := fun k => match k with
  | 0 => ("HotHall$Air", "heats", "[I", true)
  | 1 => ("HotHall$Air", "takes", "[I", true)
  | 2 => ("HotHall$Air", "aims", "[I", true)
  | 3 => ("HotHall$Air", "past", "[I", true)
  | 4 => ("HotHall$Air", "next", "[I", true)
  | 5 => ("HotHall$Air", "outside", "I", false)
  | 6 => ("HotHall$Air", "walls", "I", false)
  | 7 => ("HotHall$Air", "flow", "I", false)
  | _ => ("HotHall$Air", "late", "I", false)
def tyX0 : Nat → FieldType := fun k => match k with
  | 0 => .array .int
  | 1 => .array .int
  | 2 => .array .int
  | 3 => .array .int
  | 4 => .array .int
  | 5 => .int
  | 6 => .int
  | 7 => .int
  | _ => .int
abbrev wsX00 : List Cond := u_ws RX0 TX0 9
theorem nmX0 : ∀ a, a < 9 → ∀ b, b < 9 → a ≠ b → (TX0 a).2.1 ≠ (TX0 b).2.1 := by decide +kernel
theorem tyX0_ok : ∀ k, k < 9 → parseFieldDescriptor (TX0 k).2.2.1 = some (tyX0 k) := by decide +kernel
abbrev cX0_init : ByteArray := prog_2_method_1_code
def yX0_init : MethodName := ⟨RX0, "<init>", "()V"⟩
abbrev cX0_copyFrom : ByteArray := prog_2_method_2_code
def yX0_copyFrom : MethodName := ⟨RX0, "copyFrom", "(LHotHall$Air;)V"⟩
abbrev cX0_gauge : ByteArray := prog_2_method_3_code
def yX0_gauge : MethodName := ⟨RX0, "gauge", "(I)I"⟩
abbrev cX0_greatestGauge : ByteArray := prog_2_method_4_code
def yX0_greatestGauge : MethodName := ⟨RX0, "greatestGauge", "()I"⟩
abbrev cX0_sum : ByteArray := prog_2_method_5_code
def yX0_sum : MethodName := ⟨RX0, "sum", "()J"⟩
abbrev cX0_moveAims : ByteArray := prog_2_method_6_code
def yX0_moveAims : MethodName := ⟨RX0, "moveAims", "(I)V"⟩
abbrev cX0_remember : ByteArray := prog_2_method_7_code
def yX0_remember : MethodName := ⟨RX0, "remember", "()V"⟩
abbrev cX0_settle : ByteArray := prog_2_method_8_code
def yX0_settle : MethodName := ⟨RX0, "settle", "()V"⟩
abbrev cX0_exchange : ByteArray := prog_2_method_9_code
def yX0_exchange : MethodName := ⟨RX0, "exchange", "(II)V"⟩
abbrev cX0_part : ByteArray := prog_2_method_10_code
def yX0_part : MethodName := ⟨RX0, "part", "(II)I"⟩
def RX1 : String := "HotHall$Book"
def TX1 : u_T := fun k => match k with
  | 0 => ("HotHall$Book", "start", "LHotHall$Hall;", true)
  | 1 => ("HotHall$Book", "sums", "[J", true)
  | 2 => ("HotHall$Book", "isOpen", "Z", false)
  | _ => ("HotHall$Book", "many", "I", false)
def tyX1 : Nat → FieldType := fun k => match k with
  | 0 => .object "HotHall$Hall"
  | 1 => .array .long
  | 2 => .boolean
  | _ => .int
abbrev wsX10 : List Cond := u_ws RX1 TX1 4
theorem nmX1 : ∀ a, a < 4 → ∀ b, b < 4 → a ≠ b → (TX1 a).2.1 ≠ (TX1 b).2.1 := by decide +kernel
theorem tyX1_ok : ∀ k, k < 4 → parseFieldDescriptor (TX1 k).2.2.1 = some (tyX1 k) := by decide +kernel
abbrev cX1_init : ByteArray := prog_3_method_1_code
def yX1_init : MethodName := ⟨RX1, "<init>", "()V"⟩
abbrev cX1_open : ByteArray := prog_3_method_2_code
def yX1_open : MethodName := ⟨RX1, "open", "(LHotHall$Hall;)V"⟩
abbrev cX1_note : ByteArray := prog_3_method_3_code
def yX1_note : MethodName := ⟨RX1, "note", "(J)V"⟩
def RX2 : String := "HotHall$Drills"
def TX2 : u_T := fun k => match k with
  | 0 => ("HotHall$Drills", "spans", "[I", true)
  | 1 => ("HotHall$Drills", "outsides", "[I", true)
  | _ => ("HotHall$Drills", "nets", "[I", true)
def tyX2 : Nat → FieldType := fun k => match k with
  | 0 => .array .int
  | 1 => .array .int
  | _ => .array .int
abbrev wsX20 : List Cond := u_ws RX2 TX2 3
theorem nmX2 : ∀ a, a < 3 → ∀ b, b < 3 → a ≠ b → (TX2 a).2.1 ≠ (TX2 b).2.1 := by decide +kernel
theorem tyX2_ok : ∀ k, k < 3 → parseFieldDescriptor (TX2 k).2.2.1 = some (tyX2 k) := by decide +kernel
abbrev cX2_init : ByteArray := prog_4_method_1_code
def yX2_init : MethodName := ⟨RX2, "<init>", "()V"⟩
def RX3 : String := "HotHall$Fit"
def TX3 : u_T := fun k => match k with
  | 0 => ("HotHall$Fit", "best", "[J", false)
  | 1 => ("HotHall$Fit", "tried", "[J", false)
  | _ => ("HotHall$Fit", "used", "I", false)
def tyX3 : Nat → FieldType := fun k => match k with
  | 0 => .array .long
  | 1 => .array .long
  | _ => .int
abbrev wsX30 : List Cond := u_ws RX3 TX3 3
theorem nmX3 : ∀ a, a < 3 → ∀ b, b < 3 → a ≠ b → (TX3 a).2.1 ≠ (TX3 b).2.1 := by decide +kernel
theorem tyX3_ok : ∀ k, k < 3 → parseFieldDescriptor (TX3 k).2.2.1 = some (tyX3 k) := by decide +kernel
abbrev cX3_init : ByteArray := prog_5_method_1_code
def yX3_init : MethodName := ⟨RX3, "<init>", "()V"⟩
abbrev cX3_likeliest : ByteArray := prog_5_method_2_code
def yX3_likeliest : MethodName := ⟨RX3, "likeliest", "(LHotHall$Lots;)I"⟩
abbrev cX3_multiplyAll : ByteArray := prog_5_method_3_code
def yX3_multiplyAll : MethodName := ⟨RX3, "multiplyAll", "(LHotHall$Lots;II)V"⟩
abbrev cX3_multiply : ByteArray := prog_5_method_4_code
def yX3_multiply : MethodName := ⟨RX3, "multiply", "(I)V"⟩
abbrev cX3_isTriedGreater : ByteArray := prog_5_method_5_code
def yX3_isTriedGreater : MethodName := ⟨RX3, "isTriedGreater", "()Z"⟩
def RX4 : String := "HotHall$Hall"
def TX4 : u_T := fun k => match k with
  | 0 => ("HotHall$Hall", "air", "LHotHall$Air;", true)
  | 1 => ("HotHall$Hall", "machines", "LHotHall$Machines;", true)
  | 2 => ("HotHall$Hall", "power", "LHotHall$Power;", true)
  | 3 => ("HotHall$Hall", "works", "LHotHall$Works;", true)
  | 4 => ("HotHall$Hall", "rules", "LHotHall$Rules;", true)
  | 5 => ("HotHall$Hall", "lots", "LHotHall$Lots;", true)
  | 6 => ("HotHall$Hall", "seen", "[J", true)
  | 7 => ("HotHall$Hall", "minute", "I", false)
  | _ => ("HotHall$Hall", "speed", "I", false)
def tyX4 : Nat → FieldType := fun k => match k with
  | 0 => .object "HotHall$Air"
  | 1 => .object "HotHall$Machines"
  | 2 => .object "HotHall$Power"
  | 3 => .object "HotHall$Works"
  | 4 => .object "HotHall$Rules"
  | 5 => .object "HotHall$Lots"
  | 6 => .array .long
  | 7 => .int
  | _ => .int
abbrev wsX40 : List Cond := u_ws RX4 TX4 9
theorem nmX4 : ∀ a, a < 9 → ∀ b, b < 9 → a ≠ b → (TX4 a).2.1 ≠ (TX4 b).2.1 := by decide +kernel
theorem tyX4_ok : ∀ k, k < 9 → parseFieldDescriptor (TX4 k).2.2.1 = some (tyX4 k) := by decide +kernel
abbrev cX4_init : ByteArray := prog_6_method_1_code
def yX4_init : MethodName := ⟨RX4, "<init>", "()V"⟩
abbrev cX4_copyFrom : ByteArray := prog_6_method_2_code
def yX4_copyFrom : MethodName := ⟨RX4, "copyFrom", "(LHotHall$Hall;)V"⟩
abbrev cX4_go : ByteArray := prog_6_method_3_code
def yX4_go : MethodName := ⟨RX4, "go", "(I)I"⟩
abbrev cX4_step : ByteArray := prog_6_method_4_code
def yX4_step : MethodName := ⟨RX4, "step", "()I"⟩
abbrev cX4_tellSpeed : ByteArray := prog_6_method_5_code
def yX4_tellSpeed : MethodName := ⟨RX4, "tellSpeed", "()V"⟩
abbrev cX4_readGauges : ByteArray := prog_6_method_6_code
def yX4_readGauges : MethodName := ⟨RX4, "readGauges", "()V"⟩
abbrev cX4_placeWorks : ByteArray := prog_6_method_7_code
def yX4_placeWorks : MethodName := ⟨RX4, "placeWorks", "()V"⟩
abbrev cX4_placeWork : ByteArray := prog_6_method_8_code
def yX4_placeWork : MethodName := ⟨RX4, "placeWork", "(I)V"⟩
abbrev cX4_setSpeeds : ByteArray := prog_6_method_9_code
def yX4_setSpeeds : MethodName := ⟨RX4, "setSpeeds", "()V"⟩
abbrev cX4_stop : ByteArray := prog_6_method_10_code
def yX4_stop : MethodName := ⟨RX4, "stop", "(II)V"⟩
abbrev cX4_tripFeeds : ByteArray := prog_6_method_11_code
def yX4_tripFeeds : MethodName := ⟨RX4, "tripFeeds", "()V"⟩
abbrev cX4_shedWorks : ByteArray := prog_6_method_12_code
def yX4_shedWorks : MethodName := ⟨RX4, "shedWorks", "()V"⟩
abbrev cX4_failMachines : ByteArray := prog_6_method_13_code
def yX4_failMachines : MethodName := ⟨RX4, "failMachines", "()V"⟩
abbrev cX4_finishWorks : ByteArray := prog_6_method_14_code
def yX4_finishWorks : MethodName := ⟨RX4, "finishWorks", "()V"⟩
abbrev cX4_makeOther : ByteArray := prog_6_method_15_code
def yX4_makeOther : MethodName := ⟨RX4, "makeOther", "(II)V"⟩
def RX5 : String := "HotHall$Lots"
def TX5 : u_T := fun k => match k with
  | 0 => ("HotHall$Lots", "a", "I", false)
  | 1 => ("HotHall$Lots", "b", "I", false)
  | 2 => ("HotHall$Lots", "lot", "I", false)
  | 3 => ("HotHall$Lots", "told", "I", false)
  | 4 => ("HotHall$Lots", "failedAt", "[I", true)
  | _ => ("HotHall$Lots", "stoodAt", "[I", true)
def tyX5 : Nat → FieldType := fun k => match k with
  | 0 => .int
  | 1 => .int
  | 2 => .int
  | 3 => .int
  | 4 => .array .int
  | _ => .array .int
abbrev wsX50 : List Cond := u_ws RX5 TX5 6
theorem nmX5 : ∀ a, a < 6 → ∀ b, b < 6 → a ≠ b → (TX5 a).2.1 ≠ (TX5 b).2.1 := by decide +kernel
theorem tyX5_ok : ∀ k, k < 6 → parseFieldDescriptor (TX5 k).2.2.1 = some (tyX5 k) := by decide +kernel
abbrev cX5_init : ByteArray := prog_7_method_1_code
def yX5_init : MethodName := ⟨RX5, "<init>", "()V"⟩
abbrev cX5_copyFrom : ByteArray := prog_7_method_2_code
def yX5_copyFrom : MethodName := ⟨RX5, "copyFrom", "(LHotHall$Lots;)V"⟩
abbrev cX5_draw : ByteArray := prog_7_method_3_code
def yX5_draw : MethodName := ⟨RX5, "draw", "(I)Z"⟩
def RX6 : String := "HotHall$Machines"
def TX6 : u_T := fun k => match k with
  | 0 => ("HotHall$Machines", "cells", "[I", true)
  | 1 => ("HotHall$Machines", "makes", "[I", true)
  | 2 => ("HotHall$Machines", "draws", "[I", true)
  | 3 => ("HotHall$Machines", "limits", "[I", true)
  | 4 => ("HotHall$Machines", "feeds", "[I", true)
  | 5 => ("HotHall$Machines", "trips", "[I", true)
  | 6 => ("HotHall$Machines", "failed", "[I", true)
  | 7 => ("HotHall$Machines", "works", "[I", true)
  | 8 => ("HotHall$Machines", "speeds", "[I", true)
  | 9 => ("HotHall$Machines", "gauges", "[I", true)
  | _ => ("HotHall$Machines", "many", "I", false)
def tyX6 : Nat → FieldType := fun k => match k with
  | 0 => .array .int
  | 1 => .array .int
  | 2 => .array .int
  | 3 => .array .int
  | 4 => .array .int
  | 5 => .array .int
  | 6 => .array .int
  | 7 => .array .int
  | 8 => .array .int
  | 9 => .array .int
  | _ => .int
abbrev wsX60 : List Cond := u_ws RX6 TX6 11
theorem nmX6 : ∀ a, a < 11 → ∀ b, b < 11 → a ≠ b → (TX6 a).2.1 ≠ (TX6 b).2.1 := by decide +kernel
theorem tyX6_ok : ∀ k, k < 11 → parseFieldDescriptor (TX6 k).2.2.1 = some (tyX6 k) := by decide +kernel
abbrev cX6_init : ByteArray := prog_8_method_1_code
def yX6_init : MethodName := ⟨RX6, "<init>", "()V"⟩
abbrev cX6_copyFrom : ByteArray := prog_8_method_2_code
def yX6_copyFrom : MethodName := ⟨RX6, "copyFrom", "(LHotHall$Machines;)V"⟩
abbrev cX6_add : ByteArray := prog_8_method_3_code
def yX6_add : MethodName := ⟨RX6, "add", "(IIIII)I"⟩
abbrev cX6_addLikeFirst : ByteArray := prog_8_method_4_code
def yX6_addLikeFirst : MethodName := ⟨RX6, "addLikeFirst", "(I)V"⟩
abbrev cX6_tell : ByteArray := prog_8_method_5_code
def yX6_tell : MethodName := ⟨RX6, "tell", "(II)I"⟩
abbrev cX6_countFailed : ByteArray := prog_8_method_6_code
def yX6_countFailed : MethodName := ⟨RX6, "countFailed", "()I"⟩
abbrev cX6_isFit : ByteArray := prog_8_method_7_code
def yX6_isFit : MethodName := ⟨RX6, "isFit", "(I)Z"⟩
abbrev cX6_clear : ByteArray := prog_8_method_8_code
def yX6_clear : MethodName := ⟨RX6, "clear", "()V"⟩
abbrev cX6_drawOf : ByteArray := prog_8_method_9_code
def yX6_drawOf : MethodName := ⟨RX6, "drawOf", "(I)I"⟩
abbrev cX6_drawnFrom : ByteArray := prog_8_method_10_code
def yX6_drawnFrom : MethodName := ⟨RX6, "drawnFrom", "(I)I"⟩
abbrev cX6_drawn : ByteArray := prog_8_method_11_code
def yX6_drawn : MethodName := ⟨RX6, "drawn", "()I"⟩
abbrev cX6_warm : ByteArray := prog_8_method_12_code
def yX6_warm : MethodName := ⟨RX6, "warm", "(LHotHall$Air;)V"⟩
abbrev cX6_endTrips : ByteArray := prog_8_method_13_code
def yX6_endTrips : MethodName := ⟨RX6, "endTrips", "()V"⟩
def RX7 : String := "HotHall$Placer"
def TX7 : u_T := fun k => match k with
  | 0 => ("HotHall$Placer", "open", "[I", true)
  | 1 => ("HotHall$Placer", "pins", "[I", true)
  | 2 => ("HotHall$Placer", "chosen", "[I", true)
  | 3 => ("HotHall$Placer", "gauges", "[I", true)
  | 4 => ("HotHall$Placer", "coolest", "[I", true)
  | 5 => ("HotHall$Placer", "many", "I", false)
  | _ => ("HotHall$Placer", "machines", "I", false)
def tyX7 : Nat → FieldType := fun k => match k with
  | 0 => .array .int
  | 1 => .array .int
  | 2 => .array .int
  | 3 => .array .int
  | 4 => .array .int
  | 5 => .int
  | _ => .int
abbrev wsX70 : List Cond := u_ws RX7 TX7 7
theorem nmX7 : ∀ a, a < 7 → ∀ b, b < 7 → a ≠ b → (TX7 a).2.1 ≠ (TX7 b).2.1 := by decide +kernel
theorem tyX7_ok : ∀ k, k < 7 → parseFieldDescriptor (TX7 k).2.2.1 = some (tyX7 k) := by decide +kernel
abbrev cX7_init : ByteArray := prog_9_method_1_code
def yX7_init : MethodName := ⟨RX7, "<init>", "()V"⟩
abbrev cX7_place : ByteArray := prog_9_method_2_code
def yX7_place : MethodName := ⟨RX7, "place", "(LHotHall$Hall;)V"⟩
abbrev cX7_takeWorks : ByteArray := prog_9_method_3_code
def yX7_takeWorks : MethodName := ⟨RX7, "takeWorks", "(LHotHall$Works;)V"⟩
abbrev cX7_takeMachines : ByteArray := prog_9_method_4_code
def yX7_takeMachines : MethodName := ⟨RX7, "takeMachines", "(LHotHall$Hall;)I"⟩
abbrev cX7_worth : ByteArray := prog_9_method_5_code
def yX7_worth : MethodName := ⟨RX7, "worth", "(I)J"⟩
abbrev cX7_firstChoice : ByteArray := prog_9_method_6_code
def yX7_firstChoice : MethodName := ⟨RX7, "firstChoice", "(IIJ)I"⟩
abbrev cX7_bestFrom : ByteArray := prog_9_method_7_code
def yX7_bestFrom : MethodName := ⟨RX7, "bestFrom", "(II)J"⟩
abbrev cX7_sum : ByteArray := prog_9_method_8_code
def yX7_sum : MethodName := ⟨RX7, "sum", "()I"⟩
abbrev cX7_machineFor : ByteArray := prog_9_method_9_code
def yX7_machineFor : MethodName := ⟨RX7, "machineFor", "(I)I"⟩
def RX8 : String := "HotHall$Power"
def TX8 : u_T := fun k => match k with
  | 0 => ("HotHall$Power", "feeds", "[I", true)
  | 1 => ("HotHall$Power", "prices", "[I", true)
  | 2 => ("HotHall$Power", "net", "I", false)
  | 3 => ("HotHall$Power", "room", "I", false)
  | 4 => ("HotHall$Power", "rate", "I", false)
  | 5 => ("HotHall$Power", "high", "I", false)
  | 6 => ("HotHall$Power", "held", "I", false)
  | 7 => ("HotHall$Power", "drawn", "I", false)
  | _ => ("HotHall$Power", "coin", "J", false)
def tyX8 : Nat → FieldType := fun k => match k with
  | 0 => .array .int
  | 1 => .array .int
  | 2 => .int
  | 3 => .int
  | 4 => .int
  | 5 => .int
  | 6 => .int
  | 7 => .int
  | _ => .long
abbrev wsX80 : List Cond := u_ws RX8 TX8 9
theorem nmX8 : ∀ a, a < 9 → ∀ b, b < 9 → a ≠ b → (TX8 a).2.1 ≠ (TX8 b).2.1 := by decide +kernel
theorem tyX8_ok : ∀ k, k < 9 → parseFieldDescriptor (TX8 k).2.2.1 = some (tyX8 k) := by decide +kernel
abbrev cX8_init : ByteArray := prog_10_method_1_code
def yX8_init : MethodName := ⟨RX8, "<init>", "()V"⟩
abbrev cX8_copyFrom : ByteArray := prog_10_method_2_code
def yX8_copyFrom : MethodName := ⟨RX8, "copyFrom", "(LHotHall$Power;)V"⟩
abbrev cX8_priceAt : ByteArray := prog_10_method_3_code
def yX8_priceAt : MethodName := ⟨RX8, "priceAt", "(I)I"⟩
abbrev cX8_canGive : ByteArray := prog_10_method_4_code
def yX8_canGive : MethodName := ⟨RX8, "canGive", "()I"⟩
abbrev cX8_supply : ByteArray := prog_10_method_5_code
def yX8_supply : MethodName := ⟨RX8, "supply", "(I)V"⟩
def RX9 : String := "HotHall$Rules"
def TX9 : u_T := fun k => match k with
  | 0 => ("HotHall$Rules", "text", "[I", true)
  | 1 => ("HotHall$Rules", "steps", "[I", true)
  | 2 => ("HotHall$Rules", "waiting", "[I", true)
  | 3 => ("HotHall$Rules", "values", "[J", true)
  | 4 => ("HotHall$Rules", "length", "I", false)
  | 5 => ("HotHall$Rules", "fault", "I", false)
  | 6 => ("HotHall$Rules", "many", "I", false)
  | 7 => ("HotHall$Rules", "waits", "I", false)
  | 8 => ("HotHall$Rules", "depth", "I", false)
  | 9 => ("HotHall$Rules", "compared", "I", false)
  | 10 => ("HotHall$Rules", "digits", "I", false)
  | 11 => ("HotHall$Rules", "numberAt", "I", false)
  | _ => ("HotHall$Rules", "wantsUnit", "Z", false)
def tyX9 : Nat → FieldType := fun k => match k with
  | 0 => .array .int
  | 1 => .array .int
  | 2 => .array .int
  | 3 => .array .long
  | 4 => .int
  | 5 => .int
  | 6 => .int
  | 7 => .int
  | 8 => .int
  | 9 => .int
  | 10 => .int
  | 11 => .int
  | _ => .boolean
abbrev wsX90 : List Cond := u_ws RX9 TX9 13
theorem nmX9 : ∀ a, a < 13 → ∀ b, b < 13 → a ≠ b → (TX9 a).2.1 ≠ (TX9 b).2.1 := by decide +kernel
theorem tyX9_ok : ∀ k, k < 13 → parseFieldDescriptor (TX9 k).2.2.1 = some (tyX9 k) := by decide +kernel
abbrev cX9_init : ByteArray := prog_11_method_1_code
def yX9_init : MethodName := ⟨RX9, "<init>", "()V"⟩
abbrev cX9_copyFrom : ByteArray := prog_11_method_2_code
def yX9_copyFrom : MethodName := ⟨RX9, "copyFrom", "(LHotHall$Rules;)V"⟩
abbrev cX9_append : ByteArray := prog_11_method_3_code
def yX9_append : MethodName := ⟨RX9, "append", "(I)I"⟩
abbrev cX9_clear : ByteArray := prog_11_method_4_code
def yX9_clear : MethodName := ⟨RX9, "clear", "()I"⟩
abbrev cX9_readAll : ByteArray := prog_11_method_5_code
def yX9_readAll : MethodName := ⟨RX9, "readAll", "()V"⟩
abbrev cX9_refuse : ByteArray := prog_11_method_6_code
def yX9_refuse : MethodName := ⟨RX9, "refuse", "(II)V"⟩
abbrev cX9_readAt : ByteArray := prog_11_method_7_code
def yX9_readAt : MethodName := ⟨RX9, "readAt", "(I)V"⟩
abbrev cX9_readDigit : ByteArray := prog_11_method_8_code
def yX9_readDigit : MethodName := ⟨RX9, "readDigit", "(II)V"⟩
abbrev cX9_readUnit : ByteArray := prog_11_method_9_code
def yX9_readUnit : MethodName := ⟨RX9, "readUnit", "(II)V"⟩
abbrev cX9_readClosing : ByteArray := prog_11_method_10_code
def yX9_readClosing : MethodName := ⟨RX9, "readClosing", "(I)V"⟩
abbrev cX9_readJoin : ByteArray := prog_11_method_11_code
def yX9_readJoin : MethodName := ⟨RX9, "readJoin", "(II)V"⟩
abbrev cX9_binding : ByteArray := prog_11_method_12_code
def yX9_binding : MethodName := ⟨RX9, "binding", "(I)I"⟩
abbrev cX9_putUnit : ByteArray := prog_11_method_13_code
def yX9_putUnit : MethodName := ⟨RX9, "putUnit", "(I)V"⟩
abbrev cX9_put : ByteArray := prog_11_method_14_code
def yX9_put : MethodName := ⟨RX9, "put", "(I)V"⟩
abbrev cX9_await : ByteArray := prog_11_method_15_code
def yX9_await : MethodName := ⟨RX9, "await", "(I)V"⟩
abbrev cX9_putWaiting : ByteArray := prog_11_method_16_code
def yX9_putWaiting : MethodName := ⟨RX9, "putWaiting", "(I)V"⟩
abbrev cX9_value : ByteArray := prog_11_method_17_code
def yX9_value : MethodName := ⟨RX9, "value", "([J)J"⟩
abbrev cX9_joined : ByteArray := prog_11_method_18_code
def yX9_joined : MethodName := ⟨RX9, "joined", "(IJJ)J"⟩
def RX10 : String := "HotHall$Works"
def TX10 : u_T := fun k => match k with
  | 0 => ("HotHall$Works", "ranks", "[I", true)
  | 1 => ("HotHall$Works", "fees", "[I", true)
  | 2 => ("HotHall$Works", "credits", "[I", true)
  | 3 => ("HotHall$Works", "kinds", "[I", true)
  | 4 => ("HotHall$Works", "houses", "[I", true)
  | 5 => ("HotHall$Works", "wants", "[I", true)
  | 6 => ("HotHall$Works", "firsts", "[I", true)
  | 7 => ("HotHall$Works", "lasts", "[I", true)
  | 8 => ("HotHall$Works", "pins", "[I", true)
  | 9 => ("HotHall$Works", "done", "[I", true)
  | 10 => ("HotHall$Works", "states", "[I", true)
  | 11 => ("HotHall$Works", "causes", "[I", true)
  | 12 => ("HotHall$Works", "why", "[I", true)
  | 13 => ("HotHall$Works", "ranBy", "[I", true)
  | 14 => ("HotHall$Works", "order", "[I", true)
  | _ => ("HotHall$Works", "many", "I", false)
def tyX10 : Nat → FieldType := fun k => match k with
  | 0 => .array .int
  | 1 => .array .int
  | 2 => .array .int
  | 3 => .array .int
  | 4 => .array .int
  | 5 => .array .int
  | 6 => .array .int
  | 7 => .array .int
  | 8 => .array .int
  | 9 => .array .int
  | 10 => .array .int
  | 11 => .array .int
  | 12 => .array .int
  | 13 => .array .int
  | 14 => .array .int
  | _ => .int
abbrev wsX100 : List Cond := u_ws RX10 TX10 16
theorem nmX10 : ∀ a, a < 16 → ∀ b, b < 16 → a ≠ b → (TX10 a).2.1 ≠ (TX10 b).2.1 := by decide +kernel
theorem tyX10_ok : ∀ k, k < 16 → parseFieldDescriptor (TX10 k).2.2.1 = some (tyX10 k) := by decide +kernel
abbrev cX10_init : ByteArray := prog_12_method_1_code
def yX10_init : MethodName := ⟨RX10, "<init>", "()V"⟩
abbrev cX10_copyFrom : ByteArray := prog_12_method_2_code
def yX10_copyFrom : MethodName := ⟨RX10, "copyFrom", "(LHotHall$Works;)V"⟩
abbrev cX10_setHouse : ByteArray := prog_12_method_3_code
def yX10_setHouse : MethodName := ⟨RX10, "setHouse", "(IIII)V"⟩
abbrev cX10_addBatch : ByteArray := prog_12_method_4_code
def yX10_addBatch : MethodName := ⟨RX10, "addBatch", "(IIII)I"⟩
abbrev cX10_addSteady : ByteArray := prog_12_method_5_code
def yX10_addSteady : MethodName := ⟨RX10, "addSteady", "(IIIIII)I"⟩
abbrev cX10_add : ByteArray := prog_12_method_6_code
def yX10_add : MethodName := ⟨RX10, "add", "(III)I"⟩
abbrev cX10_putInOrder : ByteArray := prog_12_method_7_code
def yX10_putInOrder : MethodName := ⟨RX10, "putInOrder", "()V"⟩
abbrev cX10_isAhead : ByteArray := prog_12_method_8_code
def yX10_isAhead : MethodName := ⟨RX10, "isAhead", "(II)Z"⟩
abbrev cX10_placeInOrder : ByteArray := prog_12_method_9_code
def yX10_placeInOrder : MethodName := ⟨RX10, "placeInOrder", "(I)I"⟩
abbrev cX10_tell : ByteArray := prog_12_method_10_code
def yX10_tell : MethodName := ⟨RX10, "tell", "(II)I"⟩
abbrev cX10_countIn : ByteArray := prog_12_method_11_code
def yX10_countIn : MethodName := ⟨RX10, "countIn", "(I)I"⟩
abbrev cX10_isOpen : ByteArray := prog_12_method_12_code
def yX10_isOpen : MethodName := ⟨RX10, "isOpen", "(I)Z"⟩
abbrev cX10_openBits : ByteArray := prog_12_method_13_code
def yX10_openBits : MethodName := ⟨RX10, "openBits", "()I"⟩
abbrev cX10_leaveOut : ByteArray := prog_12_method_14_code
def yX10_leaveOut : MethodName := ⟨RX10, "leaveOut", "(I)V"⟩
abbrev cX10_mayHave : ByteArray := prog_12_method_15_code
def yX10_mayHave : MethodName := ⟨RX10, "mayHave", "(II)Z"⟩
abbrev cX10_mostSpeed : ByteArray := prog_12_method_16_code
def yX10_mostSpeed : MethodName := ⟨RX10, "mostSpeed", "(I)I"⟩
abbrev cX10_clear : ByteArray := prog_12_method_17_code
def yX10_clear : MethodName := ⟨RX10, "clear", "()V"⟩
abbrev cX10_finish : ByteArray := prog_12_method_18_code
def yX10_finish : MethodName := ⟨RX10, "finish", "(II)V"⟩
abbrev cX10_finishSteady : ByteArray := prog_12_method_19_code
def yX10_finishSteady : MethodName := ⟨RX10, "finishSteady", "(III)V"⟩
abbrev cX10_close : ByteArray := prog_12_method_20_code
def yX10_close : MethodName := ⟨RX10, "close", "(I)I"⟩
abbrev cX10_stateAt : ByteArray := prog_12_method_21_code
def yX10_stateAt : MethodName := ⟨RX10, "stateAt", "(II)I"⟩
abbrev cX10_billOf : ByteArray := prog_12_method_22_code
def yX10_billOf : MethodName := ⟨RX10, "billOf", "(I)I"⟩
def RX11 : String := "HotHall"
def TX11 : u_T := fun k => match k with
  | 0 => ("HotHall", "hall", "LHotHall$Hall;", true)
  | 1 => ("HotHall", "trial", "LHotHall$Hall;", true)
  | 2 => ("HotHall", "images", "[LHotHall$Hall;", true)
  | 3 => ("HotHall", "imageKept", "[Z", true)
  | 4 => ("HotHall", "drills", "LHotHall$Drills;", true)
  | 5 => ("HotHall", "book", "LHotHall$Book;", true)
  | 6 => ("HotHall", "placer", "LHotHall$Placer;", true)
  | _ => ("HotHall", "fit", "LHotHall$Fit;", true)
def tyX11 : Nat → FieldType := fun k => match k with
  | 0 => .object "HotHall$Hall"
  | 1 => .object "HotHall$Hall"
  | 2 => .array (.object "HotHall$Hall")
  | 3 => .array .boolean
  | 4 => .object "HotHall$Drills"
  | 5 => .object "HotHall$Book"
  | 6 => .object "HotHall$Placer"
  | _ => .object "HotHall$Fit"
abbrev wsX110 : List Cond := u_ws RX11 TX11 8
theorem nmX11 : ∀ a, a < 8 → ∀ b, b < 8 → a ≠ b → (TX11 a).2.1 ≠ (TX11 b).2.1 := by decide +kernel
theorem tyX11_ok : ∀ k, k < 8 → parseFieldDescriptor (TX11 k).2.2.1 = some (tyX11 k) := by decide +kernel
abbrev cX11_init : ByteArray := prog_1_method_1_code
def yX11_init : MethodName := ⟨RX11, "<init>", "()V"⟩
abbrev cX11_room : ByteArray := prog_1_method_2_code
def yX11_room : MethodName := ⟨RX11, "room", "(III)I"⟩
abbrev cX11_heat : ByteArray := prog_1_method_3_code
def yX11_heat : MethodName := ⟨RX11, "heat", "(II)I"⟩
abbrev cX11_cooler : ByteArray := prog_1_method_4_code
def yX11_cooler : MethodName := ⟨RX11, "cooler", "(III)I"⟩
abbrev cX11_machine : ByteArray := prog_1_method_5_code
def yX11_machine : MethodName := ⟨RX11, "machine", "(IIIII)I"⟩
abbrev cX11_feed : ByteArray := prog_1_method_6_code
def yX11_feed : MethodName := ⟨RX11, "feed", "(II)I"⟩
abbrev cX11_net : ByteArray := prog_1_method_7_code
def yX11_net : MethodName := ⟨RX11, "net", "(I)I"⟩
abbrev cX11_price : ByteArray := prog_1_method_8_code
def yX11_price : MethodName := ⟨RX11, "price", "(II)I"⟩
abbrev cX11_store : ByteArray := prog_1_method_9_code
def yX11_store : MethodName := ⟨RX11, "store", "(III)I"⟩
abbrev cX11_late : ByteArray := prog_1_method_10_code
def yX11_late : MethodName := ⟨RX11, "late", "(I)I"⟩
abbrev cX11_odds : ByteArray := prog_1_method_11_code
def yX11_odds : MethodName := ⟨RX11, "odds", "(III)I"⟩
abbrev cX11_house : ByteArray := prog_1_method_12_code
def yX11_house : MethodName := ⟨RX11, "house", "(IIII)I"⟩
abbrev cX11_batch : ByteArray := prog_1_method_13_code
def yX11_batch : MethodName := ⟨RX11, "batch", "(IIII)I"⟩
abbrev cX11_steady : ByteArray := prog_1_method_14_code
def yX11_steady : MethodName := ⟨RX11, "steady", "(IIIII)I"⟩
abbrev cX11_write : ByteArray := prog_1_method_15_code
def yX11_write : MethodName := ⟨RX11, "write", "(I)I"⟩
abbrev cX11_erase : ByteArray := prog_1_method_16_code
def yX11_erase : MethodName := ⟨RX11, "erase", "()I"⟩
abbrev cX11_fault : ByteArray := prog_1_method_17_code
def yX11_fault : MethodName := ⟨RX11, "fault", "()I"⟩
abbrev cX11_minutes : ByteArray := prog_1_method_18_code
def yX11_minutes : MethodName := ⟨RX11, "minutes", "(I)I"⟩
abbrev cX11_cell : ByteArray := prog_1_method_19_code
def yX11_cell : MethodName := ⟨RX11, "cell", "(II)I"⟩
abbrev cX11_of : ByteArray := prog_1_method_20_code
def yX11_of : MethodName := ⟨RX11, "of", "(II)I"⟩
abbrev cX11_work : ByteArray := prog_1_method_21_code
def yX11_work : MethodName := ⟨RX11, "work", "(II)I"⟩
abbrev cX11_now : ByteArray := prog_1_method_22_code
def yX11_now : MethodName := ⟨RX11, "now", "(I)J"⟩
abbrev cX11_placing : ByteArray := prog_1_method_23_code
def yX11_placing : MethodName := ⟨RX11, "placing", "(I)I"⟩
abbrev cX11_without : ByteArray := prog_1_method_24_code
def yX11_without : MethodName := ⟨RX11, "without", "(I)I"⟩
abbrev cX11_nextSet : ByteArray := prog_1_method_25_code
def yX11_nextSet : MethodName := ⟨RX11, "nextSet", "(II)I"⟩
abbrev cX11_allKeptWithout : ByteArray := prog_1_method_26_code
def yX11_allKeptWithout : MethodName := ⟨RX11, "allKeptWithout", "(II)Z"⟩
abbrev cX11_other : ByteArray := prog_1_method_27_code
def yX11_other : MethodName := ⟨RX11, "other", "(IIII)J"⟩
abbrev cX11_fitted : ByteArray := prog_1_method_28_code
def yX11_fitted : MethodName := ⟨RX11, "fitted", "()I"⟩
abbrev cX11_drill : ByteArray := prog_1_method_29_code
def yX11_drill : MethodName := ⟨RX11, "drill", "(IIII)I"⟩
abbrev cX11_worst : ByteArray := prog_1_method_30_code
def yX11_worst : MethodName := ⟨RX11, "worst", "(I)I"⟩
abbrev cX11_brokenInDrill : ByteArray := prog_1_method_31_code
def yX11_brokenInDrill : MethodName := ⟨RX11, "brokenInDrill", "(I)I"⟩
abbrev cX11_bill : ByteArray := prog_1_method_32_code
def yX11_bill : MethodName := ⟨RX11, "bill", "(I)I"⟩
abbrev cX11_begin : ByteArray := prog_1_method_33_code
def yX11_begin : MethodName := ⟨RX11, "begin", "()I"⟩
abbrev cX11_record : ByteArray := prog_1_method_34_code
def yX11_record : MethodName := ⟨RX11, "record", "(I)J"⟩
abbrev cX11_forge : ByteArray := prog_1_method_35_code
def yX11_forge : MethodName := ⟨RX11, "forge", "(IJ)I"⟩
abbrev cX11_check : ByteArray := prog_1_method_36_code
def yX11_check : MethodName := ⟨RX11, "check", "()I"⟩
abbrev cX11_image : ByteArray := prog_1_method_37_code
def yX11_image : MethodName := ⟨RX11, "image", "(I)I"⟩
abbrev cX11_from : ByteArray := prog_1_method_38_code
def yX11_from : MethodName := ⟨RX11, "from", "(I)I"⟩
abbrev cX11_count : ByteArray := prog_1_method_39_code
def yX11_count : MethodName := ⟨RX11, "count", "(I)I"⟩
abbrev cX11_digest : ByteArray := prog_1_method_40_code
def yX11_digest : MethodName := ⟨RX11, "digest", "()J"⟩
abbrev cX11_within : ByteArray := prog_1_method_41_code
def yX11_within : MethodName := ⟨RX11, "within", "(III)Z"⟩
abbrev cX11_brought : ByteArray := prog_1_method_42_code
def yX11_brought : MethodName := ⟨RX11, "brought", "(II)I"⟩
abbrev cX11_isCell : ByteArray := prog_1_method_43_code
def yX11_isCell : MethodName := ⟨RX11, "isCell", "(I)Z"⟩
abbrev cX11_isHouse : ByteArray := prog_1_method_44_code
def yX11_isHouse : MethodName := ⟨RX11, "isHouse", "(I)Z"⟩
abbrev cX11_isPin : ByteArray := prog_1_method_45_code
def yX11_isPin : MethodName := ⟨RX11, "isPin", "(I)Z"⟩
def RX12 : String := "HotHallModel"
def TX12 : u_T := fun k => match k with
  | 0 => ("HotHallModel", "z", "[J", true)
  | 1 => ("HotHallModel", "kept", "[J", true)
  | 2 => ("HotHallModel", "image0", "[J", true)
  | 3 => ("HotHallModel", "image1", "[J", true)
  | 4 => ("HotHallModel", "first", "[J", true)
  | 5 => ("HotHallModel", "isKept", "[Z", true)
  | 6 => ("HotHallModel", "value", "[J", true)
  | 7 => ("HotHallModel", "sign", "[I", true)
  | 8 => ("HotHallModel", "values", "I", false)
  | 9 => ("HotHallModel", "signs", "I", false)
  | 10 => ("HotHallModel", "isCompared", "[Z", true)
  | 11 => ("HotHallModel", "found", "J", false)
  | 12 => ("HotHallModel", "wrong", "I", false)
  | 13 => ("HotHallModel", "line", "[I", true)
  | 14 => ("HotHallModel", "cause", "[I", true)
  | 15 => ("HotHallModel", "began", "[J", true)
  | 16 => ("HotHallModel", "shown", "[J", true)
  | 17 => ("HotHallModel", "flow", "[J", true)
  | 18 => ("HotHallModel", "wasOpen", "[Z", true)
  | 19 => ("HotHallModel", "sums", "[J", true)
  | 20 => ("HotHallModel", "summed", "I", false)
  | 21 => ("HotHallModel", "isBegun", "Z", false)
  | 22 => ("HotHallModel", "placed", "[I", true)
  | 23 => ("HotHallModel", "sum", "[J", true)
  | 24 => ("HotHallModel", "open", "[I", true)
  | 25 => ("HotHallModel", "wide", "[J", true)
  | 26 => ("HotHallModel", "widest", "[J", true)
  | 27 => ("HotHallModel", "isDrill", "[Z", true)
  | 28 => ("HotHallModel", "drillOut", "[I", true)
  | 29 => ("HotHallModel", "drillNet", "[I", true)
  | _ => ("HotHallModel", "drillLong", "[I", true)
def tyX12 : Nat → FieldType := fun k => match k with
  | 0 => .array .long
  | 1 => .array .long
  | 2 => .array .long
  | 3 => .array .long
  | 4 => .array .long
  | 5 => .array .boolean
  | 6 => .array .long
  | 7 => .array .int
  | 8 => .int
  | 9 => .int
  | 10 => .array .boolean
  | 11 => .long
  | 12 => .int
  | 13 => .array .int
  | 14 => .array .int
  | 15 => .array .long
  | 16 => .array .long
  | 17 => .array .long
  | 18 => .array .boolean
  | 19 => .array .long
  | 20 => .int
  | 21 => .boolean
  | 22 => .array .int
  | 23 => .array .long
  | 24 => .array .int
  | 25 => .array .long
  | 26 => .array .long
  | 27 => .array .boolean
  | 28 => .array .int
  | 29 => .array .int
  | _ => .array .int
abbrev wsX120 : List Cond := u_ws RX12 TX12 31
theorem nmX12 : ∀ a, a < 31 → ∀ b, b < 31 → a ≠ b → (TX12 a).2.1 ≠ (TX12 b).2.1 := by decide +kernel
theorem tyX12_ok : ∀ k, k < 31 → parseFieldDescriptor (TX12 k).2.2.1 = some (tyX12 k) := by decide +kernel
abbrev cX12_init : ByteArray := prog_14_method_1_code
def yX12_init : MethodName := ⟨RX12, "<init>", "()V"⟩
abbrev cX12_in : ByteArray := prog_14_method_3_code
def yX12_in : MethodName := ⟨RX12, "in", "(JJJ)Z"⟩
abbrev cX12_at : ByteArray := prog_14_method_4_code
def yX12_at : MethodName := ⟨RX12, "at", "(I)I"⟩
abbrev cX12_copy : ByteArray := prog_14_method_5_code
def yX12_copy : MethodName := ⟨RX12, "copy", "([J[J)V"⟩
abbrev cX12_change : ByteArray := prog_14_method_6_code
def yX12_change : MethodName := ⟨RX12, "change", "(IJ)I"⟩
abbrev cX12_room : ByteArray := prog_14_method_7_code
def yX12_room : MethodName := ⟨RX12, "room", "(III)I"⟩
abbrev cX12_isCell : ByteArray := prog_14_method_8_code
def yX12_isCell : MethodName := ⟨RX12, "isCell", "(I)Z"⟩
abbrev cX12_heat : ByteArray := prog_14_method_9_code
def yX12_heat : MethodName := ⟨RX12, "heat", "(II)I"⟩
abbrev cX12_cooler : ByteArray := prog_14_method_10_code
def yX12_cooler : MethodName := ⟨RX12, "cooler", "(III)I"⟩
abbrev cX12_addMachine : ByteArray := prog_14_method_11_code
def yX12_addMachine : MethodName := ⟨RX12, "addMachine", "(JJJJJ)V"⟩
abbrev cX12_machine : ByteArray := prog_14_method_12_code
def yX12_machine : MethodName := ⟨RX12, "machine", "(IIIII)I"⟩
abbrev cX12_feed : ByteArray := prog_14_method_13_code
def yX12_feed : MethodName := ⟨RX12, "feed", "(II)I"⟩
abbrev cX12_net : ByteArray := prog_14_method_14_code
def yX12_net : MethodName := ⟨RX12, "net", "(I)I"⟩
abbrev cX12_price : ByteArray := prog_14_method_15_code
def yX12_price : MethodName := ⟨RX12, "price", "(II)I"⟩
abbrev cX12_store : ByteArray := prog_14_method_16_code
def yX12_store : MethodName := ⟨RX12, "store", "(III)I"⟩
abbrev cX12_late : ByteArray := prog_14_method_17_code
def yX12_late : MethodName := ⟨RX12, "late", "(I)I"⟩
abbrev cX12_odds : ByteArray := prog_14_method_18_code
def yX12_odds : MethodName := ⟨RX12, "odds", "(III)I"⟩
abbrev cX12_isHouse : ByteArray := prog_14_method_19_code
def yX12_isHouse : MethodName := ⟨RX12, "isHouse", "(I)Z"⟩
abbrev cX12_house : ByteArray := prog_14_method_20_code
def yX12_house : MethodName := ⟨RX12, "house", "(IIII)I"⟩
abbrev cX12_addWork : ByteArray := prog_14_method_21_code
def yX12_addWork : MethodName := ⟨RX12, "addWork", "(IIIIII)I"⟩
abbrev cX12_isPin : ByteArray := prog_14_method_22_code
def yX12_isPin : MethodName := ⟨RX12, "isPin", "(I)Z"⟩
abbrev cX12_batch : ByteArray := prog_14_method_23_code
def yX12_batch : MethodName := ⟨RX12, "batch", "(IIII)I"⟩
abbrev cX12_steady : ByteArray := prog_14_method_24_code
def yX12_steady : MethodName := ⟨RX12, "steady", "(IIIII)I"⟩
abbrev cX12_write : ByteArray := prog_14_method_25_code
def yX12_write : MethodName := ⟨RX12, "write", "(I)I"⟩
abbrev cX12_erase : ByteArray := prog_14_method_26_code
def yX12_erase : MethodName := ⟨RX12, "erase", "()I"⟩
abbrev cX12_strength : ByteArray := prog_14_method_27_code
def yX12_strength : MethodName := ⟨RX12, "strength", "(I)I"⟩
abbrev cX12_worked : ByteArray := prog_14_method_28_code
def yX12_worked : MethodName := ⟨RX12, "worked", "(IJJ)J"⟩
abbrev cX12_reduce : ByteArray := prog_14_method_29_code
def yX12_reduce : MethodName := ⟨RX12, "reduce", "(I)V"⟩
abbrev cX12_put : ByteArray := prog_14_method_30_code
def yX12_put : MethodName := ⟨RX12, "put", "(J)V"⟩
abbrev cX12_openWorks : ByteArray := prog_14_method_31_code
def yX12_openWorks : MethodName := ⟨RX12, "openWorks", "()I"⟩
abbrev cX12_failedOnes : ByteArray := prog_14_method_32_code
def yX12_failedOnes : MethodName := ⟨RX12, "failedOnes", "()I"⟩
abbrev cX12_greatest : ByteArray := prog_14_method_33_code
def yX12_greatest : MethodName := ⟨RX12, "greatest", "()J"⟩
abbrev cX12_isName : ByteArray := prog_14_method_34_code
def yX12_isName : MethodName := ⟨RX12, "isName", "(I)Z"⟩
abbrev cX12_named : ByteArray := prog_14_method_35_code
def yX12_named : MethodName := ⟨RX12, "named", "(I)J"⟩
abbrev cX12_isDigit : ByteArray := prog_14_method_36_code
def yX12_isDigit : MethodName := ⟨RX12, "isDigit", "(J)Z"⟩
abbrev cX12_workRules : ByteArray := prog_14_method_37_code
def yX12_workRules : MethodName := ⟨RX12, "workRules", "()V"⟩
abbrev cX12_fault : ByteArray := prog_14_method_38_code
def yX12_fault : MethodName := ⟨RX12, "fault", "()I"⟩
abbrev cX12_gauge : ByteArray := prog_14_method_39_code
def yX12_gauge : MethodName := ⟨RX12, "gauge", "(I)J"⟩
abbrev cX12_isOpen : ByteArray := prog_14_method_40_code
def yX12_isOpen : MethodName := ⟨RX12, "isOpen", "(I)Z"⟩
abbrev cX12_isAhead : ByteArray := prog_14_method_41_code
def yX12_isAhead : MethodName := ⟨RX12, "isAhead", "(II)Z"⟩
abbrev cX12_findLine : ByteArray := prog_14_method_42_code
def yX12_findLine : MethodName := ⟨RX12, "findLine", "()V"⟩
abbrev cX12_mayHave : ByteArray := prog_14_method_43_code
def yX12_mayHave : MethodName := ⟨RX12, "mayHave", "(II)Z"⟩
abbrev cX12_place : ByteArray := prog_14_method_44_code
def yX12_place : MethodName := ⟨RX12, "place", "(I)V"⟩
abbrev cX12_drawn : ByteArray := prog_14_method_45_code
def yX12_drawn : MethodName := ⟨RX12, "drawn", "(I)J"⟩
abbrev cX12_still : ByteArray := prog_14_method_46_code
def yX12_still : MethodName := ⟨RX12, "still", "(II)V"⟩
abbrev cX12_trip : ByteArray := prog_14_method_47_code
def yX12_trip : MethodName := ⟨RX12, "trip", "(I)V"⟩
abbrev cX12_less : ByteArray := prog_14_method_48_code
def yX12_less : MethodName := ⟨RX12, "less", "(JJ)J"⟩
abbrev cX12_allDrawn : ByteArray := prog_14_method_49_code
def yX12_allDrawn : MethodName := ⟨RX12, "allDrawn", "()J"⟩
abbrev cX12_supply : ByteArray := prog_14_method_50_code
def yX12_supply : MethodName := ⟨RX12, "supply", "()V"⟩
abbrev cX12_warm : ByteArray := prog_14_method_51_code
def yX12_warm : MethodName := ⟨RX12, "warm", "()V"⟩
abbrev cX12_exchange : ByteArray := prog_14_method_52_code
def yX12_exchange : MethodName := ⟨RX12, "exchange", "(II)V"⟩
abbrev cX12_fail : ByteArray := prog_14_method_53_code
def yX12_fail : MethodName := ⟨RX12, "fail", "()V"⟩
abbrev cX12_finish : ByteArray := prog_14_method_54_code
def yX12_finish : MethodName := ⟨RX12, "finish", "(I)V"⟩
abbrev cX12_minute : ByteArray := prog_14_method_55_code
def yX12_minute : MethodName := ⟨RX12, "minute", "()V"⟩
abbrev cX12_broken : ByteArray := prog_14_method_56_code
def yX12_broken : MethodName := ⟨RX12, "broken", "()I"⟩
abbrev cX12_allHeat : ByteArray := prog_14_method_57_code
def yX12_allHeat : MethodName := ⟨RX12, "allHeat", "()J"⟩
abbrev cX12_minutes : ByteArray := prog_14_method_58_code
def yX12_minutes : MethodName := ⟨RX12, "minutes", "(I)I"⟩
abbrev cX12_cell : ByteArray := prog_14_method_59_code
def yX12_cell : MethodName := ⟨RX12, "cell", "(II)I"⟩
abbrev cX12_isMachine : ByteArray := prog_14_method_60_code
def yX12_isMachine : MethodName := ⟨RX12, "isMachine", "(I)Z"⟩
abbrev cX12_of : ByteArray := prog_14_method_61_code
def yX12_of : MethodName := ⟨RX12, "of", "(II)I"⟩
abbrev cX12_isWork : ByteArray := prog_14_method_62_code
def yX12_isWork : MethodName := ⟨RX12, "isWork", "(I)Z"⟩
abbrev cX12_work : ByteArray := prog_14_method_63_code
def yX12_work : MethodName := ⟨RX12, "work", "(II)I"⟩
abbrev cX12_now : ByteArray := prog_14_method_64_code
def yX12_now : MethodName := ⟨RX12, "now", "(I)J"⟩
abbrev cX12_findPlacing : ByteArray := prog_14_method_65_code
def yX12_findPlacing : MethodName := ⟨RX12, "findPlacing", "(I)V"⟩
abbrev cX12_findOpen : ByteArray := prog_14_method_66_code
def yX12_findOpen : MethodName := ⟨RX12, "findOpen", "()I"⟩
abbrev cX12_placing : ByteArray := prog_14_method_67_code
def yX12_placing : MethodName := ⟨RX12, "placing", "(I)I"⟩
abbrev cX12_bitsIn : ByteArray := prog_14_method_68_code
def yX12_bitsIn : MethodName := ⟨RX12, "bitsIn", "(I)I"⟩
abbrev cX12_without : ByteArray := prog_14_method_69_code
def yX12_without : MethodName := ⟨RX12, "without", "(I)I"⟩
abbrev cX12_brought : ByteArray := prog_14_method_70_code
def yX12_brought : MethodName := ⟨RX12, "brought", "(JJJ)J"⟩
abbrev cX12_other : ByteArray := prog_14_method_71_code
def yX12_other : MethodName := ⟨RX12, "other", "(IIII)J"⟩
abbrev cX12_times : ByteArray := prog_14_method_72_code
def yX12_times : MethodName := ⟨RX12, "times", "(J)V"⟩
abbrev cX12_isWider : ByteArray := prog_14_method_73_code
def yX12_isWider : MethodName := ⟨RX12, "isWider", "()Z"⟩
abbrev cX12_fitted : ByteArray := prog_14_method_74_code
def yX12_fitted : MethodName := ⟨RX12, "fitted", "()I"⟩
abbrev cX12_drill : ByteArray := prog_14_method_75_code
def yX12_drill : MethodName := ⟨RX12, "drill", "(IIII)I"⟩
abbrev cX12_worst : ByteArray := prog_14_method_76_code
def yX12_worst : MethodName := ⟨RX12, "worst", "(I)I"⟩
abbrev cX12_bill : ByteArray := prog_14_method_77_code
def yX12_bill : MethodName := ⟨RX12, "bill", "(I)I"⟩
abbrev cX12_begin : ByteArray := prog_14_method_78_code
def yX12_begin : MethodName := ⟨RX12, "begin", "()I"⟩
abbrev cX12_record : ByteArray := prog_14_method_79_code
def yX12_record : MethodName := ⟨RX12, "record", "(I)J"⟩
abbrev cX12_forge : ByteArray := prog_14_method_80_code
def yX12_forge : MethodName := ⟨RX12, "forge", "(IJ)I"⟩
abbrev cX12_check : ByteArray := prog_14_method_81_code
def yX12_check : MethodName := ⟨RX12, "check", "()I"⟩
abbrev cX12_image : ByteArray := prog_14_method_82_code
def yX12_image : MethodName := ⟨RX12, "image", "(I)I"⟩
abbrev cX12_from : ByteArray := prog_14_method_83_code
def yX12_from : MethodName := ⟨RX12, "from", "(I)I"⟩
abbrev cX12_overs : ByteArray := prog_14_method_84_code
def yX12_overs : MethodName := ⟨RX12, "overs", "(I)I"⟩
abbrev cX12_count : ByteArray := prog_14_method_85_code
def yX12_count : MethodName := ⟨RX12, "count", "(I)I"⟩
abbrev cX12_digest : ByteArray := prog_14_method_86_code
def yX12_digest : MethodName := ⟨RX12, "digest", "()J"⟩
def RJx145de : String := "java/io/Serializable"
def TJx145de : u_T := fun k => match k with
  | _ => ("", "", "", false)
def tyJx145de : Nat → FieldType := fun k => match k with
  | _ => .int
abbrev wsJx145de0 : List Cond := u_ws RJx145de TJx145de 0
theorem nmJx145de : ∀ a, a < 0 → ∀ b, b < 0 → a ≠ b → (TJx145de a).2.1 ≠ (TJx145de b).2.1 := by decide +kernel
theorem tyJx145de_ok : ∀ k, k < 0 → parseFieldDescriptor (TJx145de k).2.2.1 = some (tyJx145de k) := by decide +kernel
def RJx9f9b0 : String := "java/lang/CharSequence"
def TJx9f9b0 : u_T := fun k => match k with
  | _ => ("", "", "", false)
def tyJx9f9b0 : Nat → FieldType := fun k => match k with
  | _ => .int
abbrev wsJx9f9b00 : List Cond := u_ws RJx9f9b0 TJx9f9b0 0
theorem nmJx9f9b0 : ∀ a, a < 0 → ∀ b, b < 0 → a ≠ b → (TJx9f9b0 a).2.1 ≠ (TJx9f9b0 b).2.1 := by decide +kernel
theorem tyJx9f9b0_ok : ∀ k, k < 0 → parseFieldDescriptor (TJx9f9b0 k).2.2.1 = some (tyJx9f9b0 k) := by decide +kernel
def RJ11 : String := "java/lang/Character"
def TJ11 : u_T := fun k => match k with
  | _ => ("", "", "", false)
def tyJ11 : Nat → FieldType := fun k => match k with
  | _ => .int
abbrev wsJ110 : List Cond := u_ws RJ11 TJ11 0
theorem nmJ11 : ∀ a, a < 0 → ∀ b, b < 0 → a ≠ b → (TJ11 a).2.1 ≠ (TJ11 b).2.1 := by decide +kernel
theorem tyJ11_ok : ∀ k, k < 0 → parseFieldDescriptor (TJ11 k).2.2.1 = some (tyJ11 k) := by decide +kernel
abbrev cJ11_isValidCodePoint_9a6ad : ByteArray := prog_15_method_11_code
def yJ11_isValidCodePoint_9a6ad : MethodName := ⟨RJ11, "isValidCodePoint", "(I)Z"⟩
abbrev cJ11_highSurrogate_5068e : ByteArray := prog_15_method_28_code
def yJ11_highSurrogate_5068e : MethodName := ⟨RJ11, "highSurrogate", "(I)C"⟩
abbrev cJ11_lowSurrogate_5068e : ByteArray := prog_15_method_29_code
def yJ11_lowSurrogate_5068e : MethodName := ⟨RJ11, "lowSurrogate", "(I)C"⟩
def RJxb160c : String := "java/lang/Comparable"
def TJxb160c : u_T := fun k => match k with
  | _ => ("", "", "", false)
def tyJxb160c : Nat → FieldType := fun k => match k with
  | _ => .int
abbrev wsJxb160c0 : List Cond := u_ws RJxb160c TJxb160c 0
theorem nmJxb160c : ∀ a, a < 0 → ∀ b, b < 0 → a ≠ b → (TJxb160c a).2.1 ≠ (TJxb160c b).2.1 := by decide +kernel
theorem tyJxb160c_ok : ∀ k, k < 0 → parseFieldDescriptor (TJxb160c k).2.2.1 = some (tyJxb160c k) := by decide +kernel
def RJ6 : String := "java/lang/Integer"
def TJ6 : u_T := fun k => match k with
  | _ => ("", "", "", false)
def tyJ6 : Nat → FieldType := fun k => match k with
  | _ => .int
abbrev wsJ60 : List Cond := u_ws RJ6 TJ6 0
theorem nmJ6 : ∀ a, a < 0 → ∀ b, b < 0 → a ≠ b → (TJ6 a).2.1 ≠ (TJ6 b).2.1 := by decide +kernel
theorem tyJ6_ok : ∀ k, k < 0 → parseFieldDescriptor (TJ6 k).2.2.1 = some (tyJ6 k) := by decide +kernel
abbrev cJ6_bitCount_0f7a4 : ByteArray := prog_16_method_49_code
def yJ6_bitCount_0f7a4 : MethodName := ⟨RJ6, "bitCount", "(I)I"⟩
def RJ9 : String := "java/lang/Math"
def TJ9 : u_T := fun k => match k with
  | _ => ("", "", "", false)
def tyJ9 : Nat → FieldType := fun k => match k with
  | _ => .int
abbrev wsJ90 : List Cond := u_ws RJ9 TJ9 0
theorem nmJ9 : ∀ a, a < 0 → ∀ b, b < 0 → a ≠ b → (TJ9 a).2.1 ≠ (TJ9 b).2.1 := by decide +kernel
theorem tyJ9_ok : ∀ k, k < 0 → parseFieldDescriptor (TJ9 k).2.2.1 = some (tyJ9 k) := by decide +kernel
abbrev cJ9_floorMod_7cf53 : ByteArray := prog_17_method_50_code
def yJ9_floorMod_7cf53 : MethodName := ⟨RJ9, "floorMod", "(II)I"⟩
abbrev cJ9_max_7cf53 : ByteArray := prog_17_method_65_code
def yJ9_max_7cf53 : MethodName := ⟨RJ9, "max", "(II)I"⟩
abbrev cJ9_max_f86c9 : ByteArray := prog_17_method_66_code
def yJ9_max_f86c9 : MethodName := ⟨RJ9, "max", "(JJ)J"⟩
abbrev cJ9_min_7cf53 : ByteArray := prog_17_method_69_code
def yJ9_min_7cf53 : MethodName := ⟨RJ9, "min", "(II)I"⟩
abbrev cJ9_min_f86c9 : ByteArray := prog_17_method_70_code
def yJ9_min_f86c9 : MethodName := ⟨RJ9, "min", "(JJ)J"⟩
def RJ0 : String := "java/lang/String"
def TJ0 : u_T := fun k => match k with
  | _ => ("", "", "", false)
def tyJ0 : Nat → FieldType := fun k => match k with
  | _ => .int
abbrev wsJ00 : List Cond := u_ws RJ0 TJ0 0
theorem nmJ0 : ∀ a, a < 0 → ∀ b, b < 0 → a ≠ b → (TJ0 a).2.1 ≠ (TJ0 b).2.1 := by decide +kernel
theorem tyJ0_ok : ∀ k, k < 0 → parseFieldDescriptor (TJ0 k).2.2.1 = some (tyJ0 k) := by decide +kernel
abbrev cJ0_length_8abf5 : ByteArray := prog_18_method_54_code
def yJ0_length_8abf5 : MethodName := ⟨RJ0, "length", "()I"⟩
abbrev cJ0_indexOf_0f7a4 : ByteArray := prog_18_method_79_code
def yJ0_indexOf_0f7a4 : MethodName := ⟨RJ0, "indexOf", "(I)I"⟩
abbrev cJ0_indexOf_7cf53 : ByteArray := prog_18_method_80_code
def yJ0_indexOf_7cf53 : MethodName := ⟨RJ0, "indexOf", "(II)I"⟩
abbrev cJ0_coder_7d493 : ByteArray := prog_18_method_152_code
def yJ0_coder_7d493 : MethodName := ⟨RJ0, "coder", "()B"⟩
abbrev cJ0_isLatin1_aae02 : ByteArray := prog_18_method_154_code
def yJ0_isLatin1_aae02 : MethodName := ⟨RJ0, "isLatin1", "()Z"⟩
abbrev cJ0_checkBoundsBeginEnd_23922 : ByteArray := prog_18_method_158_code
def yJ0_checkBoundsBeginEnd_23922 : MethodName := ⟨RJ0, "checkBoundsBeginEnd", "(III)V"⟩
def RJ1 : String := "java/lang/StringLatin1"
def TJ1 : u_T := fun k => match k with
  | _ => ("", "", "", false)
def tyJ1 : Nat → FieldType := fun k => match k with
  | _ => .int
abbrev wsJ10 : List Cond := u_ws RJ1 TJ1 0
theorem nmJ1 : ∀ a, a < 0 → ∀ b, b < 0 → a ≠ b → (TJ1 a).2.1 ≠ (TJ1 b).2.1 := by decide +kernel
theorem tyJ1_ok : ∀ k, k < 0 → parseFieldDescriptor (TJ1 k).2.2.1 = some (tyJ1 k) := by decide +kernel
abbrev cJ1_canEncode_9a6ad : ByteArray := prog_19_method_4_code
def yJ1_canEncode_9a6ad : MethodName := ⟨RJ1, "canEncode", "(I)Z"⟩
abbrev cJ1_indexOf_4cfef : ByteArray := prog_19_method_22_code
def yJ1_indexOf_4cfef : MethodName := ⟨RJ1, "indexOf", "([BIII)I"⟩
abbrev cJ1_indexOfChar_4cfef : ByteArray := prog_19_method_23_code
def yJ1_indexOfChar_4cfef : MethodName := ⟨RJ1, "indexOfChar", "([BIII)I"⟩
def RJ2 : String := "java/lang/StringUTF16"
def TJ2 : u_T := fun k => match k with
  | _ => ("", "", "", false)
def tyJ2 : Nat → FieldType := fun k => match k with
  | _ => .int
abbrev wsJ20 : List Cond := u_ws RJ2 TJ2 0
theorem nmJ2 : ∀ a, a < 0 → ∀ b, b < 0 → a ≠ b → (TJ2 a).2.1 ≠ (TJ2 b).2.1 := by decide +kernel
theorem tyJ2_ok : ∀ k, k < 0 → parseFieldDescriptor (TJ2 k).2.2.1 = some (tyJ2 k) := by decide +kernel
abbrev cJ2_getChar_3b067 : ByteArray := prog_20_method_5_code
def yJ2_getChar_3b067 : MethodName := ⟨RJ2, "getChar", "([BI)C"⟩
abbrev cJ2_length_9d52b : ByteArray := prog_20_method_6_code
def yJ2_length_9d52b : MethodName := ⟨RJ2, "length", "([B)I"⟩
abbrev cJ2_indexOf_4cfef : ByteArray := prog_20_method_40_code
def yJ2_indexOf_4cfef : MethodName := ⟨RJ2, "indexOf", "([BIII)I"⟩
abbrev cJ2_indexOfChar_4cfef : ByteArray := prog_20_method_47_code
def yJ2_indexOfChar_4cfef : MethodName := ⟨RJ2, "indexOfChar", "([BIII)I"⟩
abbrev cJ2_indexOfCharUnsafe_4cfef : ByteArray := prog_20_method_48_code
def yJ2_indexOfCharUnsafe_4cfef : MethodName := ⟨RJ2, "indexOfCharUnsafe", "([BIII)I"⟩
abbrev cJ2_indexOfSupplementary_4cfef : ByteArray := prog_20_method_49_code
def yJ2_indexOfSupplementary_4cfef : MethodName := ⟨RJ2, "indexOfSupplementary", "([BIII)I"⟩
abbrev cJ2_checkBoundsBeginEnd_d044e : ByteArray := prog_20_method_93_code
def yJ2_checkBoundsBeginEnd_d044e : MethodName := ⟨RJ2, "checkBoundsBeginEnd", "(II[B)V"⟩
def RJ10 : String := "java/lang/System"
def TJ10 : u_T := fun k => match k with
  | _ => ("", "", "", false)
def tyJ10 : Nat → FieldType := fun k => match k with
  | _ => .int
abbrev wsJ100 : List Cond := u_ws RJ10 TJ10 0
theorem nmJ10 : ∀ a, a < 0 → ∀ b, b < 0 → a ≠ b → (TJ10 a).2.1 ≠ (TJ10 b).2.1 := by decide +kernel
theorem tyJ10_ok : ∀ k, k < 0 → parseFieldDescriptor (TJ10 k).2.2.1 = some (tyJ10 k) := by decide +kernel
def RJxfd54e : String := "java/lang/constant/Constable"
def TJxfd54e : u_T := fun k => match k with
  | _ => ("", "", "", false)
def tyJxfd54e : Nat → FieldType := fun k => match k with
  | _ => .int
abbrev wsJxfd54e0 : List Cond := u_ws RJxfd54e TJxfd54e 0
theorem nmJxfd54e : ∀ a, a < 0 → ∀ b, b < 0 → a ≠ b → (TJxfd54e a).2.1 ≠ (TJxfd54e b).2.1 := by decide +kernel
theorem tyJxfd54e_ok : ∀ k, k < 0 → parseFieldDescriptor (TJxfd54e k).2.2.1 = some (tyJxfd54e k) := by decide +kernel
def RJx3cf43 : String := "java/lang/constant/ConstantDesc"
def TJx3cf43 : u_T := fun k => match k with
  | _ => ("", "", "", false)
def tyJx3cf43 : Nat → FieldType := fun k => match k with
  | _ => .int
abbrev wsJx3cf430 : List Cond := u_ws RJx3cf43 TJx3cf43 0
theorem nmJx3cf43 : ∀ a, a < 0 → ∀ b, b < 0 → a ≠ b → (TJx3cf43 a).2.1 ≠ (TJx3cf43 b).2.1 := by decide +kernel
theorem tyJx3cf43_ok : ∀ k, k < 0 → parseFieldDescriptor (TJx3cf43 k).2.2.1 = some (tyJx3cf43 k) := by decide +kernel
def RJ7 : String := "java/util/Arrays"
def TJ7 : u_T := fun k => match k with
  | _ => ("", "", "", false)
def tyJ7 : Nat → FieldType := fun k => match k with
  | _ => .int
abbrev wsJ70 : List Cond := u_ws RJ7 TJ7 0
theorem nmJ7 : ∀ a, a < 0 → ∀ b, b < 0 → a ≠ b → (TJ7 a).2.1 ≠ (TJ7 b).2.1 := by decide +kernel
theorem tyJ7_ok : ∀ k, k < 0 → parseFieldDescriptor (TJ7 k).2.2.1 = some (tyJ7 k) := by decide +kernel
abbrev cJ7_fill_d0a16 : ByteArray := prog_22_method_101_code
def yJ7_fill_d0a16 : MethodName := ⟨RJ7, "fill", "([JJ)V"⟩
abbrev cJ7_fill_53178 : ByteArray := prog_22_method_103_code
def yJ7_fill_53178 : MethodName := ⟨RJ7, "fill", "([II)V"⟩
def RJ3 : String := "jdk/internal/util/Preconditions"
def TJ3 : u_T := fun k => match k with
  | _ => ("", "", "", false)
def tyJ3 : Nat → FieldType := fun k => match k with
  | _ => .int
abbrev wsJ30 : List Cond := u_ws RJ3 TJ3 0
theorem nmJ3 : ∀ a, a < 0 → ∀ b, b < 0 → a ≠ b → (TJ3 a).2.1 ≠ (TJ3 b).2.1 := by decide +kernel
theorem tyJ3_ok : ∀ k, k < 0 → parseFieldDescriptor (TJ3 k).2.2.1 = some (tyJ3 k) := by decide +kernel
abbrev cJ3_checkFromToIndex_8c36e : ByteArray := prog_23_method_12_code
def yJ3_checkFromToIndex_8c36e : MethodName := ⟨RJ3, "checkFromToIndex", "(IIILjava/util/function/BiFunction;)I"⟩
def RL : String := "HotHallLaw"
abbrev cL_law : ByteArray := code
def yL_law : MethodName := ⟨RL, "law", "([I)Z"⟩
abbrev vwCl : List vw_C := [(RX0, TX0, 9), (RX1, TX1, 4), (RX2, TX2, 3), (RX3, TX3, 3), (RX4, TX4, 9), (RX5, TX5, 6), (RX6, TX6, 11), (RX7, TX7, 7), (RX8, TX8, 9), (RX9, TX9, 13), (RX10, TX10, 16), (RX11, TX11, 8), (RX12, TX12, 31)]
