section
-- ===== PART A: goes FIRST, ahead of the names: the tables' words, and 'selects' of the private methods out of them =====
/-- a private method of a class that the tables say can be made, by its rows of tables_1 -/
def lw_okq (q : MethodName × Nat) : Prop := (q.1.cls ≠ "java/lang/invoke/MethodHandle" ∧ q.1.cls ≠ "java/lang/invoke/VarHandle") ∧ Cond.instantiable q.1.cls q.2 ∈ tables_1 ∧ Cond.privateMethod q.1 ∈ tables_1 ∧ Cond.instanceMethod q.1 ∈ tables_1
theorem lw_p0 : lw_okq (⟨"ArbitratedBus$FrameList", "has", "(I)Z"⟩, 4) := ⟨⟨by decide +kernel, by decide +kernel⟩, List.mem_of_getElem? (i := 96) (by decide +kernel), List.mem_of_getElem? (i := 409) (by decide +kernel), List.mem_of_getElem? (i := 410) (by decide +kernel)⟩
theorem lw_p1 : lw_okq (⟨"ArbitratedBus$Node", "levelToDrive", "()I"⟩, 19) := ⟨⟨by decide +kernel, by decide +kernel⟩, List.mem_of_getElem? (i := 53) (by decide +kernel), List.mem_of_getElem? (i := 488) (by decide +kernel), List.mem_of_getElem? (i := 489) (by decide +kernel)⟩
theorem lw_p2 : lw_okq (⟨"ArbitratedBus$Node", "actBusOff", "(I)V"⟩, 19) := ⟨⟨by decide +kernel, by decide +kernel⟩, List.mem_of_getElem? (i := 53) (by decide +kernel), List.mem_of_getElem? (i := 520) (by decide +kernel), List.mem_of_getElem? (i := 521) (by decide +kernel)⟩
theorem lw_p3 : lw_okq (⟨"ArbitratedBus$Node", "actJoining", "(I)V"⟩, 19) := ⟨⟨by decide +kernel, by decide +kernel⟩, List.mem_of_getElem? (i := 53) (by decide +kernel), List.mem_of_getElem? (i := 525) (by decide +kernel), List.mem_of_getElem? (i := 526) (by decide +kernel)⟩
theorem lw_p4 : lw_okq (⟨"ArbitratedBus$Node", "actIdle", "(I)V"⟩, 19) := ⟨⟨by decide +kernel, by decide +kernel⟩, List.mem_of_getElem? (i := 53) (by decide +kernel), List.mem_of_getElem? (i := 529) (by decide +kernel), List.mem_of_getElem? (i := 530) (by decide +kernel)⟩
theorem lw_p5 : lw_okq (⟨"ArbitratedBus$Node", "beginFrame", "(Z)V"⟩, 19) := ⟨⟨by decide +kernel, by decide +kernel⟩, List.mem_of_getElem? (i := 53) (by decide +kernel), List.mem_of_getElem? (i := 533) (by decide +kernel), List.mem_of_getElem? (i := 534) (by decide +kernel)⟩
theorem lw_p6 : lw_okq (⟨"ArbitratedBus$Node", "fail", "(I)V"⟩, 19) := ⟨⟨by decide +kernel, by decide +kernel⟩, List.mem_of_getElem? (i := 53) (by decide +kernel), List.mem_of_getElem? (i := 556) (by decide +kernel), List.mem_of_getElem? (i := 557) (by decide +kernel)⟩
theorem lw_p7 : lw_okq (⟨"ArbitratedBus$Node", "raiseReceiveCounter", "(I)V"⟩, 19) := ⟨⟨by decide +kernel, by decide +kernel⟩, List.mem_of_getElem? (i := 53) (by decide +kernel), List.mem_of_getElem? (i := 564) (by decide +kernel), List.mem_of_getElem? (i := 565) (by decide +kernel)⟩
theorem lw_p8 : lw_okq (⟨"ArbitratedBus$Node", "actStuffedPart", "(I)V"⟩, 19) := ⟨⟨by decide +kernel, by decide +kernel⟩, List.mem_of_getElem? (i := 53) (by decide +kernel), List.mem_of_getElem? (i := 576) (by decide +kernel), List.mem_of_getElem? (i := 577) (by decide +kernel)⟩
theorem lw_p9 : lw_okq (⟨"ArbitratedBus$Node", "actBasicBit", "(I)V"⟩, 19) := ⟨⟨by decide +kernel, by decide +kernel⟩, List.mem_of_getElem? (i := 53) (by decide +kernel), List.mem_of_getElem? (i := 581) (by decide +kernel), List.mem_of_getElem? (i := 582) (by decide +kernel)⟩
theorem lw_p10 : lw_okq (⟨"ArbitratedBus$Node", "actTail", "(I)V"⟩, 19) := ⟨⟨by decide +kernel, by decide +kernel⟩, List.mem_of_getElem? (i := 53) (by decide +kernel), List.mem_of_getElem? (i := 609) (by decide +kernel), List.mem_of_getElem? (i := 610) (by decide +kernel)⟩
theorem lw_p11 : lw_okq (⟨"ArbitratedBus$Node", "endFrame", "(I)V"⟩, 19) := ⟨⟨by decide +kernel, by decide +kernel⟩, List.mem_of_getElem? (i := 53) (by decide +kernel), List.mem_of_getElem? (i := 613) (by decide +kernel), List.mem_of_getElem? (i := 614) (by decide +kernel)⟩
theorem lw_p12 : lw_okq (⟨"ArbitratedBus$Node", "acceptFrame", "()V"⟩, 19) := ⟨⟨by decide +kernel, by decide +kernel⟩, List.mem_of_getElem? (i := 53) (by decide +kernel), List.mem_of_getElem? (i := 619) (by decide +kernel), List.mem_of_getElem? (i := 620) (by decide +kernel)⟩
theorem lw_p13 : lw_okq (⟨"ArbitratedBus$Node", "actFlag", "()V"⟩, 19) := ⟨⟨by decide +kernel, by decide +kernel⟩, List.mem_of_getElem? (i := 53) (by decide +kernel), List.mem_of_getElem? (i := 631) (by decide +kernel), List.mem_of_getElem? (i := 632) (by decide +kernel)⟩
theorem lw_p14 : lw_okq (⟨"ArbitratedBus$Node", "actDelimiter", "(I)V"⟩, 19) := ⟨⟨by decide +kernel, by decide +kernel⟩, List.mem_of_getElem? (i := 53) (by decide +kernel), List.mem_of_getElem? (i := 635) (by decide +kernel), List.mem_of_getElem? (i := 636) (by decide +kernel)⟩
theorem lw_p15 : lw_okq (⟨"ArbitratedBus$Node", "actIntermission", "(I)V"⟩, 19) := ⟨⟨by decide +kernel, by decide +kernel⟩, List.mem_of_getElem? (i := 53) (by decide +kernel), List.mem_of_getElem? (i := 639) (by decide +kernel), List.mem_of_getElem? (i := 640) (by decide +kernel)⟩
def lw_privs_1 : List (MethodName × Nat) := [(⟨"ArbitratedBus$FrameList", "has", "(I)Z"⟩, 4), (⟨"ArbitratedBus$Node", "levelToDrive", "()I"⟩, 19), (⟨"ArbitratedBus$Node", "actBusOff", "(I)V"⟩, 19), (⟨"ArbitratedBus$Node", "actJoining", "(I)V"⟩, 19), (⟨"ArbitratedBus$Node", "actIdle", "(I)V"⟩, 19), (⟨"ArbitratedBus$Node", "beginFrame", "(Z)V"⟩, 19), (⟨"ArbitratedBus$Node", "fail", "(I)V"⟩, 19), (⟨"ArbitratedBus$Node", "raiseReceiveCounter", "(I)V"⟩, 19), (⟨"ArbitratedBus$Node", "actStuffedPart", "(I)V"⟩, 19), (⟨"ArbitratedBus$Node", "actBasicBit", "(I)V"⟩, 19), (⟨"ArbitratedBus$Node", "actTail", "(I)V"⟩, 19), (⟨"ArbitratedBus$Node", "endFrame", "(I)V"⟩, 19), (⟨"ArbitratedBus$Node", "acceptFrame", "()V"⟩, 19), (⟨"ArbitratedBus$Node", "actFlag", "()V"⟩, 19), (⟨"ArbitratedBus$Node", "actDelimiter", "(I)V"⟩, 19), (⟨"ArbitratedBus$Node", "actIntermission", "(I)V"⟩, 19)]
theorem lw_r1 : ∀ q ∈ lw_privs_1, lw_okq q := List.forall_mem_cons.mpr ⟨lw_p0, List.forall_mem_cons.mpr ⟨lw_p1, List.forall_mem_cons.mpr ⟨lw_p2, List.forall_mem_cons.mpr ⟨lw_p3, List.forall_mem_cons.mpr ⟨lw_p4, List.forall_mem_cons.mpr ⟨lw_p5, List.forall_mem_cons.mpr ⟨lw_p6, List.forall_mem_cons.mpr ⟨lw_p7, List.forall_mem_cons.mpr ⟨lw_p8, List.forall_mem_cons.mpr ⟨lw_p9, List.forall_mem_cons.mpr ⟨lw_p10, List.forall_mem_cons.mpr ⟨lw_p11, List.forall_mem_cons.mpr ⟨lw_p12, List.forall_mem_cons.mpr ⟨lw_p13, List.forall_mem_cons.mpr ⟨lw_p14, List.forall_mem_cons.mpr ⟨lw_p15, fun _ h => absurd h List.not_mem_nil⟩⟩⟩⟩⟩⟩⟩⟩⟩⟩⟩⟩⟩⟩⟩⟩
theorem lw_p16 : lw_okq (⟨"ArbitratedBus$Node", "actSuspend", "(I)V"⟩, 19) := ⟨⟨by decide +kernel, by decide +kernel⟩, List.mem_of_getElem? (i := 53) (by decide +kernel), List.mem_of_getElem? (i := 643) (by decide +kernel), List.mem_of_getElem? (i := 644) (by decide +kernel)⟩
theorem lw_p17 : lw_okq (⟨"ArbitratedBus", "walk", "(IIII)I"⟩, 7) := ⟨⟨by decide +kernel, by decide +kernel⟩, List.mem_of_getElem? (i := 16) (by decide +kernel), List.mem_of_getElem? (i := 802) (by decide +kernel), List.mem_of_getElem? (i := 803) (by decide +kernel)⟩
theorem lw_p18 : lw_okq (⟨"ArbitratedBus$Messages", "blockingOf", "(I)I"⟩, 5) := ⟨⟨by decide +kernel, by decide +kernel⟩, List.mem_of_getElem? (i := 270) (by decide +kernel), List.mem_of_getElem? (i := 859) (by decide +kernel), List.mem_of_getElem? (i := 860) (by decide +kernel)⟩
theorem lw_p19 : lw_okq (⟨"ArbitratedBus$Messages", "interference", "(II)I"⟩, 5) := ⟨⟨by decide +kernel, by decide +kernel⟩, List.mem_of_getElem? (i := 270) (by decide +kernel), List.mem_of_getElem? (i := 863) (by decide +kernel), List.mem_of_getElem? (i := 864) (by decide +kernel)⟩
theorem lw_p20 : lw_okq (⟨"ArbitratedBus$RequestReader", "stateAfter", "(I)I"⟩, 6) := ⟨⟨by decide +kernel, by decide +kernel⟩, List.mem_of_getElem? (i := 300) (by decide +kernel), List.mem_of_getElem? (i := 899) (by decide +kernel), List.mem_of_getElem? (i := 900) (by decide +kernel)⟩
theorem lw_p21 : lw_okq (⟨"ArbitratedBus$RequestReader", "stateAfterData", "(I)I"⟩, 6) := ⟨⟨by decide +kernel, by decide +kernel⟩, List.mem_of_getElem? (i := 300) (by decide +kernel), List.mem_of_getElem? (i := 907) (by decide +kernel), List.mem_of_getElem? (i := 908) (by decide +kernel)⟩
theorem lw_p22 : lw_okq (⟨"ArbitratedBus$RequestReader", "keepValue", "(I)V"⟩, 6) := ⟨⟨by decide +kernel, by decide +kernel⟩, List.mem_of_getElem? (i := 300) (by decide +kernel), List.mem_of_getElem? (i := 911) (by decide +kernel), List.mem_of_getElem? (i := 912) (by decide +kernel)⟩
theorem lw_p23 : lw_okq (⟨"ArbitratedBus", "requestRead", "(LArbitratedBus$RequestReader;)Z"⟩, 7) := ⟨⟨by decide +kernel, by decide +kernel⟩, List.mem_of_getElem? (i := 16) (by decide +kernel), List.mem_of_getElem? (i := 930) (by decide +kernel), List.mem_of_getElem? (i := 931) (by decide +kernel)⟩
theorem lw_p24 : lw_okq (⟨"ArbitratedBusModel", "onBus", "(II)I"⟩, 11) := ⟨⟨by decide +kernel, by decide +kernel⟩, List.mem_of_getElem? (i := 960) (by decide +kernel), List.mem_of_getElem? (i := 1026) (by decide +kernel), List.mem_of_getElem? (i := 1027) (by decide +kernel)⟩
theorem lw_p25 : lw_okq (⟨"ArbitratedBusModel", "answerFor", "(II)I"⟩, 11) := ⟨⟨by decide +kernel, by decide +kernel⟩, List.mem_of_getElem? (i := 960) (by decide +kernel), List.mem_of_getElem? (i := 1056) (by decide +kernel), List.mem_of_getElem? (i := 1057) (by decide +kernel)⟩
theorem lw_p26 : lw_okq (⟨"ArbitratedBusModel", "goes", "(II)V"⟩, 11) := ⟨⟨by decide +kernel, by decide +kernel⟩, List.mem_of_getElem? (i := 960) (by decide +kernel), List.mem_of_getElem? (i := 1071) (by decide +kernel), List.mem_of_getElem? (i := 1072) (by decide +kernel)⟩
theorem lw_p27 : lw_okq (⟨"ArbitratedBusModel", "releases", "(I)V"⟩, 11) := ⟨⟨by decide +kernel, by decide +kernel⟩, List.mem_of_getElem? (i := 960) (by decide +kernel), List.mem_of_getElem? (i := 1075) (by decide +kernel), List.mem_of_getElem? (i := 1076) (by decide +kernel)⟩
theorem lw_p28 : lw_okq (⟨"ArbitratedBusModel", "isRoom", "(I)Z"⟩, 11) := ⟨⟨by decide +kernel, by decide +kernel⟩, List.mem_of_getElem? (i := 960) (by decide +kernel), List.mem_of_getElem? (i := 1090) (by decide +kernel), List.mem_of_getElem? (i := 1091) (by decide +kernel)⟩
theorem lw_p29 : lw_okq (⟨"ArbitratedBusModel", "waits", "(IIIII)V"⟩, 11) := ⟨⟨by decide +kernel, by decide +kernel⟩, List.mem_of_getElem? (i := 960) (by decide +kernel), List.mem_of_getElem? (i := 1094) (by decide +kernel), List.mem_of_getElem? (i := 1095) (by decide +kernel)⟩
theorem lw_p30 : lw_okq (⟨"ArbitratedBusModel", "unwaits", "(II)V"⟩, 11) := ⟨⟨by decide +kernel, by decide +kernel⟩, List.mem_of_getElem? (i := 960) (by decide +kernel), List.mem_of_getElem? (i := 1102) (by decide +kernel), List.mem_of_getElem? (i := 1103) (by decide +kernel)⟩
theorem lw_p31 : lw_okq (⟨"ArbitratedBusModel", "sentByAll", "()I"⟩, 11) := ⟨⟨by decide +kernel, by decide +kernel⟩, List.mem_of_getElem? (i := 960) (by decide +kernel), List.mem_of_getElem? (i := 1114) (by decide +kernel), List.mem_of_getElem? (i := 1115) (by decide +kernel)⟩
def lw_privs_2 : List (MethodName × Nat) := [(⟨"ArbitratedBus$Node", "actSuspend", "(I)V"⟩, 19), (⟨"ArbitratedBus", "walk", "(IIII)I"⟩, 7), (⟨"ArbitratedBus$Messages", "blockingOf", "(I)I"⟩, 5), (⟨"ArbitratedBus$Messages", "interference", "(II)I"⟩, 5), (⟨"ArbitratedBus$RequestReader", "stateAfter", "(I)I"⟩, 6), (⟨"ArbitratedBus$RequestReader", "stateAfterData", "(I)I"⟩, 6), (⟨"ArbitratedBus$RequestReader", "keepValue", "(I)V"⟩, 6), (⟨"ArbitratedBus", "requestRead", "(LArbitratedBus$RequestReader;)Z"⟩, 7), (⟨"ArbitratedBusModel", "onBus", "(II)I"⟩, 11), (⟨"ArbitratedBusModel", "answerFor", "(II)I"⟩, 11), (⟨"ArbitratedBusModel", "goes", "(II)V"⟩, 11), (⟨"ArbitratedBusModel", "releases", "(I)V"⟩, 11), (⟨"ArbitratedBusModel", "isRoom", "(I)Z"⟩, 11), (⟨"ArbitratedBusModel", "waits", "(IIIII)V"⟩, 11), (⟨"ArbitratedBusModel", "unwaits", "(II)V"⟩, 11), (⟨"ArbitratedBusModel", "sentByAll", "()I"⟩, 11)]
theorem lw_r2 : ∀ q ∈ lw_privs_2, lw_okq q := List.forall_mem_cons.mpr ⟨lw_p16, List.forall_mem_cons.mpr ⟨lw_p17, List.forall_mem_cons.mpr ⟨lw_p18, List.forall_mem_cons.mpr ⟨lw_p19, List.forall_mem_cons.mpr ⟨lw_p20, List.forall_mem_cons.mpr ⟨lw_p21, List.forall_mem_cons.mpr ⟨lw_p22, List.forall_mem_cons.mpr ⟨lw_p23, List.forall_mem_cons.mpr ⟨lw_p24, List.forall_mem_cons.mpr ⟨lw_p25, List.forall_mem_cons.mpr ⟨lw_p26, List.forall_mem_cons.mpr ⟨lw_p27, List.forall_mem_cons.mpr ⟨lw_p28, List.forall_mem_cons.mpr ⟨lw_p29, List.forall_mem_cons.mpr ⟨lw_p30, List.forall_mem_cons.mpr ⟨lw_p31, fun _ h => absurd h List.not_mem_nil⟩⟩⟩⟩⟩⟩⟩⟩⟩⟩⟩⟩⟩⟩⟩⟩
theorem lw_p32 : lw_okq (⟨"ArbitratedBusModel", "bit", "()V"⟩, 11) := ⟨⟨by decide +kernel, by decide +kernel⟩, List.mem_of_getElem? (i := 960) (by decide +kernel), List.mem_of_getElem? (i := 1118) (by decide +kernel), List.mem_of_getElem? (i := 1119) (by decide +kernel)⟩
theorem lw_p33 : lw_okq (⟨"ArbitratedBusModel", "drives", "(I)I"⟩, 11) := ⟨⟨by decide +kernel, by decide +kernel⟩, List.mem_of_getElem? (i := 960) (by decide +kernel), List.mem_of_getElem? (i := 1122) (by decide +kernel), List.mem_of_getElem? (i := 1123) (by decide +kernel)⟩
theorem lw_p34 : lw_okq (⟨"ArbitratedBusModel", "drivesFrame", "(I)I"⟩, 11) := ⟨⟨by decide +kernel, by decide +kernel⟩, List.mem_of_getElem? (i := 960) (by decide +kernel), List.mem_of_getElem? (i := 1126) (by decide +kernel), List.mem_of_getElem? (i := 1127) (by decide +kernel)⟩
theorem lw_p35 : lw_okq (⟨"ArbitratedBusModel", "isTransmitting", "(I)Z"⟩, 11) := ⟨⟨by decide +kernel, by decide +kernel⟩, List.mem_of_getElem? (i := 960) (by decide +kernel), List.mem_of_getElem? (i := 1130) (by decide +kernel), List.mem_of_getElem? (i := 1131) (by decide +kernel)⟩
theorem lw_p36 : lw_okq (⟨"ArbitratedBusModel", "isChecked", "(I)Z"⟩, 11) := ⟨⟨by decide +kernel, by decide +kernel⟩, List.mem_of_getElem? (i := 960) (by decide +kernel), List.mem_of_getElem? (i := 1134) (by decide +kernel), List.mem_of_getElem? (i := 1135) (by decide +kernel)⟩
theorem lw_p37 : lw_okq (⟨"ArbitratedBusModel", "total", "(I)I"⟩, 11) := ⟨⟨by decide +kernel, by decide +kernel⟩, List.mem_of_getElem? (i := 960) (by decide +kernel), List.mem_of_getElem? (i := 1138) (by decide +kernel), List.mem_of_getElem? (i := 1139) (by decide +kernel)⟩
theorem lw_p38 : lw_okq (⟨"ArbitratedBusModel", "sampledLength", "(I)I"⟩, 11) := ⟨⟨by decide +kernel, by decide +kernel⟩, List.mem_of_getElem? (i := 960) (by decide +kernel), List.mem_of_getElem? (i := 1142) (by decide +kernel), List.mem_of_getElem? (i := 1143) (by decide +kernel)⟩
theorem lw_p39 : lw_okq (⟨"ArbitratedBusModel", "sampled", "(III)I"⟩, 11) := ⟨⟨by decide +kernel, by decide +kernel⟩, List.mem_of_getElem? (i := 960) (by decide +kernel), List.mem_of_getElem? (i := 1146) (by decide +kernel), List.mem_of_getElem? (i := 1147) (by decide +kernel)⟩
theorem lw_p40 : lw_okq (⟨"ArbitratedBusModel", "inverted", "()I"⟩, 11) := ⟨⟨by decide +kernel, by decide +kernel⟩, List.mem_of_getElem? (i := 960) (by decide +kernel), List.mem_of_getElem? (i := 1150) (by decide +kernel), List.mem_of_getElem? (i := 1151) (by decide +kernel)⟩
theorem lw_p41 : lw_okq (⟨"ArbitratedBusModel", "acts", "(II)V"⟩, 11) := ⟨⟨by decide +kernel, by decide +kernel⟩, List.mem_of_getElem? (i := 960) (by decide +kernel), List.mem_of_getElem? (i := 1154) (by decide +kernel), List.mem_of_getElem? (i := 1155) (by decide +kernel)⟩
theorem lw_p42 : lw_okq (⟨"ArbitratedBusModel", "idles", "(II)V"⟩, 11) := ⟨⟨by decide +kernel, by decide +kernel⟩, List.mem_of_getElem? (i := 960) (by decide +kernel), List.mem_of_getElem? (i := 1158) (by decide +kernel), List.mem_of_getElem? (i := 1159) (by decide +kernel)⟩
theorem lw_p43 : lw_okq (⟨"ArbitratedBusModel", "begins", "(IZ)V"⟩, 11) := ⟨⟨by decide +kernel, by decide +kernel⟩, List.mem_of_getElem? (i := 960) (by decide +kernel), List.mem_of_getElem? (i := 1162) (by decide +kernel), List.mem_of_getElem? (i := 1163) (by decide +kernel)⟩
theorem lw_p44 : lw_okq (⟨"ArbitratedBusModel", "errs", "(II)V"⟩, 11) := ⟨⟨by decide +kernel, by decide +kernel⟩, List.mem_of_getElem? (i := 960) (by decide +kernel), List.mem_of_getElem? (i := 1166) (by decide +kernel), List.mem_of_getElem? (i := 1167) (by decide +kernel)⟩
theorem lw_p45 : lw_okq (⟨"ArbitratedBusModel", "receives", "(II)V"⟩, 11) := ⟨⟨by decide +kernel, by decide +kernel⟩, List.mem_of_getElem? (i := 960) (by decide +kernel), List.mem_of_getElem? (i := 1170) (by decide +kernel), List.mem_of_getElem? (i := 1171) (by decide +kernel)⟩
theorem lw_p46 : lw_okq (⟨"ArbitratedBusModel", "isPassiveNow", "(I)Z"⟩, 11) := ⟨⟨by decide +kernel, by decide +kernel⟩, List.mem_of_getElem? (i := 960) (by decide +kernel), List.mem_of_getElem? (i := 1174) (by decide +kernel), List.mem_of_getElem? (i := 1175) (by decide +kernel)⟩
theorem lw_p47 : lw_okq (⟨"ArbitratedBusModel", "stuffed", "(II)V"⟩, 11) := ⟨⟨by decide +kernel, by decide +kernel⟩, List.mem_of_getElem? (i := 960) (by decide +kernel), List.mem_of_getElem? (i := 1178) (by decide +kernel), List.mem_of_getElem? (i := 1179) (by decide +kernel)⟩
def lw_privs_3 : List (MethodName × Nat) := [(⟨"ArbitratedBusModel", "bit", "()V"⟩, 11), (⟨"ArbitratedBusModel", "drives", "(I)I"⟩, 11), (⟨"ArbitratedBusModel", "drivesFrame", "(I)I"⟩, 11), (⟨"ArbitratedBusModel", "isTransmitting", "(I)Z"⟩, 11), (⟨"ArbitratedBusModel", "isChecked", "(I)Z"⟩, 11), (⟨"ArbitratedBusModel", "total", "(I)I"⟩, 11), (⟨"ArbitratedBusModel", "sampledLength", "(I)I"⟩, 11), (⟨"ArbitratedBusModel", "sampled", "(III)I"⟩, 11), (⟨"ArbitratedBusModel", "inverted", "()I"⟩, 11), (⟨"ArbitratedBusModel", "acts", "(II)V"⟩, 11), (⟨"ArbitratedBusModel", "idles", "(II)V"⟩, 11), (⟨"ArbitratedBusModel", "begins", "(IZ)V"⟩, 11), (⟨"ArbitratedBusModel", "errs", "(II)V"⟩, 11), (⟨"ArbitratedBusModel", "receives", "(II)V"⟩, 11), (⟨"ArbitratedBusModel", "isPassiveNow", "(I)Z"⟩, 11), (⟨"ArbitratedBusModel", "stuffed", "(II)V"⟩, 11)]
theorem lw_r3 : ∀ q ∈ lw_privs_3, lw_okq q := List.forall_mem_cons.mpr ⟨lw_p32, List.forall_mem_cons.mpr ⟨lw_p33, List.forall_mem_cons.mpr ⟨lw_p34, List.forall_mem_cons.mpr ⟨lw_p35, List.forall_mem_cons.mpr ⟨lw_p36, List.forall_mem_cons.mpr ⟨lw_p37, List.forall_mem_cons.mpr ⟨lw_p38, List.forall_mem_cons.mpr ⟨lw_p39, List.forall_mem_cons.mpr ⟨lw_p40, List.forall_mem_cons.mpr ⟨lw_p41, List.forall_mem_cons.mpr ⟨lw_p42, List.forall_mem_cons.mpr ⟨lw_p43, List.forall_mem_cons.mpr ⟨lw_p44, List.forall_mem_cons.mpr ⟨lw_p45, List.forall_mem_cons.mpr ⟨lw_p46, List.forall_mem_cons.mpr ⟨lw_p47, fun _ h => absurd h List.not_mem_nil⟩⟩⟩⟩⟩⟩⟩⟩⟩⟩⟩⟩⟩⟩⟩⟩
theorem lw_p48 : lw_okq (⟨"ArbitratedBusModel", "tails", "(II)V"⟩, 11) := ⟨⟨by decide +kernel, by decide +kernel⟩, List.mem_of_getElem? (i := 960) (by decide +kernel), List.mem_of_getElem? (i := 1182) (by decide +kernel), List.mem_of_getElem? (i := 1183) (by decide +kernel)⟩
theorem lw_p49 : lw_okq (⟨"ArbitratedBusModel", "ends", "(II)V"⟩, 11) := ⟨⟨by decide +kernel, by decide +kernel⟩, List.mem_of_getElem? (i := 960) (by decide +kernel), List.mem_of_getElem? (i := 1186) (by decide +kernel), List.mem_of_getElem? (i := 1187) (by decide +kernel)⟩
theorem lw_p50 : lw_okq (⟨"ArbitratedBusModel", "accepts", "(I)V"⟩, 11) := ⟨⟨by decide +kernel, by decide +kernel⟩, List.mem_of_getElem? (i := 960) (by decide +kernel), List.mem_of_getElem? (i := 1190) (by decide +kernel), List.mem_of_getElem? (i := 1191) (by decide +kernel)⟩
theorem lw_p51 : lw_okq (⟨"ArbitratedBusModel", "flags", "(I)V"⟩, 11) := ⟨⟨by decide +kernel, by decide +kernel⟩, List.mem_of_getElem? (i := 960) (by decide +kernel), List.mem_of_getElem? (i := 1197) (by decide +kernel), List.mem_of_getElem? (i := 1198) (by decide +kernel)⟩
theorem lw_p52 : lw_okq (⟨"ArbitratedBusModel", "delimits", "(II)V"⟩, 11) := ⟨⟨by decide +kernel, by decide +kernel⟩, List.mem_of_getElem? (i := 960) (by decide +kernel), List.mem_of_getElem? (i := 1201) (by decide +kernel), List.mem_of_getElem? (i := 1202) (by decide +kernel)⟩
theorem lw_p53 : lw_okq (⟨"ArbitratedBusModel", "intermits", "(II)V"⟩, 11) := ⟨⟨by decide +kernel, by decide +kernel⟩, List.mem_of_getElem? (i := 960) (by decide +kernel), List.mem_of_getElem? (i := 1205) (by decide +kernel), List.mem_of_getElem? (i := 1206) (by decide +kernel)⟩
theorem lw_p54 : lw_okq (⟨"ArbitratedBusModel", "suspends", "(II)V"⟩, 11) := ⟨⟨by decide +kernel, by decide +kernel⟩, List.mem_of_getElem? (i := 960) (by decide +kernel), List.mem_of_getElem? (i := 1209) (by decide +kernel), List.mem_of_getElem? (i := 1210) (by decide +kernel)⟩
theorem lw_p55 : lw_okq (⟨"ArbitratedBusModel", "recovers", "(II)V"⟩, 11) := ⟨⟨by decide +kernel, by decide +kernel⟩, List.mem_of_getElem? (i := 960) (by decide +kernel), List.mem_of_getElem? (i := 1213) (by decide +kernel), List.mem_of_getElem? (i := 1214) (by decide +kernel)⟩
theorem lw_p56 : lw_okq (⟨"ArbitratedBusModel", "passes", "()V"⟩, 11) := ⟨⟨by decide +kernel, by decide +kernel⟩, List.mem_of_getElem? (i := 960) (by decide +kernel), List.mem_of_getElem? (i := 1217) (by decide +kernel), List.mem_of_getElem? (i := 1218) (by decide +kernel)⟩
theorem lw_p57 : lw_okq (⟨"ArbitratedBusModel", "isSettled", "()Z"⟩, 11) := ⟨⟨by decide +kernel, by decide +kernel⟩, List.mem_of_getElem? (i := 960) (by decide +kernel), List.mem_of_getElem? (i := 1225) (by decide +kernel), List.mem_of_getElem? (i := 1226) (by decide +kernel)⟩
theorem lw_p58 : lw_okq (⟨"ArbitratedBusModel", "of", "(II)I"⟩, 11) := ⟨⟨by decide +kernel, by decide +kernel⟩, List.mem_of_getElem? (i := 960) (by decide +kernel), List.mem_of_getElem? (i := 1233) (by decide +kernel), List.mem_of_getElem? (i := 1234) (by decide +kernel)⟩
theorem lw_p59 : lw_okq (⟨"ArbitratedBusModel", "lastOf", "(I)I"⟩, 11) := ⟨⟨by decide +kernel, by decide +kernel⟩, List.mem_of_getElem? (i := 960) (by decide +kernel), List.mem_of_getElem? (i := 1261) (by decide +kernel), List.mem_of_getElem? (i := 1262) (by decide +kernel)⟩
theorem lw_p60 : lw_okq (⟨"ArbitratedBusModel", "keyOf", "(II)I"⟩, 11) := ⟨⟨by decide +kernel, by decide +kernel⟩, List.mem_of_getElem? (i := 960) (by decide +kernel), List.mem_of_getElem? (i := 1289) (by decide +kernel), List.mem_of_getElem? (i := 1290) (by decide +kernel)⟩
theorem lw_p61 : lw_okq (⟨"ArbitratedBusModel", "isGot", "(II)Z"⟩, 11) := ⟨⟨by decide +kernel, by decide +kernel⟩, List.mem_of_getElem? (i := 960) (by decide +kernel), List.mem_of_getElem? (i := 1301) (by decide +kernel), List.mem_of_getElem? (i := 1302) (by decide +kernel)⟩
theorem lw_p62 : lw_okq (⟨"ArbitratedBusModel", "gotKey", "(II)I"⟩, 11) := ⟨⟨by decide +kernel, by decide +kernel⟩, List.mem_of_getElem? (i := 960) (by decide +kernel), List.mem_of_getElem? (i := 1305) (by decide +kernel), List.mem_of_getElem? (i := 1306) (by decide +kernel)⟩
theorem lw_p63 : lw_okq (⟨"ArbitratedBusModel", "messageOf", "(I)I"⟩, 11) := ⟨⟨by decide +kernel, by decide +kernel⟩, List.mem_of_getElem? (i := 960) (by decide +kernel), List.mem_of_getElem? (i := 1341) (by decide +kernel), List.mem_of_getElem? (i := 1342) (by decide +kernel)⟩
def lw_privs_4 : List (MethodName × Nat) := [(⟨"ArbitratedBusModel", "tails", "(II)V"⟩, 11), (⟨"ArbitratedBusModel", "ends", "(II)V"⟩, 11), (⟨"ArbitratedBusModel", "accepts", "(I)V"⟩, 11), (⟨"ArbitratedBusModel", "flags", "(I)V"⟩, 11), (⟨"ArbitratedBusModel", "delimits", "(II)V"⟩, 11), (⟨"ArbitratedBusModel", "intermits", "(II)V"⟩, 11), (⟨"ArbitratedBusModel", "suspends", "(II)V"⟩, 11), (⟨"ArbitratedBusModel", "recovers", "(II)V"⟩, 11), (⟨"ArbitratedBusModel", "passes", "()V"⟩, 11), (⟨"ArbitratedBusModel", "isSettled", "()Z"⟩, 11), (⟨"ArbitratedBusModel", "of", "(II)I"⟩, 11), (⟨"ArbitratedBusModel", "lastOf", "(I)I"⟩, 11), (⟨"ArbitratedBusModel", "keyOf", "(II)I"⟩, 11), (⟨"ArbitratedBusModel", "isGot", "(II)Z"⟩, 11), (⟨"ArbitratedBusModel", "gotKey", "(II)I"⟩, 11), (⟨"ArbitratedBusModel", "messageOf", "(I)I"⟩, 11)]
theorem lw_r4 : ∀ q ∈ lw_privs_4, lw_okq q := List.forall_mem_cons.mpr ⟨lw_p48, List.forall_mem_cons.mpr ⟨lw_p49, List.forall_mem_cons.mpr ⟨lw_p50, List.forall_mem_cons.mpr ⟨lw_p51, List.forall_mem_cons.mpr ⟨lw_p52, List.forall_mem_cons.mpr ⟨lw_p53, List.forall_mem_cons.mpr ⟨lw_p54, List.forall_mem_cons.mpr ⟨lw_p55, List.forall_mem_cons.mpr ⟨lw_p56, List.forall_mem_cons.mpr ⟨lw_p57, List.forall_mem_cons.mpr ⟨lw_p58, List.forall_mem_cons.mpr ⟨lw_p59, List.forall_mem_cons.mpr ⟨lw_p60, List.forall_mem_cons.mpr ⟨lw_p61, List.forall_mem_cons.mpr ⟨lw_p62, List.forall_mem_cons.mpr ⟨lw_p63, fun _ h => absurd h List.not_mem_nil⟩⟩⟩⟩⟩⟩⟩⟩⟩⟩⟩⟩⟩⟩⟩⟩
theorem lw_p64 : lw_okq (⟨"ArbitratedBusModel", "response", "(I)I"⟩, 11) := ⟨⟨by decide +kernel, by decide +kernel⟩, List.mem_of_getElem? (i := 960) (by decide +kernel), List.mem_of_getElem? (i := 1353) (by decide +kernel), List.mem_of_getElem? (i := 1354) (by decide +kernel)⟩
theorem lw_p65 : lw_okq (⟨"ArbitratedBusModel", "faultOf", "()I"⟩, 11) := ⟨⟨by decide +kernel, by decide +kernel⟩, List.mem_of_getElem? (i := 960) (by decide +kernel), List.mem_of_getElem? (i := 1373) (by decide +kernel), List.mem_of_getElem? (i := 1374) (by decide +kernel)⟩
theorem lw_p66 : lw_okq (⟨"ArbitratedBusModel", "isRequest", "([I)Z"⟩, 11) := ⟨⟨by decide +kernel, by decide +kernel⟩, List.mem_of_getElem? (i := 960) (by decide +kernel), List.mem_of_getElem? (i := 1377) (by decide +kernel), List.mem_of_getElem? (i := 1378) (by decide +kernel)⟩
theorem lw_p67 : lw_okq (⟨"ArbitratedBusModel", "here", "()I"⟩, 11) := ⟨⟨by decide +kernel, by decide +kernel⟩, List.mem_of_getElem? (i := 960) (by decide +kernel), List.mem_of_getElem? (i := 1381) (by decide +kernel), List.mem_of_getElem? (i := 1382) (by decide +kernel)⟩
theorem lw_p68 : lw_okq (⟨"ArbitratedBusModel", "moreOf", "(JI)J"⟩, 11) := ⟨⟨by decide +kernel, by decide +kernel⟩, List.mem_of_getElem? (i := 960) (by decide +kernel), List.mem_of_getElem? (i := 1409) (by decide +kernel), List.mem_of_getElem? (i := 1410) (by decide +kernel)⟩
def lw_privs_5 : List (MethodName × Nat) := [(⟨"ArbitratedBusModel", "response", "(I)I"⟩, 11), (⟨"ArbitratedBusModel", "faultOf", "()I"⟩, 11), (⟨"ArbitratedBusModel", "isRequest", "([I)Z"⟩, 11), (⟨"ArbitratedBusModel", "here", "()I"⟩, 11), (⟨"ArbitratedBusModel", "moreOf", "(JI)J"⟩, 11)]
theorem lw_r5 : ∀ q ∈ lw_privs_5, lw_okq q := List.forall_mem_cons.mpr ⟨lw_p64, List.forall_mem_cons.mpr ⟨lw_p65, List.forall_mem_cons.mpr ⟨lw_p66, List.forall_mem_cons.mpr ⟨lw_p67, List.forall_mem_cons.mpr ⟨lw_p68, fun _ h => absurd h List.not_mem_nil⟩⟩⟩⟩⟩
def lw_privs : List (MethodName × Nat) := lw_privs_1 ++ (lw_privs_2 ++ (lw_privs_3 ++ (lw_privs_4 ++ (lw_privs_5))))
def lw_tbl : List Cond := k2_sels lw_privs ++ tables_1
theorem lw_privs_ok : ∀ q ∈ lw_privs, lw_okq q := by
  show ∀ q ∈ lw_privs_1 ++ (lw_privs_2 ++ (lw_privs_3 ++ (lw_privs_4 ++ (lw_privs_5)))), lw_okq q
  exact List.forall_mem_append.mpr ⟨lw_r1, List.forall_mem_append.mpr ⟨lw_r2, List.forall_mem_append.mpr ⟨lw_r3, List.forall_mem_append.mpr ⟨lw_r4, lw_r5⟩⟩⟩⟩
end
section
/-! names: classes, their fields, the layout of the cells in the order of their making, methods, words of the tables (written by wip/whole/gen/names.py) -/
/-- the words that keep -/
def xT : List Cond := lw_tbl.filter goodWord
theorem xT_mem {w : Cond} (h : w ∈ lw_tbl) (hg : goodWord w = true) : w ∈ xT := List.mem_filter.mpr ⟨h, hg⟩
theorem xT_lw : ∀ w ∈ xT, w ∈ lw_tbl := fun w h => (List.mem_filter.mp h).1
theorem xT_good : ∀ w ∈ xT, goodWord w = true := fun w h => (List.mem_filter.mp h).2
theorem xm1 {w : Cond} (h : w ∈ tables_1_1) : w ∈ lw_tbl := List.mem_append_right _ (show w ∈ tables_1 from List.mem_append_left _ h)
theorem xw1 {w : Cond} (i : Nat) (h : tables_1_1[i]? = some w) (hg : goodWord w = true) : w ∈ xT := xT_mem (xm1 (List.mem_of_getElem? h)) hg
theorem xm2 {w : Cond} (h : w ∈ tables_1_2) : w ∈ lw_tbl := List.mem_append_right _ (show w ∈ tables_1 from List.mem_append_right _ (List.mem_append_left _ h))
theorem xw2 {w : Cond} (i : Nat) (h : tables_1_2[i]? = some w) (hg : goodWord w = true) : w ∈ xT := xT_mem (xm2 (List.mem_of_getElem? h)) hg
theorem xm3 {w : Cond} (h : w ∈ tables_1_3) : w ∈ lw_tbl := List.mem_append_right _ (show w ∈ tables_1 from List.mem_append_right _ (List.mem_append_right _ (List.mem_append_left _ h)))
theorem xw3 {w : Cond} (i : Nat) (h : tables_1_3[i]? = some w) (hg : goodWord w = true) : w ∈ xT := xT_mem (xm3 (List.mem_of_getElem? h)) hg
theorem xm4 {w : Cond} (h : w ∈ tables_1_4) : w ∈ lw_tbl := List.mem_append_right _ (show w ∈ tables_1 from List.mem_append_right _ (List.mem_append_right _ (List.mem_append_right _ (List.mem_append_left _ h))))
theorem xw4 {w : Cond} (i : Nat) (h : tables_1_4[i]? = some w) (hg : goodWord w = true) : w ∈ xT := xT_mem (xm4 (List.mem_of_getElem? h)) hg
theorem xm5 {w : Cond} (h : w ∈ tables_1_5) : w ∈ lw_tbl := List.mem_append_right _ (show w ∈ tables_1 from List.mem_append_right _ (List.mem_append_right _ (List.mem_append_right _ (List.mem_append_right _ (List.mem_append_left _ h)))))
theorem xw5 {w : Cond} (i : Nat) (h : tables_1_5[i]? = some w) (hg : goodWord w = true) : w ∈ xT := xT_mem (xm5 (List.mem_of_getElem? h)) hg
theorem xm6 {w : Cond} (h : w ∈ tables_1_6) : w ∈ lw_tbl := List.mem_append_right _ (show w ∈ tables_1 from List.mem_append_right _ (List.mem_append_right _ (List.mem_append_right _ (List.mem_append_right _ (List.mem_append_right _ (h))))))
theorem xw6 {w : Cond} (i : Nat) (h : tables_1_6[i]? = some w) (hg : goodWord w = true) : w ∈ xT := xT_mem (xm6 (List.mem_of_getElem? h)) hg
def zT0 : u_T := fun k => match k with
  | 0 => ("ArbitratedBus$Bus", "limits", "LArbitratedBus$Limits;", true)
  | 1 => ("ArbitratedBus$Bus", "nodes", "[LArbitratedBus$Node;", true)
  | 2 => ("ArbitratedBus$Bus", "disturbances", "LArbitratedBus$Disturbances;", true)
  | 3 => ("ArbitratedBus$Bus", "levels", "[I", true)
  | _ => ("ArbitratedBus$Bus", "now", "I", false)
def zY0 : Nat → FieldType := fun k => match k with
  | 0 => .object "ArbitratedBus$Limits"
  | 1 => .array (.object "ArbitratedBus$Node")
  | 2 => .object "ArbitratedBus$Disturbances"
  | 3 => .array (.int)
  | _ => .int
def zT1 : u_T := fun k => match k with
  | 0 => ("ArbitratedBus$Disturbances", "sets", "[I", true)
  | 1 => ("ArbitratedBus$Disturbances", "times", "[I", true)
  | _ => ("ArbitratedBus$Disturbances", "size", "I", false)
def zY1 : Nat → FieldType := fun k => match k with
  | 0 => .array (.int)
  | 1 => .array (.int)
  | _ => .int
def zT2 : u_T := fun k => match k with
  | 0 => ("ArbitratedBus$FrameBits", "basicBits", "I", false)
  | 1 => ("ArbitratedBus$FrameBits", "bodyBits", "I", false)
  | 2 => ("ArbitratedBus$FrameBits", "body", "J", false)
  | 3 => ("ArbitratedBus$FrameBits", "header", "I", false)
  | 4 => ("ArbitratedBus$FrameBits", "ownCrc", "I", false)
  | 5 => ("ArbitratedBus$FrameBits", "sampledCrc", "I", false)
  | 6 => ("ArbitratedBus$FrameBits", "latest", "I", false)
  | 7 => ("ArbitratedBus$FrameBits", "equalBits", "I", false)
  | _ => ("ArbitratedBus$FrameBits", "tail", "I", false)
def zY2 : Nat → FieldType := fun k => match k with
  | 0 => .int
  | 1 => .int
  | 2 => .long
  | 3 => .int
  | 4 => .int
  | 5 => .int
  | 6 => .int
  | 7 => .int
  | _ => .int
def zT3 : u_T := fun k => match k with
  | 0 => ("ArbitratedBus$FrameList", "keys", "[I", true)
  | 1 => ("ArbitratedBus$FrameList", "lengths", "[I", true)
  | 2 => ("ArbitratedBus$FrameList", "datas", "[I", true)
  | _ => ("ArbitratedBus$FrameList", "size", "I", false)
def zY3 : Nat → FieldType := fun k => match k with
  | 0 => .array (.int)
  | 1 => .array (.int)
  | 2 => .array (.int)
  | _ => .int
def zT4 : u_T := fun k => match k with
  | 0 => ("ArbitratedBus$Limits", "passive", "I", false)
  | 1 => ("ArbitratedBus$Limits", "off", "I", false)
  | _ => ("ArbitratedBus$Limits", "recovery", "I", false)
def zY4 : Nat → FieldType := fun k => match k with
  | 0 => .int
  | 1 => .int
  | _ => .int
def zT5 : u_T := fun k => match k with
  | 0 => ("ArbitratedBus$Messages", "identifiers", "[I", true)
  | 1 => ("ArbitratedBus$Messages", "longest", "[I", true)
  | 2 => ("ArbitratedBus$Messages", "periods", "[I", true)
  | 3 => ("ArbitratedBus$Messages", "jitters", "[I", true)
  | _ => ("ArbitratedBus$Messages", "size", "I", false)
def zY5 : Nat → FieldType := fun k => match k with
  | 0 => .array (.int)
  | 1 => .array (.int)
  | 2 => .array (.int)
  | 3 => .array (.int)
  | _ => .int
def zT6 : u_T := fun k => match k with
  | 0 => ("ArbitratedBus$Node", "limits", "LArbitratedBus$Limits;", true)
  | 1 => ("ArbitratedBus$Node", "tally", "LArbitratedBus$Tally;", true)
  | 2 => ("ArbitratedBus$Node", "waitingFrames", "LArbitratedBus$FrameList;", true)
  | 3 => ("ArbitratedBus$Node", "receivedFrames", "LArbitratedBus$FrameList;", true)
  | 4 => ("ArbitratedBus$Node", "answers", "LArbitratedBus$FrameList;", true)
  | 5 => ("ArbitratedBus$Node", "bits", "LArbitratedBus$FrameBits;", true)
  | 6 => ("ArbitratedBus$Node", "mask", "I", false)
  | 7 => ("ArbitratedBus$Node", "code", "I", false)
  | 8 => ("ArbitratedBus$Node", "phase", "I", false)
  | 9 => ("ArbitratedBus$Node", "transmitter", "Z", false)
  | 10 => ("ArbitratedBus$Node", "transmitCounter", "I", false)
  | 11 => ("ArbitratedBus$Node", "receiveCounter", "I", false)
  | 12 => ("ArbitratedBus$Node", "count", "I", false)
  | 13 => ("ArbitratedBus$Node", "sequences", "I", false)
  | 14 => ("ArbitratedBus$Node", "flagIsActive", "Z", false)
  | 15 => ("ArbitratedBus$Node", "isFirstAfterFlag", "Z", false)
  | 16 => ("ArbitratedBus$Node", "driven", "I", false)
  | 17 => ("ArbitratedBus$Node", "sending", "I", false)
  | _ => ("ArbitratedBus$Node", "outgoing", "J", false)
def zY6 : Nat → FieldType := fun k => match k with
  | 0 => .object "ArbitratedBus$Limits"
  | 1 => .object "ArbitratedBus$Tally"
  | 2 => .object "ArbitratedBus$FrameList"
  | 3 => .object "ArbitratedBus$FrameList"
  | 4 => .object "ArbitratedBus$FrameList"
  | 5 => .object "ArbitratedBus$FrameBits"
  | 6 => .int
  | 7 => .int
  | 8 => .int
  | 9 => .boolean
  | 10 => .int
  | 11 => .int
  | 12 => .int
  | 13 => .int
  | 14 => .boolean
  | 15 => .boolean
  | 16 => .int
  | 17 => .int
  | _ => .long
def zT7 : u_T := fun k => match k with
  | 0 => ("ArbitratedBus$RequestReader", "state", "I", false)
  | 1 => ("ArbitratedBus$RequestReader", "node", "I", false)
  | 2 => ("ArbitratedBus$RequestReader", "identifier", "I", false)
  | 3 => ("ArbitratedBus$RequestReader", "remote", "Z", false)
  | 4 => ("ArbitratedBus$RequestReader", "length", "I", false)
  | _ => ("ArbitratedBus$RequestReader", "data", "I", false)
def zY7 : Nat → FieldType := fun k => match k with
  | 0 => .int
  | 1 => .int
  | 2 => .int
  | 3 => .boolean
  | 4 => .int
  | _ => .int
def zT8 : u_T := fun k => match k with
  | 0 => ("ArbitratedBus$Tally", "errorCounts", "[I", true)
  | 1 => ("ArbitratedBus$Tally", "latestError", "I", false)
  | 2 => ("ArbitratedBus$Tally", "lost", "I", false)
  | 3 => ("ArbitratedBus$Tally", "overloaded", "I", false)
  | 4 => ("ArbitratedBus$Tally", "sentFrames", "I", false)
  | _ => ("ArbitratedBus$Tally", "overrun", "I", false)
def zY8 : Nat → FieldType := fun k => match k with
  | 0 => .array (.int)
  | 1 => .int
  | 2 => .int
  | 3 => .int
  | 4 => .int
  | _ => .int
def zT9 : u_T := fun k => match k with
  | 0 => ("ArbitratedBus$Text", "reader", "LArbitratedBus$RequestReader;", true)
  | 1 => ("ArbitratedBus$Text", "letters", "[I", true)
  | _ => ("ArbitratedBus$Text", "size", "I", false)
def zY9 : Nat → FieldType := fun k => match k with
  | 0 => .object "ArbitratedBus$RequestReader"
  | 1 => .array (.int)
  | _ => .int
def zT10 : u_T := fun k => match k with
  | 0 => ("ArbitratedBus", "bus", "LArbitratedBus$Bus;", true)
  | 1 => ("ArbitratedBus", "forecast", "LArbitratedBus$Bus;", true)
  | 2 => ("ArbitratedBus", "slots", "[LArbitratedBus$Bus;", true)
  | 3 => ("ArbitratedBus", "isSaved", "[Z", true)
  | 4 => ("ArbitratedBus", "walker", "LArbitratedBus$FrameBits;", true)
  | 5 => ("ArbitratedBus", "messages", "LArbitratedBus$Messages;", true)
  | _ => ("ArbitratedBus", "text", "LArbitratedBus$Text;", true)
def zY10 : Nat → FieldType := fun k => match k with
  | 0 => .object "ArbitratedBus$Bus"
  | 1 => .object "ArbitratedBus$Bus"
  | 2 => .array (.object "ArbitratedBus$Bus")
  | 3 => .array (.boolean)
  | 4 => .object "ArbitratedBus$FrameBits"
  | 5 => .object "ArbitratedBus$Messages"
  | _ => .object "ArbitratedBus$Text"
def zT11 : u_T := fun k => match k with
  | 0 => ("ArbitratedBusModel", "v", "[I", true)
  | 1 => ("ArbitratedBusModel", "spare", "[I", true)
  | 2 => ("ArbitratedBusModel", "kept", "[I", true)
  | 3 => ("ArbitratedBusModel", "isKept", "[Z", true)
  | 4 => ("ArbitratedBusModel", "text", "[I", true)
  | 5 => ("ArbitratedBusModel", "letters", "I", false)
  | 6 => ("ArbitratedBusModel", "messages", "[I", true)
  | 7 => ("ArbitratedBusModel", "many", "I", false)
  | 8 => ("ArbitratedBusModel", "asked", "[I", true)
  | 9 => ("ArbitratedBusModel", "place", "I", false)
  | _ => ("ArbitratedBusModel", "told", "[I", true)
def zY11 : Nat → FieldType := fun k => match k with
  | 0 => .array (.int)
  | 1 => .array (.int)
  | 2 => .array (.int)
  | 3 => .array (.boolean)
  | 4 => .array (.int)
  | 5 => .int
  | 6 => .array (.int)
  | 7 => .int
  | 8 => .array (.int)
  | 9 => .int
  | _ => .array (.int)
abbrev xC : List vw_C := [("ArbitratedBus$Bus", zT0, 5), ("ArbitratedBus$Disturbances", zT1, 3), ("ArbitratedBus$FrameBits", zT2, 9), ("ArbitratedBus$FrameList", zT3, 4), ("ArbitratedBus$Limits", zT4, 3), ("ArbitratedBus$Messages", zT5, 5), ("ArbitratedBus$Node", zT6, 19), ("ArbitratedBus$RequestReader", zT7, 6), ("ArbitratedBus$Tally", zT8, 6), ("ArbitratedBus$Text", zT9, 3), ("ArbitratedBus", zT10, 7), ("ArbitratedBusModel", zT11, 11)]
def xN : Nat → Nat := fun c => match c with
  | 0 => 5
  | 1 => 3
  | 2 => 9
  | 3 => 4
  | 4 => 3
  | 5 => 5
  | 6 => 19
  | 7 => 6
  | 8 => 6
  | 9 => 3
  | 10 => 7
  | _ => 11
def xTy : Nat → Nat → FieldType := fun c => match c with
  | 0 => zY0
  | 1 => zY1
  | 2 => zY2
  | 3 => zY3
  | 4 => zY4
  | 5 => zY5
  | 6 => zY6
  | 7 => zY7
  | 8 => zY8
  | 9 => zY9
  | 10 => zY10
  | _ => zY11
def lyN : List (Nat × Nat) := [(0, 6), (0, 8), (1, 6), (0, 3), (1, 4), (1, 4), (1, 4), (0, 3), (1, 6), (1, 6), (1, 6), (0, 3), (1, 4), (1, 4), (1, 4), (0, 2)]
def lyB : List (Nat × Nat) := [(0, 0), (0, 4), (4, 4)] ++ (lyN ++ (lyN ++ (lyN ++ (lyN ++ [(0, 1), (1, 8), (1, 8), (1, 256)]))))
def lyL : List (Nat × Nat) := (0, 10) :: (lyB ++ (lyB ++ ((3, 2) :: (lyB ++ (lyB ++ [(2, 2), (0, 2), (0, 5), (1, 8), (1, 8), (1, 8), (1, 8), (0, 9), (0, 7), (1, 120), (0, 11), (1, 1310), (1, 1310), (1, 2620), (2, 2), (1, 120), (1, 32), (1, 66), (1, 5)])))))
def lay (k : Nat) : Nat × Nat := lyL.getD k (9, 0)
def R0L : List (List (Option Nat)) := [[some 1, some 72, some 143, some 286, some 287, some 288, some 293], [some 2, some 3, some 68, some 71], [], [some 4, some 20, some 36, some 52], [some 2, some 5, some 7, some 11, some 15, some 19], [some 6], [], [some 8, some 9, some 10], [], [], [], [some 12, some 13, some 14], [], [], [], [some 16, some 17, some 18], [], [], [], [], [some 2, some 21, some 23, some 27, some 31, some 35], [some 22], [], [some 24, some 25, some 26], [], [], [], [some 28, some 29, some 30], [], [], [], [some 32, some 33, some 34], [], [], [], [], [some 2, some 37, some 39, some 43, some 47, some 51], [some 38], [], [some 40, some 41, some 42], [], [], [], [some 44, some 45, some 46], [], [], [], [some 48, some 49, some 50], [], [], [], [], [some 2, some 53, some 55, some 59, some 63, some 67], [some 54], [], [some 56, some 57, some 58], [], [], [], [some 60, some 61, some 62], [], [], [], [some 64, some 65, some 66], [], [], [], [], [some 69, some 70], [], [], [], [some 73, some 74, some 139, some 142], [], [some 75, some 91, some 107, some 123], [some 73, some 76, some 78, some 82, some 86, some 90], [some 77], [], [some 79, some 80, some 81], [], [], [], [some 83, some 84, some 85], [], [], [], [some 87, some 88, some 89], [], [], [], [], [some 73, some 92, some 94, some 98, some 102, some 106], [some 93], [], [some 95, some 96, some 97], [], [], [], [some 99, some 100, some 101], [], [], [], [some 103, some 104, some 105], [], [], [], [], [some 73, some 108, some 110, some 114, some 118, some 122], [some 109], [], [some 111, some 112, some 113], [], [], [], [some 115, some 116, some 117], [], [], [], [some 119, some 120, some 121], [], [], [], [], [some 73, some 124, some 126, some 130, some 134, some 138], [some 125], [], [some 127, some 128, some 129], [], [], [], [some 131, some 132, some 133], [], [], [], [some 135, some 136, some 137], [], [], [], [], [some 140, some 141], [], [], [], [some 144, some 215], [some 145, some 146, some 211, some 214], [], [some 147, some 163, some 179, some 195], [some 145, some 148, some 150, some 154, some 158, some 162], [some 149], [], [some 151, some 152, some 153], [], [], [], [some 155, some 156, some 157], [], [], [], [some 159, some 160, some 161], [], [], [], [], [some 145, some 164, some 166, some 170, some 174, some 178], [some 165], [], [some 167, some 168, some 169], [], [], [], [some 171, some 172, some 173], [], [], [], [some 175, some 176, some 177], [], [], [], [], [some 145, some 180, some 182, some 186, some 190, some 194], [some 181], [], [some 183, some 184, some 185], [], [], [], [some 187, some 188, some 189], [], [], [], [some 191, some 192, some 193], [], [], [], [], [some 145, some 196, some 198, some 202, some 206, some 210], [some 197], [], [some 199, some 200, some 201], [], [], [], [some 203, some 204, some 205], [], [], [], [some 207, some 208, some 209], [], [], [], [], [some 212, some 213], [], [], [], [some 216, some 217, some 282, some 285], [], [some 218, some 234, some 250, some 266], [some 216, some 219, some 221, some 225, some 229, some 233], [some 220], [], [some 222, some 223, some 224], [], [], [], [some 226, some 227, some 228], [], [], [], [some 230, some 231, some 232], [], [], [], [], [some 216, some 235, some 237, some 241, some 245, some 249], [some 236], [], [some 238, some 239, some 240], [], [], [], [some 242, some 243, some 244], [], [], [], [some 246, some 247, some 248], [], [], [], [], [some 216, some 251, some 253, some 257, some 261, some 265], [some 252], [], [some 254, some 255, some 256], [], [], [], [some 258, some 259, some 260], [], [], [], [some 262, some 263, some 264], [], [], [], [], [some 216, some 267, some 269, some 273, some 277, some 281], [some 268], [], [some 270, some 271, some 272], [], [], [], [some 274, some 275, some 276], [], [], [], [some 278, some 279, some 280], [], [], [], [], [some 283, some 284], [], [], [], [], [], [some 289, some 290, some 291, some 292], [], [], [], [], [some 294, some 295], [], [], [some 297, some 298, some 299, some 300, some 301, none, some 302, none, some 303, none, some 304], [], [], [], [], [], [], [], []]
def R0 (k j : Nat) : Option Nat := (R0L.getD k []).getD j none
theorem zN0 : ∀ a, a < 5 → ∀ b, b < 5 → a ≠ b → (zT0 a).2.1 ≠ (zT0 b).2.1 := by decide +kernel
theorem zK0 : ∀ k, k < 5 → parseFieldDescriptor (zT0 k).2.2.1 = some (zY0 k) := by decide +kernel
theorem zI0 : ∀ w ∈ u_ws "ArbitratedBus$Bus" zT0 5, w ∈ xT := by
  intro w hw
  obtain ⟨k, hk, rfl⟩ := List.mem_map.mp hw
  have hk := List.mem_range.mp hk
  match k, hk with
  | 0, _ => exact xw2 15 (by decide +kernel) rfl
  | 1, _ => exact xw2 17 (by decide +kernel) rfl
  | 2, _ => exact xw2 19 (by decide +kernel) rfl
  | 3, _ => exact xw2 21 (by decide +kernel) rfl
  | 4, _ => exact xw2 23 (by decide +kernel) rfl
  | n + 5, h => exact absurd h (by omega)
theorem zN1 : ∀ a, a < 3 → ∀ b, b < 3 → a ≠ b → (zT1 a).2.1 ≠ (zT1 b).2.1 := by decide +kernel
theorem zK1 : ∀ k, k < 3 → parseFieldDescriptor (zT1 k).2.2.1 = some (zY1 k) := by decide +kernel
theorem zI1 : ∀ w ∈ u_ws "ArbitratedBus$Disturbances" zT1 3, w ∈ xT := by
  intro w hw
  obtain ⟨k, hk, rfl⟩ := List.mem_map.mp hw
  have hk := List.mem_range.mp hk
  match k, hk with
  | 0, _ => exact xw1 239 (by decide +kernel) rfl
  | 1, _ => exact xw2 1 (by decide +kernel) rfl
  | 2, _ => exact xw2 3 (by decide +kernel) rfl
  | n + 3, h => exact absurd h (by omega)
theorem zN2 : ∀ a, a < 9 → ∀ b, b < 9 → a ≠ b → (zT2 a).2.1 ≠ (zT2 b).2.1 := by decide +kernel
theorem zK2 : ∀ k, k < 9 → parseFieldDescriptor (zT2 k).2.2.1 = some (zY2 k) := by decide +kernel
theorem zI2 : ∀ w ∈ u_ws "ArbitratedBus$FrameBits" zT2 9, w ∈ xT := by
  intro w hw
  obtain ⟨k, hk, rfl⟩ := List.mem_map.mp hw
  have hk := List.mem_range.mp hk
  match k, hk with
  | 0, _ => exact xw1 139 (by decide +kernel) rfl
  | 1, _ => exact xw1 141 (by decide +kernel) rfl
  | 2, _ => exact xw1 143 (by decide +kernel) rfl
  | 3, _ => exact xw1 145 (by decide +kernel) rfl
  | 4, _ => exact xw1 147 (by decide +kernel) rfl
  | 5, _ => exact xw1 149 (by decide +kernel) rfl
  | 6, _ => exact xw1 151 (by decide +kernel) rfl
  | 7, _ => exact xw1 153 (by decide +kernel) rfl
  | 8, _ => exact xw1 155 (by decide +kernel) rfl
  | n + 9, h => exact absurd h (by omega)
theorem zN3 : ∀ a, a < 4 → ∀ b, b < 4 → a ≠ b → (zT3 a).2.1 ≠ (zT3 b).2.1 := by decide +kernel
theorem zK3 : ∀ k, k < 4 → parseFieldDescriptor (zT3 k).2.2.1 = some (zY3 k) := by decide +kernel
theorem zI3 : ∀ w ∈ u_ws "ArbitratedBus$FrameList" zT3 4, w ∈ xT := by
  intro w hw
  obtain ⟨k, hk, rfl⟩ := List.mem_map.mp hw
  have hk := List.mem_range.mp hk
  match k, hk with
  | 0, _ => exact xw1 111 (by decide +kernel) rfl
  | 1, _ => exact xw1 113 (by decide +kernel) rfl
  | 2, _ => exact xw1 115 (by decide +kernel) rfl
  | 3, _ => exact xw1 117 (by decide +kernel) rfl
  | n + 4, h => exact absurd h (by omega)
theorem zN4 : ∀ a, a < 3 → ∀ b, b < 3 → a ≠ b → (zT4 a).2.1 ≠ (zT4 b).2.1 := by decide +kernel
theorem zK4 : ∀ k, k < 3 → parseFieldDescriptor (zT4 k).2.2.1 = some (zY4 k) := by decide +kernel
theorem zI4 : ∀ w ∈ u_ws "ArbitratedBus$Limits" zT4 3, w ∈ xT := by
  intro w hw
  obtain ⟨k, hk, rfl⟩ := List.mem_map.mp hw
  have hk := List.mem_range.mp hk
  match k, hk with
  | 0, _ => exact xw1 44 (by decide +kernel) rfl
  | 1, _ => exact xw1 46 (by decide +kernel) rfl
  | 2, _ => exact xw1 48 (by decide +kernel) rfl
  | n + 3, h => exact absurd h (by omega)
theorem zN5 : ∀ a, a < 5 → ∀ b, b < 5 → a ≠ b → (zT5 a).2.1 ≠ (zT5 b).2.1 := by decide +kernel
theorem zK5 : ∀ k, k < 5 → parseFieldDescriptor (zT5 k).2.2.1 = some (zY5 k) := by decide +kernel
theorem zI5 : ∀ w ∈ u_ws "ArbitratedBus$Messages" zT5 5, w ∈ xT := by
  intro w hw
  obtain ⟨k, hk, rfl⟩ := List.mem_map.mp hw
  have hk := List.mem_range.mp hk
  match k, hk with
  | 0, _ => exact xw2 41 (by decide +kernel) rfl
  | 1, _ => exact xw2 43 (by decide +kernel) rfl
  | 2, _ => exact xw2 45 (by decide +kernel) rfl
  | 3, _ => exact xw2 47 (by decide +kernel) rfl
  | 4, _ => exact xw2 49 (by decide +kernel) rfl
  | n + 5, h => exact absurd h (by omega)
theorem zN6 : ∀ a, a < 19 → ∀ b, b < 19 → a ≠ b → (zT6 a).2.1 ≠ (zT6 b).2.1 := by decide +kernel
theorem zK6 : ∀ k, k < 19 → parseFieldDescriptor (zT6 k).2.2.1 = some (zY6 k) := by decide +kernel
theorem zI6 : ∀ w ∈ u_ws "ArbitratedBus$Node" zT6 19, w ∈ xT := by
  intro w hw
  obtain ⟨k, hk, rfl⟩ := List.mem_map.mp hw
  have hk := List.mem_range.mp hk
  match k, hk with
  | 0, _ => exact xw1 190 (by decide +kernel) rfl
  | 1, _ => exact xw1 192 (by decide +kernel) rfl
  | 2, _ => exact xw1 194 (by decide +kernel) rfl
  | 3, _ => exact xw1 196 (by decide +kernel) rfl
  | 4, _ => exact xw1 198 (by decide +kernel) rfl
  | 5, _ => exact xw1 200 (by decide +kernel) rfl
  | 6, _ => exact xw1 202 (by decide +kernel) rfl
  | 7, _ => exact xw1 204 (by decide +kernel) rfl
  | 8, _ => exact xw1 206 (by decide +kernel) rfl
  | 9, _ => exact xw1 208 (by decide +kernel) rfl
  | 10, _ => exact xw1 210 (by decide +kernel) rfl
  | 11, _ => exact xw1 212 (by decide +kernel) rfl
  | 12, _ => exact xw1 214 (by decide +kernel) rfl
  | 13, _ => exact xw1 216 (by decide +kernel) rfl
  | 14, _ => exact xw1 218 (by decide +kernel) rfl
  | 15, _ => exact xw1 220 (by decide +kernel) rfl
  | 16, _ => exact xw1 222 (by decide +kernel) rfl
  | 17, _ => exact xw1 224 (by decide +kernel) rfl
  | 18, _ => exact xw1 226 (by decide +kernel) rfl
  | n + 19, h => exact absurd h (by omega)
theorem zN7 : ∀ a, a < 6 → ∀ b, b < 6 → a ≠ b → (zT7 a).2.1 ≠ (zT7 b).2.1 := by decide +kernel
theorem zK7 : ∀ k, k < 6 → parseFieldDescriptor (zT7 k).2.2.1 = some (zY7 k) := by decide +kernel
theorem zI7 : ∀ w ∈ u_ws "ArbitratedBus$RequestReader" zT7 6, w ∈ xT := by
  intro w hw
  obtain ⟨k, hk, rfl⟩ := List.mem_map.mp hw
  have hk := List.mem_range.mp hk
  match k, hk with
  | 0, _ => exact xw2 76 (by decide +kernel) rfl
  | 1, _ => exact xw2 78 (by decide +kernel) rfl
  | 2, _ => exact xw2 80 (by decide +kernel) rfl
  | 3, _ => exact xw2 82 (by decide +kernel) rfl
  | 4, _ => exact xw2 84 (by decide +kernel) rfl
  | 5, _ => exact xw2 86 (by decide +kernel) rfl
  | n + 6, h => exact absurd h (by omega)
theorem zN8 : ∀ a, a < 6 → ∀ b, b < 6 → a ≠ b → (zT8 a).2.1 ≠ (zT8 b).2.1 := by decide +kernel
theorem zK8 : ∀ k, k < 6 → parseFieldDescriptor (zT8 k).2.2.1 = some (zY8 k) := by decide +kernel
theorem zI8 : ∀ w ∈ u_ws "ArbitratedBus$Tally" zT8 6, w ∈ xT := by
  intro w hw
  obtain ⟨k, hk, rfl⟩ := List.mem_map.mp hw
  have hk := List.mem_range.mp hk
  match k, hk with
  | 0, _ => exact xw1 81 (by decide +kernel) rfl
  | 1, _ => exact xw1 83 (by decide +kernel) rfl
  | 2, _ => exact xw1 85 (by decide +kernel) rfl
  | 3, _ => exact xw1 87 (by decide +kernel) rfl
  | 4, _ => exact xw1 89 (by decide +kernel) rfl
  | 5, _ => exact xw1 91 (by decide +kernel) rfl
  | n + 6, h => exact absurd h (by omega)
theorem zN9 : ∀ a, a < 3 → ∀ b, b < 3 → a ≠ b → (zT9 a).2.1 ≠ (zT9 b).2.1 := by decide +kernel
theorem zK9 : ∀ k, k < 3 → parseFieldDescriptor (zT9 k).2.2.1 = some (zY9 k) := by decide +kernel
theorem zI9 : ∀ w ∈ u_ws "ArbitratedBus$Text" zT9 3, w ∈ xT := by
  intro w hw
  obtain ⟨k, hk, rfl⟩ := List.mem_map.mp hw
  have hk := List.mem_range.mp hk
  match k, hk with
  | 0, _ => exact xw2 94 (by decide +kernel) rfl
  | 1, _ => exact xw2 96 (by decide +kernel) rfl
  | 2, _ => exact xw2 98 (by decide +kernel) rfl
  | n + 3, h => exact absurd h (by omega)
theorem zN10 : ∀ a, a < 7 → ∀ b, b < 7 → a ≠ b → (zT10 a).2.1 ≠ (zT10 b).2.1 := by decide +kernel
theorem zK10 : ∀ k, k < 7 → parseFieldDescriptor (zT10 k).2.2.1 = some (zY10 k) := by decide +kernel
theorem zI10 : ∀ w ∈ u_ws "ArbitratedBus" zT10 7, w ∈ xT := by
  intro w hw
  obtain ⟨k, hk, rfl⟩ := List.mem_map.mp hw
  have hk := List.mem_range.mp hk
  match k, hk with
  | 0, _ => exact xw2 108 (by decide +kernel) rfl
  | 1, _ => exact xw2 110 (by decide +kernel) rfl
  | 2, _ => exact xw2 112 (by decide +kernel) rfl
  | 3, _ => exact xw2 114 (by decide +kernel) rfl
  | 4, _ => exact xw2 116 (by decide +kernel) rfl
  | 5, _ => exact xw2 118 (by decide +kernel) rfl
  | 6, _ => exact xw2 120 (by decide +kernel) rfl
  | n + 7, h => exact absurd h (by omega)
theorem zN11 : ∀ a, a < 11 → ∀ b, b < 11 → a ≠ b → (zT11 a).2.1 ≠ (zT11 b).2.1 := by decide +kernel
theorem zK11 : ∀ k, k < 11 → parseFieldDescriptor (zT11 k).2.2.1 = some (zY11 k) := by decide +kernel
theorem zI11 : ∀ w ∈ u_ws "ArbitratedBusModel" zT11 11, w ∈ xT := by
  intro w hw
  obtain ⟨k, hk, rfl⟩ := List.mem_map.mp hw
  have hk := List.mem_range.mp hk
  match k, hk with
  | 0, _ => exact xw5 19 (by decide +kernel) rfl
  | 1, _ => exact xw5 21 (by decide +kernel) rfl
  | 2, _ => exact xw5 23 (by decide +kernel) rfl
  | 3, _ => exact xw5 25 (by decide +kernel) rfl
  | 4, _ => exact xw5 27 (by decide +kernel) rfl
  | 5, _ => exact xw5 29 (by decide +kernel) rfl
  | 6, _ => exact xw5 31 (by decide +kernel) rfl
  | 7, _ => exact xw5 33 (by decide +kernel) rfl
  | 8, _ => exact xw5 35 (by decide +kernel) rfl
  | 9, _ => exact xw5 37 (by decide +kernel) rfl
  | 10, _ => exact xw5 39 (by decide +kernel) rfl
  | n + 11, h => exact absurd h (by omega)
theorem xC_ok : ∀ (c : Nat) (q : vw_C), xC[c]? = some q → q.2.2 = xN c ∧ (∀ w ∈ u_ws q.1 q.2.1 q.2.2, w ∈ xT) ∧ (∀ k, k < q.2.2 → parseFieldDescriptor (q.2.1 k).2.2.1 = some (xTy c k)) ∧ (∀ a, a < q.2.2 → ∀ b, b < q.2.2 → a ≠ b → (q.2.1 a).2.1 ≠ (q.2.1 b).2.1) := by
  intro c q h
  match c, h with
  | 0, h => cases h; exact ⟨rfl, zI0, zK0, zN0⟩
  | 1, h => cases h; exact ⟨rfl, zI1, zK1, zN1⟩
  | 2, h => cases h; exact ⟨rfl, zI2, zK2, zN2⟩
  | 3, h => cases h; exact ⟨rfl, zI3, zK3, zN3⟩
  | 4, h => cases h; exact ⟨rfl, zI4, zK4, zN4⟩
  | 5, h => cases h; exact ⟨rfl, zI5, zK5, zN5⟩
  | 6, h => cases h; exact ⟨rfl, zI6, zK6, zN6⟩
  | 7, h => cases h; exact ⟨rfl, zI7, zK7, zN7⟩
  | 8, h => cases h; exact ⟨rfl, zI8, zK8, zN8⟩
  | 9, h => cases h; exact ⟨rfl, zI9, zK9, zN9⟩
  | 10, h => cases h; exact ⟨rfl, zI10, zK10, zN10⟩
  | 11, h => cases h; exact ⟨rfl, zI11, zK11, zN11⟩
  | n + 12, h => simp [xC] at h
end
section
/-! the memory: ints (and booleans), longs, references by cell and slot; how many cells are made. A judgement V over it, a row an instruction -/
abbrev MemT : Type := (Nat → Nat → Int32) × (Nat → Nat → Int64) × (Nat → Nat → Option Nat) × Nat
abbrev GlT : Type := Launch × va_G × Nat × ClassId × ClassId × ClassId × ClassId
abbrev KT : Type := MethodName × ByteArray × Nat × Option FieldType
abbrev XT : Type := KT × Nat × Nat × Nat
def xA (g : GlT) (k : Nat) : Nat := g.2.2.1 + k
def xFr (g : GlT) : Nat → Prop := fun q => g.2.2.1 ≤ q
theorem xFr_A (g : GlT) (k : Nat) : xFr g (xA g k) := Nat.le_add_right _ _
/-- a slot's value by its type -/
def xF (g : GlT) (M : MemT) (k j : Nat) (ty : FieldType) : Value := match ty with
  | .long => .long (M.2.1 k j)
  | .object _ => va_rf ((M.2.2.1 k j).map (xA g))
  | .array _ => va_rf ((M.2.2.1 k j).map (xA g))
  | _ => .int (M.1 k j)
def xFs (g : GlT) (M : MemT) (k ci : Nat) : List Value := (List.range (xN ci)).map fun j => xF g M k j (xTy ci j)
def xE (g : GlT) (M : MemT) (k : Nat) : va_E := match lay k with
  | (0, ci) => .inr (ci, xFs g M k ci)
  | (1, n) => .inl (g.2.2.2.1, n, .inl (M.1 k))
  | (2, n) => .inl (g.2.2.2.2.1, n, .inl (M.1 k))
  | (3, n) => .inl (g.2.2.2.2.2.1, n, .inr (.inr (.inr (.inr fun j => (M.2.2.1 k j).map (xA g)))))
  | (_, n) => .inl (g.2.2.2.2.2.2, n, .inr (.inr (.inr (.inr fun j => (M.2.2.1 k j).map (xA g)))))
def xW (g : GlT) (M : MemT) : va_W := (List.range M.2.2.2).map fun k => (xA g k, xE g M k)
def xTys (g : GlT) : List (ClassId × FieldType) := [(g.2.2.2.1, .int), (g.2.2.2.2.1, .boolean), (g.2.2.2.2.2.1, .object "ArbitratedBus$Bus"), (g.2.2.2.2.2.2, .object "ArbitratedBus$Node")]
def xP (g : GlT) (M : MemT) (H : Heap) : Prop := (M.2.2.2 < 305 → H.size = xA g M.2.2.2) ∧ va_P g.2.1 xC (xW g M) H
theorem xW_get {g : GlT} {M : MemT} {k : Nat} (h : k < M.2.2.2) : (xW g M)[k]? = some (xA g k, xE g M k) := by simp [xW, h]
theorem xW_in {g : GlT} {M : MemT} {k : Nat} {q : Nat × va_E} (h : (xW g M)[k]? = some q) : k < M.2.2.2 ∧ q = (xA g k, xE g M k) := by
  have hk : k < (xW g M).length := (List.getElem?_eq_some_iff.mp h).1
  have hk : k < M.2.2.2 := by simpa [xW] using hk
  rw [xW_get hk] at h
  exact ⟨hk, (Option.some.inj h).symm⟩
theorem xW_set {g : GlT} {M M' : MemT} {k : Nat} (hn : M'.2.2.2 = M.2.2.2) (h : ∀ j, j ≠ k → xE g M' j = xE g M j) : (xW g M).set k (xA g k, xE g M' k) = xW g M' := by
  apply List.ext_getElem?
  intro i
  rw [List.getElem?_set]
  by_cases hi : k = i
  · subst hi
    rw [if_pos rfl]
    by_cases hk : k < M.2.2.2
    · rw [if_pos (by simpa [xW] using hk), xW_get (by rw [hn]; exact hk)]
    · rw [if_neg (by simpa [xW] using hk)]
      symm
      apply List.getElem?_eq_none
      simp [xW]
      omega
  · rw [if_neg hi]
    by_cases hk : i < M.2.2.2
    · rw [xW_get hk, xW_get (by rw [hn]; exact hk), h i (fun e => hi e.symm)]
    · rw [List.getElem?_eq_none (by simp [xW]; omega), List.getElem?_eq_none (by simp [xW]; omega)]
theorem xW_D (g : GlT) (M : MemT) : va_D (xFr g) (xW g M) := by
  refine ⟨fun i j p q hi hj e => ?_, fun k q h => ?_⟩
  · rw [(xW_in hi).2, (xW_in hj).2] at e
    have e : g.2.2.1 + i = g.2.2.1 + j := e
    omega
  · rw [(xW_in h).2]
    exact xFr_A g k
theorem xE_congr {g : GlT} {M M' : MemT} {k : Nat} (h1 : M'.1 k = M.1 k) (h2 : M'.2.1 k = M.2.1 k) (h3 : M'.2.2.1 k = M.2.2.1 k) : xE g M' k = xE g M k := by
  have hF : ∀ ci, xFs g M' k ci = xFs g M k ci := fun ci => by
    unfold xFs
    apply List.map_congr_left
    intro j _
    unfold xF
    rw [h1, h2, h3]
  unfold xE
  rw [h1, h3]
  split <;> simp only [hF]
theorem xE_obj {g : GlT} {M : MemT} {k ci : Nat} (h : lay k = (0, ci)) : xE g M k = .inr (ci, xFs g M k ci) := by simp [xE, h]
theorem xE_int {g : GlT} {M : MemT} {k n : Nat} (h : lay k = (1, n)) : xE g M k = .inl (g.2.2.2.1, n, .inl (M.1 k)) := by simp [xE, h]
theorem xE_boo {g : GlT} {M : MemT} {k n : Nat} (h : lay k = (2, n)) : xE g M k = .inl (g.2.2.2.2.1, n, .inl (M.1 k)) := by simp [xE, h]
theorem xE_bus {g : GlT} {M : MemT} {k n : Nat} (h : lay k = (3, n)) : xE g M k = .inl (g.2.2.2.2.2.1, n, .inr (.inr (.inr (.inr fun j => (M.2.2.1 k j).map (xA g))))) := by simp [xE, h]
theorem xE_nod {g : GlT} {M : MemT} {k n : Nat} (h : lay k = (4, n)) : xE g M k = .inl (g.2.2.2.2.2.2, n, .inr (.inr (.inr (.inr fun j => (M.2.2.1 k j).map (xA g))))) := by simp [xE, h]
theorem xFs_get {g : GlT} {M : MemT} {k ci j : Nat} (h : j < xN ci) : (xFs g M k ci)[j]? = some (xF g M k j (xTy ci j)) := by simp [xFs, h]
theorem xFs_len {g : GlT} {M : MemT} {k ci : Nat} : (xFs g M k ci).length = xN ci := by simp [xFs]
theorem xFs_set {g : GlT} {M M' : MemT} {k ci j : Nat} {v : Value} (hv : xF g M' k j (xTy ci j) = v) (h : ∀ i, i ≠ j → xF g M' k i (xTy ci i) = xF g M k i (xTy ci i)) : (xFs g M k ci).set j v = xFs g M' k ci := by
  apply List.ext_getElem?
  intro i
  rw [List.getElem?_set]
  by_cases hi : j = i
  · subst hi
    rw [if_pos rfl]
    by_cases hk : j < xN ci
    · rw [if_pos (by rw [xFs_len]; exact hk), xFs_get hk, hv]
    · rw [if_neg (by rw [xFs_len]; exact hk)]
      symm
      apply List.getElem?_eq_none
      rw [xFs_len]; omega
  · rw [if_neg hi]
    by_cases hk : i < xN ci
    · rw [xFs_get hk, xFs_get hk, h i (fun e => hi e.symm)]
    · rw [List.getElem?_eq_none (by rw [xFs_len]; omega), List.getElem?_eq_none (by rw [xFs_len]; omega)]
theorem lay_small (k : Nat) : (lay k).2 < 2 ^ 31 := by
  have h : ∀ q ∈ lyL, q.2 < 2 ^ 31 := by decide +kernel
  unfold lay
  rw [List.getD_eq_getElem?_getD]
  cases hk : lyL[k]? with
  | none => decide
  | some q => exact h q (List.mem_of_getElem? hk)
/-- one int, one long, one reference set -/
def uI (I : Nat → Nat → Int32) (k j : Nat) (x : Int32) : Nat → Nat → Int32 := va_up I k (upd (I k) j x)
def uL (I : Nat → Nat → Int64) (k j : Nat) (x : Int64) : Nat → Nat → Int64 := va_up I k (va_up (I k) j x)
def uR (I : Nat → Nat → Option Nat) (k j : Nat) (x : Option Nat) : Nat → Nat → Option Nat := va_up I k (va_up (I k) j x)
theorem uI_row (I : Nat → Nat → Int32) (k j : Nat) (x : Int32) : uI I k j x k = upd (I k) j x := by simp [uI, va_up]
theorem uI_off (I : Nat → Nat → Int32) {k a : Nat} (j : Nat) (x : Int32) (h : a ≠ k) : uI I k j x a = I a := by simp [uI, va_up, h]
theorem uI_self (I : Nat → Nat → Int32) (k j : Nat) (x : Int32) : uI I k j x k j = x := by simp [uI, va_up, upd]
theorem uI_ne (I : Nat → Nat → Int32) (k : Nat) {j b : Nat} (x : Int32) (h : b ≠ j) : uI I k j x k b = I k b := by simp [uI, va_up, upd, h]
theorem uI_eq (I : Nat → Nat → Int32) (k j a b : Nat) (x : Int32) : uI I k j x a b = if a = k ∧ b = j then x else I a b := by
  by_cases h : a = k
  · subst h
    simp [uI, va_up, upd]
  · simp [uI, va_up, h]
theorem uL_off (I : Nat → Nat → Int64) {k a : Nat} (j : Nat) (x : Int64) (h : a ≠ k) : uL I k j x a = I a := by simp [uL, va_up, h]
theorem uL_self (I : Nat → Nat → Int64) (k j : Nat) (x : Int64) : uL I k j x k j = x := by simp [uL, va_up]
theorem uL_ne (I : Nat → Nat → Int64) (k : Nat) {j b : Nat} (x : Int64) (h : b ≠ j) : uL I k j x k b = I k b := by simp [uL, va_up, h]
theorem uL_eq (I : Nat → Nat → Int64) (k j a b : Nat) (x : Int64) : uL I k j x a b = if a = k ∧ b = j then x else I a b := by
  by_cases h : a = k
  · subst h
    simp [uL, va_up]
  · simp [uL, va_up, h]
theorem uR_off (I : Nat → Nat → Option Nat) {k a : Nat} (j : Nat) (x : Option Nat) (h : a ≠ k) : uR I k j x a = I a := by simp [uR, va_up, h]
theorem uR_self (I : Nat → Nat → Option Nat) (k j : Nat) (x : Option Nat) : uR I k j x k j = x := by simp [uR, va_up]
theorem uR_ne (I : Nat → Nat → Option Nat) (k : Nat) {j b : Nat} (x : Option Nat) (h : b ≠ j) : uR I k j x k b = I k b := by simp [uR, va_up, h]
/-- the tables' facts that a state has -/
def xNest : List Cond := lw_tbl.filter fun w => match w with | .methodLinkNest .. => true | _ => false
def xK (g : GlT) (U : State) : Prop := va_K g.2.1 xC (xTys g) U ∧ (∀ w ∈ xNest, va_Nw w U) ∧ va_AO "ArbitratedBus$Bus" U ∧ va_AO "ArbitratedBus$Node" U
theorem xK.warm {g : GlT} {s U : State} (hW : s.WarmedH U.vm) (h : xK g s) : xK g U := by
  refine ⟨va_K.moved hW.alike h.1, fun w hw => ?_, va_AO.moved hW.alike h.2.2.1, va_AO.moved hW.alike h.2.2.2⟩
  have h1 := h.2.1 w hw
  have h2 := (List.mem_filter.mp hw).2
  cases w <;> first | exact va_Nw.warmM hW h1 | (simp at h2)
theorem xK.same {g : GlT} {s U : State} (hW : s.vm = U.vm) (h : xK g s) : xK g U := by
  have ha : s.vm.Alike U.vm := by rw [hW]; exact Vm.Alike.refl _
  refine ⟨va_K.moved ha h.1, fun w hw => ?_, va_AO.moved ha h.2.2.1, va_AO.moved ha h.2.2.2⟩
  have h1 := h.2.1 w hw
  have h2 := (List.mem_filter.mp hw).2
  cases w <;> first | exact va_Nw.same rfl hW h1 | (simp at h2)
/-- room: frames and locals by the depth of the calls -/
def xR (X : XT) : Room := { frames := X.2.1, cells := X.2.2.1, slots := X.2.2.2, locals := 37 * X.2.1 }
def xQ (g : GlT) (Q : Option Value → MemT → Prop) : Array Value → State → Outcome → State → Prop := fun _ st o t => ∃ (r : Option Value) (M : MemT), o = .returned r ∧ Q r M ∧ xP g M t.heap ∧ va_F (xFr g) st t
def xCx (g : GlT) (X : XT) (p : Program) (s : State) (m : MethodId) (args : Array Value) (meth : Method) (c : Code) : Prop :=
  p.tables.exec = Jvm.exec ∧ c.code = X.1.2.1 ∧ c.maxLocals = X.1.2.2.1 ∧ meth.sig.returnType = X.1.2.2.2 ∧ meth.locks = false ∧ s.vm.findClass X.1.1.cls = some m.cls ∧ meth.name = X.1.1.name ∧ (∀ w ∈ xT, w.before args s = true) ∧ xK g s ∧ g.2.2.1 ≤ s.heap.size
/-- the judgement: from this place of the method, with these locals and stack and this memory, it returns with Q -/
def V (g : GlT) (X : XT) (kc ks pc : Nat) (lv : List (Nat × Value)) (st : List Value) (M : MemT) (Q : Option Value → MemT → Prop) : Prop :=
  ∀ (p : Program) (e : Env) (s : State) (m : MethodId) (args : Array Value) (below : List Frame) (meth : Method) (c : Code), xCx g X p s m args meth c →
    ∀ (H : Heap) (locs : List Loc) (ls : Array Slot), xP g M H → va_S (xFr g) s.heap H locs → lv_has ls X.1.2.2.1 lv →
      W p g.1 e (xR X) s m args below meth c H locs kc ks (MQ below (xQ g Q) args s X.2.2.1 X.2.2.2 (xFr g)) (F0 m pc ls st)
/-- a method's contract -/
def Call (g : GlT) (X : XT) (As : List Value) (M : MemT) (Q : Option Value → MemT → Prop) : Prop :=
  Met g.1 X.1.1 (.code X.1.1 X.1.2.1 X.1.2.2.1 X.1.2.2.2 :: xT) (xR X) (va_Pc As fun U => xP g M U.heap ∧ xK g U ∧ g.2.2.1 ≤ U.heap.size) (xQ g Q) X.2.2.1 X.2.2.2 (xFr g)
theorem Call.of {g : GlT} {X : XT} {As : List Value} {M : MemT} {Q : Option Value → MemT → Prop} {lv : List (Nat × Value)} (hy : plainName X.1.1.cls = true) (hlen : (lg_sl As).length ≤ X.1.2.2.1) (hlv : lv_args 0 As = lv) (h : V g X 0 0 0 lv [] M Q) : Call g X As M Q := by
  refine Met.ofW (cc := X.1.2.1) (maxL := X.1.2.2.1) (ret := X.1.2.2.2) hy rfl ?_
  intro p e s m args below meth c s₁ B hml hv
  obtain ⟨rfl, hP, hK, hz⟩ := hv
  have hts := atoms_spec (ws := .code X.1.1 X.1.2.1 X.1.2.2.1 X.1.2.2.2 :: xT) B.pre
  have hl := lv_entry As (n := X.1.2.2.1) hlen
  rw [lg_entry_eq]
  subst hlv
  exact h p e s m _ below meth c ⟨B.exec, B.bytes, hml, B.returns, B.notSynchronized, findClass_of_methodNamed B.named, (name_of_methodNamed B.named B.method).1, fun w hw => hts w (List.mem_cons_of_mem _ hw), hK, hz⟩ s.heap [] _ hP va_S.rf hl
end
section
section VR
variable {g : GlT} {X : XT} {kc ks pc pc1 : Nat} {lv lv1 : List (Nat × Value)} {st stk : List Value} {M : MemT} {Q : Option Value → MemT → Prop}
theorem V_iconst {n : Int} {v : Int32} (hd : decode X.1.2.1 pc = .ok (.iconst n, 1)) (hv : Int32.ofInt n = v) (hp : pc + 1 = pc1) (k : V g X kc ks pc1 lv (.int v :: st) M Q) : V g X kc ks pc lv st M Q := by
  subst hp
  intro p e s m args below meth c hC H locs ls hP hS hl
  exact lv_iconst hC.1 hC.2.1 hd hv (k p e s m args below meth c hC H locs ls hP hS hl)
theorem V_bipush {n : Int} {v : Int32} (hd : decode X.1.2.1 pc = .ok (.bipush n, 2)) (hv : (Int8.ofInt n).toInt32 = v) (hp : pc + 2 = pc1) (k : V g X kc ks pc1 lv (.int v :: st) M Q) : V g X kc ks pc lv st M Q := by
  subst hp
  intro p e s m args below meth c hC H locs ls hP hS hl
  exact lv_bipush hC.1 hC.2.1 hd hv (k p e s m args below meth c hC H locs ls hP hS hl)
theorem V_sipush {n : Int} {v : Int32} (hd : decode X.1.2.1 pc = .ok (.sipush n, 3)) (hv : (Int16.ofInt n).toInt32 = v) (hp : pc + 3 = pc1) (k : V g X kc ks pc1 lv (.int v :: st) M Q) : V g X kc ks pc lv st M Q := by
  subst hp
  intro p e s m args below meth c hC H locs ls hP hS hl
  exact lv_sipush hC.1 hC.2.1 hd hv (k p e s m args below meth c hC H locs ls hP hS hl)
theorem V_lconst {n : Fin 2} {v : Int64} (hd : decode X.1.2.1 pc = .ok (.lconst n, 1)) (hv : Int64.ofNat (n : Nat) = v) (hp : pc + 1 = pc1) (k : V g X kc ks pc1 lv (.long v :: st) M Q) : V g X kc ks pc lv st M Q := by
  subst hp
  intro p e s m args below meth c hC H locs ls hP hS hl
  exact lv_lconst hC.1 hC.2.1 hd hv (k p e s m args below meth c hC H locs ls hP hS hl)
theorem V_ldc2 {i : Nat} {v : Int64} (hd : decode X.1.2.1 pc = .ok (.ldc2_w i, 3)) (hw : Cond.constantLong X.1.1.cls i v ∈ xT) (hp : pc + 3 = pc1) (k : V g X kc ks pc1 lv (.long v :: st) M Q) : V g X kc ks pc lv st M Q := by
  subst hp
  intro p e s m args below meth c hC H locs ls hP hS hl
  exact lv_ldc2 hC.1 hC.2.1 hC.2.2.2.2.2.1 (hC.2.2.2.2.2.2.2.1 _ hw) hd (k p e s m args below meth c hC H locs ls hP hS hl)
theorem V_iload_n (q : Nat) {k : Fin 4} {x : Int32} (hd : decode X.1.2.1 pc = .ok (.iload_n k, 1)) (hq : lv[q]? = some ((k : Nat), .int x)) (hp : pc + 1 = pc1) (k : V g X kc ks pc1 lv (.int x :: st) M Q) : V g X kc ks pc lv st M Q := by
  subst hp
  intro p e s m args below meth c hC H locs ls hP hS hl
  exact lv_iload_n hC.1 hC.2.1 hd rfl (lv_at hl q hq) (k p e s m args below meth c hC H locs ls hP hS hl)
theorem V_iload (q : Nat) {i : Nat} {x : Int32} (hd : decode X.1.2.1 pc = .ok (.iload i, 2)) (hq : lv[q]? = some (i, .int x)) (hp : pc + 2 = pc1) (k : V g X kc ks pc1 lv (.int x :: st) M Q) : V g X kc ks pc lv st M Q := by
  subst hp
  intro p e s m args below meth c hC H locs ls hP hS hl
  exact lv_iload hC.1 hC.2.1 hd (lv_at hl q hq) (k p e s m args below meth c hC H locs ls hP hS hl)
theorem V_istore_n {k : Fin 4} {x : Int32} (hd : decode X.1.2.1 pc = .ok (.istore_n k, 1)) (hn : (k : Nat) < X.1.2.2.1) (hlv : ((k : Nat), Value.int x) :: lv.filter (fun q => !(q.1 == (k : Nat)) && !(q.1 + 1 == (k : Nat) && q.2.category == 2)) = lv1) (hp : pc + 1 = pc1) (kk : V g X kc ks pc1 lv1 st M Q) : V g X kc ks pc lv (.int x :: st) M Q := by
  subst hp
  intro p e s m args below meth c hC H locs ls hP hS hl
  exact lv_istore_n hC.1 hC.2.1 hd rfl hl hn hlv fun ls1 hl1 => kk p e s m args below meth c hC H locs ls1 hP hS hl1
theorem V_istore {i : Nat} {x : Int32} (hd : decode X.1.2.1 pc = .ok (.istore i, 2)) (hn : i < X.1.2.2.1) (hlv : (i, Value.int x) :: lv.filter (fun q => !(q.1 == i) && !(q.1 + 1 == i && q.2.category == 2)) = lv1) (hp : pc + 2 = pc1) (kk : V g X kc ks pc1 lv1 st M Q) : V g X kc ks pc lv (.int x :: st) M Q := by
  subst hp
  intro p e s m args below meth c hC H locs ls hP hS hl
  exact lv_istore hC.1 hC.2.1 hd hl hn hlv fun ls1 hl1 => kk p e s m args below meth c hC H locs ls1 hP hS hl1
theorem V_lload_n (q : Nat) {k : Fin 4} {x : Int64} (hd : decode X.1.2.1 pc = .ok (.lload_n k, 1)) (hq : lv[q]? = some ((k : Nat), .long x)) (hp : pc + 1 = pc1) (k : V g X kc ks pc1 lv (.long x :: st) M Q) : V g X kc ks pc lv st M Q := by
  subst hp
  intro p e s m args below meth c hC H locs ls hP hS hl
  exact lv_lload_n hC.1 hC.2.1 hd rfl (lv_at hl q hq) (k p e s m args below meth c hC H locs ls hP hS hl)
theorem V_lload (q : Nat) {i : Nat} {x : Int64} (hd : decode X.1.2.1 pc = .ok (.lload i, 2)) (hq : lv[q]? = some (i, .long x)) (hp : pc + 2 = pc1) (k : V g X kc ks pc1 lv (.long x :: st) M Q) : V g X kc ks pc lv st M Q := by
  subst hp
  intro p e s m args below meth c hC H locs ls hP hS hl
  exact lv_lload hC.1 hC.2.1 hd (lv_at hl q hq) (k p e s m args below meth c hC H locs ls hP hS hl)
theorem V_lstore_n {k : Fin 4} {x : Int64} (hd : decode X.1.2.1 pc = .ok (.lstore_n k, 1)) (hn : (k : Nat) + 1 < X.1.2.2.1) (hlv : ((k : Nat), Value.long x) :: lv.filter (fun q => !(q.1 == (k : Nat)) && (!(q.1 == (k : Nat) + 1) && !(q.1 + 1 == (k : Nat) && q.2.category == 2))) = lv1) (hp : pc + 1 = pc1) (kk : V g X kc ks pc1 lv1 st M Q) : V g X kc ks pc lv (.long x :: st) M Q := by
  subst hp
  intro p e s m args below meth c hC H locs ls hP hS hl
  exact lv_lstore_n hC.1 hC.2.1 hd rfl hl hn hlv fun ls1 hl1 => kk p e s m args below meth c hC H locs ls1 hP hS hl1
theorem V_lstore {i : Nat} {x : Int64} (hd : decode X.1.2.1 pc = .ok (.lstore i, 2)) (hn : i + 1 < X.1.2.2.1) (hlv : (i, Value.long x) :: lv.filter (fun q => !(q.1 == i) && (!(q.1 == i + 1) && !(q.1 + 1 == i && q.2.category == 2))) = lv1) (hp : pc + 2 = pc1) (kk : V g X kc ks pc1 lv1 st M Q) : V g X kc ks pc lv (.long x :: st) M Q := by
  subst hp
  intro p e s m args below meth c hC H locs ls hP hS hl
  exact lv_lstore hC.1 hC.2.1 hd hl hn hlv fun ls1 hl1 => kk p e s m args below meth c hC H locs ls1 hP hS hl1
theorem V_aload_n (q : Nat) {k : Fin 4} {x : Nat} (hd : decode X.1.2.1 pc = .ok (.aload_n k, 1)) (hq : lv[q]? = some ((k : Nat), .ref x)) (hp : pc + 1 = pc1) (k : V g X kc ks pc1 lv (.ref x :: st) M Q) : V g X kc ks pc lv st M Q := by
  subst hp
  intro p e s m args below meth c hC H locs ls hP hS hl
  exact lv_aload_n hC.1 hC.2.1 hd rfl (lv_at hl q hq) (k p e s m args below meth c hC H locs ls hP hS hl)
theorem V_aload (q : Nat) {i : Nat} {x : Nat} (hd : decode X.1.2.1 pc = .ok (.aload i, 2)) (hq : lv[q]? = some (i, .ref x)) (hp : pc + 2 = pc1) (k : V g X kc ks pc1 lv (.ref x :: st) M Q) : V g X kc ks pc lv st M Q := by
  subst hp
  intro p e s m args below meth c hC H locs ls hP hS hl
  exact lv_aload hC.1 hC.2.1 hd (lv_at hl q hq) (k p e s m args below meth c hC H locs ls hP hS hl)
theorem V_astore_n {k : Fin 4} {x : Nat} (hd : decode X.1.2.1 pc = .ok (.astore_n k, 1)) (hn : (k : Nat) < X.1.2.2.1) (hlv : ((k : Nat), Value.ref x) :: lv.filter (fun q => !(q.1 == (k : Nat)) && !(q.1 + 1 == (k : Nat) && q.2.category == 2)) = lv1) (hp : pc + 1 = pc1) (kk : V g X kc ks pc1 lv1 st M Q) : V g X kc ks pc lv (.ref x :: st) M Q := by
  subst hp
  intro p e s m args below meth c hC H locs ls hP hS hl
  exact lv_astore_n hC.1 hC.2.1 hd rfl hl hn hlv fun ls1 hl1 => kk p e s m args below meth c hC H locs ls1 hP hS hl1
theorem V_astore {i : Nat} {x : Nat} (hd : decode X.1.2.1 pc = .ok (.astore i, 2)) (hn : i < X.1.2.2.1) (hlv : (i, Value.ref x) :: lv.filter (fun q => !(q.1 == i) && !(q.1 + 1 == i && q.2.category == 2)) = lv1) (hp : pc + 2 = pc1) (kk : V g X kc ks pc1 lv1 st M Q) : V g X kc ks pc lv (.ref x :: st) M Q := by
  subst hp
  intro p e s m args below meth c hC H locs ls hP hS hl
  exact lv_astore hC.1 hC.2.1 hd hl hn hlv fun ls1 hl1 => kk p e s m args below meth c hC H locs ls1 hP hS hl1
theorem V_iinc (q : Nat) {i : Nat} {n : Int} {x v : Int32} (hd : decode X.1.2.1 pc = .ok (.iinc i n, 3)) (hq : lv[q]? = some (i, .int x)) (hv : x + Int32.ofInt n = v) (hn : i < X.1.2.2.1) (hlv : (i, Value.int v) :: lv.filter (fun q => !(q.1 == i) && !(q.1 + 1 == i && q.2.category == 2)) = lv1) (hp : pc + 3 = pc1) (kk : V g X kc ks pc1 lv1 st M Q) : V g X kc ks pc lv st M Q := by
  subst hp
  intro p e s m args below meth c hC H locs ls hP hS hl
  exact lv_iinc hC.1 hC.2.1 hd hl (k := q) hq hv hn hlv fun ls1 hl1 => kk p e s m args below meth c hC H locs ls1 hP hS hl1
theorem V_dup {v : Value} (hd : decode X.1.2.1 pc = .ok (.dup, 1)) (hv : v.category = 1) (hp : pc + 1 = pc1) (k : V g X kc ks pc1 lv (v :: v :: st) M Q) : V g X kc ks pc lv (v :: st) M Q := by
  subst hp
  intro p e s m args below meth c hC H locs ls hP hS hl
  exact lv_dup hC.1 hC.2.1 hd hv (k p e s m args below meth c hC H locs ls hP hS hl)
theorem V_dup2 {v w : Value} (hd : decode X.1.2.1 pc = .ok (.dup2, 1)) (hv : v.category = 1) (hw : w.category = 1) (hp : pc + 1 = pc1) (k : V g X kc ks pc1 lv (v :: w :: v :: w :: st) M Q) : V g X kc ks pc lv (v :: w :: st) M Q := by
  subst hp
  intro p e s m args below meth c hC H locs ls hP hS hl
  exact lv_dup2_11 hC.1 hC.2.1 hd hv hw (k p e s m args below meth c hC H locs ls hP hS hl)
theorem V_pop {v : Value} (hd : decode X.1.2.1 pc = .ok (.pop, 1)) (hv : v.category = 1) (hp : pc + 1 = pc1) (k : V g X kc ks pc1 lv st M Q) : V g X kc ks pc lv (v :: st) M Q := by
  subst hp
  intro p e s m args below meth c hC H locs ls hP hS hl
  exact lv_pop hC.1 hC.2.1 hd hv (k p e s m args below meth c hC H locs ls hP hS hl)
theorem V_iadd {x y : Int32} (hd : decode X.1.2.1 pc = .ok (.iadd, 1)) (hp : pc + 1 = pc1) (k : V g X kc ks pc1 lv (.int (x + y) :: st) M Q) : V g X kc ks pc lv (.int y :: .int x :: st) M Q := by
  subst hp
  intro p e s m args below meth c hC H locs ls hP hS hl
  exact lv_iadd hC.1 hC.2.1 hd (k p e s m args below meth c hC H locs ls hP hS hl)
theorem V_isub {x y : Int32} (hd : decode X.1.2.1 pc = .ok (.isub, 1)) (hp : pc + 1 = pc1) (k : V g X kc ks pc1 lv (.int (x - y) :: st) M Q) : V g X kc ks pc lv (.int y :: .int x :: st) M Q := by
  subst hp
  intro p e s m args below meth c hC H locs ls hP hS hl
  exact lv_isub hC.1 hC.2.1 hd (k p e s m args below meth c hC H locs ls hP hS hl)
theorem V_imul {x y : Int32} (hd : decode X.1.2.1 pc = .ok (.imul, 1)) (hp : pc + 1 = pc1) (k : V g X kc ks pc1 lv (.int (x * y) :: st) M Q) : V g X kc ks pc lv (.int y :: .int x :: st) M Q := by
  subst hp
  intro p e s m args below meth c hC H locs ls hP hS hl
  exact lv_imul hC.1 hC.2.1 hd (k p e s m args below meth c hC H locs ls hP hS hl)
theorem V_iand {x y : Int32} (hd : decode X.1.2.1 pc = .ok (.iand, 1)) (hp : pc + 1 = pc1) (k : V g X kc ks pc1 lv (.int (x &&& y) :: st) M Q) : V g X kc ks pc lv (.int y :: .int x :: st) M Q := by
  subst hp
  intro p e s m args below meth c hC H locs ls hP hS hl
  exact lv_iand hC.1 hC.2.1 hd (k p e s m args below meth c hC H locs ls hP hS hl)
theorem V_ior {x y : Int32} (hd : decode X.1.2.1 pc = .ok (.ior, 1)) (hp : pc + 1 = pc1) (k : V g X kc ks pc1 lv (.int (x ||| y) :: st) M Q) : V g X kc ks pc lv (.int y :: .int x :: st) M Q := by
  subst hp
  intro p e s m args below meth c hC H locs ls hP hS hl
  exact lv_ior hC.1 hC.2.1 hd (k p e s m args below meth c hC H locs ls hP hS hl)
theorem V_ixor {x y : Int32} (hd : decode X.1.2.1 pc = .ok (.ixor, 1)) (hp : pc + 1 = pc1) (k : V g X kc ks pc1 lv (.int (x ^^^ y) :: st) M Q) : V g X kc ks pc lv (.int y :: .int x :: st) M Q := by
  subst hp
  intro p e s m args below meth c hC H locs ls hP hS hl
  exact lv_ixor hC.1 hC.2.1 hd (k p e s m args below meth c hC H locs ls hP hS hl)
theorem V_ishl {x y : Int32} (hd : decode X.1.2.1 pc = .ok (.ishl, 1)) (hp : pc + 1 = pc1) (k : V g X kc ks pc1 lv (.int (x <<< (y &&& 31)) :: st) M Q) : V g X kc ks pc lv (.int y :: .int x :: st) M Q := by
  subst hp
  intro p e s m args below meth c hC H locs ls hP hS hl
  exact lv_ishl hC.1 hC.2.1 hd (k p e s m args below meth c hC H locs ls hP hS hl)
theorem V_ishr {x y : Int32} (hd : decode X.1.2.1 pc = .ok (.ishr, 1)) (hp : pc + 1 = pc1) (k : V g X kc ks pc1 lv (.int (x >>> (y &&& 31)) :: st) M Q) : V g X kc ks pc lv (.int y :: .int x :: st) M Q := by
  subst hp
  intro p e s m args below meth c hC H locs ls hP hS hl
  exact lv_ishr hC.1 hC.2.1 hd (k p e s m args below meth c hC H locs ls hP hS hl)
theorem V_idiv {x y : Int32} (hd : decode X.1.2.1 pc = .ok (.idiv, 1)) (hne : ¬ y = 0) (hp : pc + 1 = pc1) (k : V g X kc ks pc1 lv (.int (x / y) :: st) M Q) : V g X kc ks pc lv (.int y :: .int x :: st) M Q := by
  subst hp
  intro p e s m args below meth c hC H locs ls hP hS hl
  exact lv_idiv hC.1 hC.2.1 hd hne (k p e s m args below meth c hC H locs ls hP hS hl)
theorem V_irem {x y : Int32} (hd : decode X.1.2.1 pc = .ok (.irem, 1)) (hne : ¬ y = 0) (hp : pc + 1 = pc1) (k : V g X kc ks pc1 lv (.int (x - x / y * y) :: st) M Q) : V g X kc ks pc lv (.int y :: .int x :: st) M Q := by
  subst hp
  intro p e s m args below meth c hC H locs ls hP hS hl
  exact lv_irem hC.1 hC.2.1 hd hne (k p e s m args below meth c hC H locs ls hP hS hl)
theorem V_iushr {x y : Int32} (hd : decode X.1.2.1 pc = .ok (.iushr, 1)) (hp : pc + 1 = pc1) (k : V g X kc ks pc1 lv (.int ((x.toUInt32 >>> (y.toUInt32 &&& Int32.toUInt32 31)).toInt32) :: st) M Q) : V g X kc ks pc lv (.int y :: .int x :: st) M Q := by
  subst hp
  intro p e s m args below meth c hC H locs ls hP hS hl
  exact lv_iushr hC.1 hC.2.1 hd rfl (k p e s m args below meth c hC H locs ls hP hS hl)
theorem V_ladd {x y : Int64} (hd : decode X.1.2.1 pc = .ok (.ladd, 1)) (hp : pc + 1 = pc1) (k : V g X kc ks pc1 lv (.long (x + y) :: st) M Q) : V g X kc ks pc lv (.long y :: .long x :: st) M Q := by
  subst hp
  intro p e s m args below meth c hC H locs ls hP hS hl
  exact lv_ladd hC.1 hC.2.1 hd (k p e s m args below meth c hC H locs ls hP hS hl)
theorem V_lsub {x y : Int64} (hd : decode X.1.2.1 pc = .ok (.lsub, 1)) (hp : pc + 1 = pc1) (k : V g X kc ks pc1 lv (.long (x - y) :: st) M Q) : V g X kc ks pc lv (.long y :: .long x :: st) M Q := by
  subst hp
  intro p e s m args below meth c hC H locs ls hP hS hl
  exact lv_lsub hC.1 hC.2.1 hd (k p e s m args below meth c hC H locs ls hP hS hl)
theorem V_lmul {x y : Int64} (hd : decode X.1.2.1 pc = .ok (.lmul, 1)) (hp : pc + 1 = pc1) (k : V g X kc ks pc1 lv (.long (x * y) :: st) M Q) : V g X kc ks pc lv (.long y :: .long x :: st) M Q := by
  subst hp
  intro p e s m args below meth c hC H locs ls hP hS hl
  exact lv_lmul hC.1 hC.2.1 hd (k p e s m args below meth c hC H locs ls hP hS hl)
theorem V_land {x y : Int64} (hd : decode X.1.2.1 pc = .ok (.land, 1)) (hp : pc + 1 = pc1) (k : V g X kc ks pc1 lv (.long (x &&& y) :: st) M Q) : V g X kc ks pc lv (.long y :: .long x :: st) M Q := by
  subst hp
  intro p e s m args below meth c hC H locs ls hP hS hl
  exact lv_land hC.1 hC.2.1 hd (k p e s m args below meth c hC H locs ls hP hS hl)
theorem V_lor {x y : Int64} (hd : decode X.1.2.1 pc = .ok (.lor, 1)) (hp : pc + 1 = pc1) (k : V g X kc ks pc1 lv (.long (x ||| y) :: st) M Q) : V g X kc ks pc lv (.long y :: .long x :: st) M Q := by
  subst hp
  intro p e s m args below meth c hC H locs ls hP hS hl
  exact lv_lor hC.1 hC.2.1 hd (k p e s m args below meth c hC H locs ls hP hS hl)
theorem V_lshl {x : Int64} {y : Int32} (hd : decode X.1.2.1 pc = .ok (.lshl, 1)) (hp : pc + 1 = pc1) (k : V g X kc ks pc1 lv (.long (x <<< (y.toInt64 &&& 63)) :: st) M Q) : V g X kc ks pc lv (.int y :: .long x :: st) M Q := by
  subst hp
  intro p e s m args below meth c hC H locs ls hP hS hl
  exact lv_lshl hC.1 hC.2.1 hd rfl (k p e s m args below meth c hC H locs ls hP hS hl)
theorem V_lushr {x : Int64} {y : Int32} (hd : decode X.1.2.1 pc = .ok (.lushr, 1)) (hp : pc + 1 = pc1) (k : V g X kc ks pc1 lv (.long ((x.toUInt64 >>> (y.toInt64.toUInt64 &&& Int64.toUInt64 63)).toInt64) :: st) M Q) : V g X kc ks pc lv (.int y :: .long x :: st) M Q := by
  subst hp
  intro p e s m args below meth c hC H locs ls hP hS hl
  exact lv_lushr hC.1 hC.2.1 hd rfl (k p e s m args below meth c hC H locs ls hP hS hl)
theorem V_i2l {x : Int32} (hd : decode X.1.2.1 pc = .ok (.i2l, 1)) (hp : pc + 1 = pc1) (k : V g X kc ks pc1 lv (.long x.toInt64 :: st) M Q) : V g X kc ks pc lv (.int x :: st) M Q := by
  subst hp
  intro p e s m args below meth c hC H locs ls hP hS hl
  exact lv_i2l hC.1 hC.2.1 hd rfl (k p e s m args below meth c hC H locs ls hP hS hl)
theorem V_l2i {x : Int64} (hd : decode X.1.2.1 pc = .ok (.l2i, 1)) (hp : pc + 1 = pc1) (k : V g X kc ks pc1 lv (.int x.toInt32 :: st) M Q) : V g X kc ks pc lv (.long x :: st) M Q := by
  subst hp
  intro p e s m args below meth c hC H locs ls hP hS hl
  exact lv_l2i hC.1 hC.2.1 hd rfl (k p e s m args below meth c hC H locs ls hP hS hl)
theorem V_lcmp {x y : Int64} (hd : decode X.1.2.1 pc = .ok (.lcmp, 1)) (hp : pc + 1 = pc1) (k : V g X kc ks pc1 lv (.int (lg_cmp x y) :: st) M Q) : V g X kc ks pc lv (.long y :: .long x :: st) M Q := by
  subst hp
  intro p e s m args below meth c hC H locs ls hP hS hl
  exact W.lcmp hC.1 hC.2.1 hd (k p e s m args below meth c hC H locs ls hP hS hl)
theorem V_icmp_eq {x y : Int32} {off : Int} {tgt : Nat} (hd : decode X.1.2.1 pc = .ok (.if_icmp .eq off, 3)) (ht : (pc : Int) + off = (tgt : Int)) (hp : pc + 3 = pc1) (kt : x = y → V g X kc ks tgt lv st M Q) (kf : ¬ x = y → V g X kc ks pc1 lv st M Q) : V g X kc ks pc lv (.int y :: .int x :: st) M Q := by
  subst hp
  intro p e s m args below meth c hC H locs ls hP hS hl
  exact lv_icmp_eq hC.1 hC.2.1 hd ht (fun q => kt q p e s m args below meth c hC H locs ls hP hS hl) (fun q => kf q p e s m args below meth c hC H locs ls hP hS hl)
theorem V_if_eq {x : Int32} {off : Int} {tgt : Nat} (hd : decode X.1.2.1 pc = .ok (.ifCond .eq off, 3)) (ht : (pc : Int) + off = (tgt : Int)) (hp : pc + 3 = pc1) (kt : x = 0 → V g X kc ks tgt lv st M Q) (kf : ¬ x = 0 → V g X kc ks pc1 lv st M Q) : V g X kc ks pc lv (.int x :: st) M Q := by
  subst hp
  intro p e s m args below meth c hC H locs ls hP hS hl
  exact lv_if_eq hC.1 hC.2.1 hd ht (fun q => kt q p e s m args below meth c hC H locs ls hP hS hl) (fun q => kf q p e s m args below meth c hC H locs ls hP hS hl)
theorem V_icmp_ne {x y : Int32} {off : Int} {tgt : Nat} (hd : decode X.1.2.1 pc = .ok (.if_icmp .ne off, 3)) (ht : (pc : Int) + off = (tgt : Int)) (hp : pc + 3 = pc1) (kt : ¬ x = y → V g X kc ks tgt lv st M Q) (kf : x = y → V g X kc ks pc1 lv st M Q) : V g X kc ks pc lv (.int y :: .int x :: st) M Q := by
  subst hp
  intro p e s m args below meth c hC H locs ls hP hS hl
  exact lv_icmp_ne hC.1 hC.2.1 hd ht (fun q => kt q p e s m args below meth c hC H locs ls hP hS hl) (fun q => kf q p e s m args below meth c hC H locs ls hP hS hl)
theorem V_if_ne {x : Int32} {off : Int} {tgt : Nat} (hd : decode X.1.2.1 pc = .ok (.ifCond .ne off, 3)) (ht : (pc : Int) + off = (tgt : Int)) (hp : pc + 3 = pc1) (kt : ¬ x = 0 → V g X kc ks tgt lv st M Q) (kf : x = 0 → V g X kc ks pc1 lv st M Q) : V g X kc ks pc lv (.int x :: st) M Q := by
  subst hp
  intro p e s m args below meth c hC H locs ls hP hS hl
  exact lv_if_ne hC.1 hC.2.1 hd ht (fun q => kt q p e s m args below meth c hC H locs ls hP hS hl) (fun q => kf q p e s m args below meth c hC H locs ls hP hS hl)
theorem V_icmp_lt {x y : Int32} {off : Int} {tgt : Nat} (hd : decode X.1.2.1 pc = .ok (.if_icmp .lt off, 3)) (ht : (pc : Int) + off = (tgt : Int)) (hp : pc + 3 = pc1) (kt : x < y → V g X kc ks tgt lv st M Q) (kf : ¬ x < y → V g X kc ks pc1 lv st M Q) : V g X kc ks pc lv (.int y :: .int x :: st) M Q := by
  subst hp
  intro p e s m args below meth c hC H locs ls hP hS hl
  exact lv_icmp_lt hC.1 hC.2.1 hd ht (fun q => kt q p e s m args below meth c hC H locs ls hP hS hl) (fun q => kf q p e s m args below meth c hC H locs ls hP hS hl)
theorem V_if_lt {x : Int32} {off : Int} {tgt : Nat} (hd : decode X.1.2.1 pc = .ok (.ifCond .lt off, 3)) (ht : (pc : Int) + off = (tgt : Int)) (hp : pc + 3 = pc1) (kt : x < 0 → V g X kc ks tgt lv st M Q) (kf : ¬ x < 0 → V g X kc ks pc1 lv st M Q) : V g X kc ks pc lv (.int x :: st) M Q := by
  subst hp
  intro p e s m args below meth c hC H locs ls hP hS hl
  exact lv_if_lt hC.1 hC.2.1 hd ht (fun q => kt q p e s m args below meth c hC H locs ls hP hS hl) (fun q => kf q p e s m args below meth c hC H locs ls hP hS hl)
theorem V_icmp_ge {x y : Int32} {off : Int} {tgt : Nat} (hd : decode X.1.2.1 pc = .ok (.if_icmp .ge off, 3)) (ht : (pc : Int) + off = (tgt : Int)) (hp : pc + 3 = pc1) (kt : y ≤ x → V g X kc ks tgt lv st M Q) (kf : ¬ y ≤ x → V g X kc ks pc1 lv st M Q) : V g X kc ks pc lv (.int y :: .int x :: st) M Q := by
  subst hp
  intro p e s m args below meth c hC H locs ls hP hS hl
  exact lv_icmp_ge hC.1 hC.2.1 hd ht (fun q => kt q p e s m args below meth c hC H locs ls hP hS hl) (fun q => kf q p e s m args below meth c hC H locs ls hP hS hl)
theorem V_if_ge {x : Int32} {off : Int} {tgt : Nat} (hd : decode X.1.2.1 pc = .ok (.ifCond .ge off, 3)) (ht : (pc : Int) + off = (tgt : Int)) (hp : pc + 3 = pc1) (kt : 0 ≤ x → V g X kc ks tgt lv st M Q) (kf : ¬ 0 ≤ x → V g X kc ks pc1 lv st M Q) : V g X kc ks pc lv (.int x :: st) M Q := by
  subst hp
  intro p e s m args below meth c hC H locs ls hP hS hl
  exact lv_if_ge hC.1 hC.2.1 hd ht (fun q => kt q p e s m args below meth c hC H locs ls hP hS hl) (fun q => kf q p e s m args below meth c hC H locs ls hP hS hl)
theorem V_icmp_gt {x y : Int32} {off : Int} {tgt : Nat} (hd : decode X.1.2.1 pc = .ok (.if_icmp .gt off, 3)) (ht : (pc : Int) + off = (tgt : Int)) (hp : pc + 3 = pc1) (kt : y < x → V g X kc ks tgt lv st M Q) (kf : ¬ y < x → V g X kc ks pc1 lv st M Q) : V g X kc ks pc lv (.int y :: .int x :: st) M Q := by
  subst hp
  intro p e s m args below meth c hC H locs ls hP hS hl
  exact lv_icmp_gt hC.1 hC.2.1 hd ht (fun q => kt q p e s m args below meth c hC H locs ls hP hS hl) (fun q => kf q p e s m args below meth c hC H locs ls hP hS hl)
theorem V_if_gt {x : Int32} {off : Int} {tgt : Nat} (hd : decode X.1.2.1 pc = .ok (.ifCond .gt off, 3)) (ht : (pc : Int) + off = (tgt : Int)) (hp : pc + 3 = pc1) (kt : 0 < x → V g X kc ks tgt lv st M Q) (kf : ¬ 0 < x → V g X kc ks pc1 lv st M Q) : V g X kc ks pc lv (.int x :: st) M Q := by
  subst hp
  intro p e s m args below meth c hC H locs ls hP hS hl
  exact lv_if_gt hC.1 hC.2.1 hd ht (fun q => kt q p e s m args below meth c hC H locs ls hP hS hl) (fun q => kf q p e s m args below meth c hC H locs ls hP hS hl)
theorem V_icmp_le {x y : Int32} {off : Int} {tgt : Nat} (hd : decode X.1.2.1 pc = .ok (.if_icmp .le off, 3)) (ht : (pc : Int) + off = (tgt : Int)) (hp : pc + 3 = pc1) (kt : x ≤ y → V g X kc ks tgt lv st M Q) (kf : ¬ x ≤ y → V g X kc ks pc1 lv st M Q) : V g X kc ks pc lv (.int y :: .int x :: st) M Q := by
  subst hp
  intro p e s m args below meth c hC H locs ls hP hS hl
  exact lv_icmp_le hC.1 hC.2.1 hd ht (fun q => kt q p e s m args below meth c hC H locs ls hP hS hl) (fun q => kf q p e s m args below meth c hC H locs ls hP hS hl)
theorem V_if_le {x : Int32} {off : Int} {tgt : Nat} (hd : decode X.1.2.1 pc = .ok (.ifCond .le off, 3)) (ht : (pc : Int) + off = (tgt : Int)) (hp : pc + 3 = pc1) (kt : x ≤ 0 → V g X kc ks tgt lv st M Q) (kf : ¬ x ≤ 0 → V g X kc ks pc1 lv st M Q) : V g X kc ks pc lv (.int x :: st) M Q := by
  subst hp
  intro p e s m args below meth c hC H locs ls hP hS hl
  exact lv_if_le hC.1 hC.2.1 hd ht (fun q => kt q p e s m args below meth c hC H locs ls hP hS hl) (fun q => kf q p e s m args below meth c hC H locs ls hP hS hl)
theorem V_goto {off : Int} {tgt : Nat} (hd : decode X.1.2.1 pc = .ok (.goto off, 3)) (ht : (pc : Int) + off = (tgt : Int)) (k : V g X kc ks tgt lv st M Q) : V g X kc ks pc lv st M Q := by
  intro p e s m args below meth c hC H locs ls hP hS hl
  exact lv_goto hC.1 hC.2.1 hd ht (k p e s m args below meth c hC H locs ls hP hS hl)
theorem V_tsIn {dflt lo hi : Int} {offs : Array Int} {len : Nat} {x : Int32} {off : Int} {tgt : Nat} (v : Int32) (hx : x = v) (hd : decode X.1.2.1 pc = .ok (.tableswitch dflt lo hi offs, len)) (h1 : ¬ v.toInt < lo) (h2 : ¬ hi < v.toInt) (ho : offs[(v.toInt - lo).toNat]? = some off) (ht : (pc : Int) + off = (tgt : Int)) (k : V g X kc ks tgt lv st M Q) : V g X kc ks pc lv (.int x :: st) M Q := by
  subst hx
  intro p e s m args below meth c hC H locs ls hP hS hl
  exact lv_tableIn hC.1 hC.2.1 hd h1 h2 ho ht (k p e s m args below meth c hC H locs ls hP hS hl)
theorem ts_out {x : Int32} {lo hi : Int} (h : ∀ i : Int, lo ≤ i → i ≤ hi → ¬ x = Int32.ofInt i) : x.toInt < lo ∨ hi < x.toInt := by
  by_cases h1 : x.toInt < lo
  · exact Or.inl h1
  · by_cases h2 : hi < x.toInt
    · exact Or.inr h2
    · exact absurd (Int32.ofInt_toInt x).symm (h x.toInt (by omega) (by omega))
theorem V_tsOut {dflt lo hi : Int} {offs : Array Int} {len : Nat} {x : Int32} {tgt : Nat} (hd : decode X.1.2.1 pc = .ok (.tableswitch dflt lo hi offs, len)) (hx : ∀ i : Int, lo ≤ i → i ≤ hi → ¬ x = Int32.ofInt i) (ht : (pc : Int) + dflt = (tgt : Int)) (k : V g X kc ks tgt lv st M Q) : V g X kc ks pc lv (.int x :: st) M Q := by
  intro p e s m args below meth c hC H locs ls hP hS hl
  exact lv_tableOut hC.1 hC.2.1 hd (ts_out hx) ht (k p e s m args below meth c hC H locs ls hP hS hl)
/-- a field's link: the class's number, the slot -/
def fOK (own : String) (idx ci j : Nat) : Prop := ∃ q : vw_C, xC[ci]? = some q ∧ j < q.2.2 ∧ (Cond.fieldLink own idx (q.2.1 j).1 (q.2.1 j).2.1 (q.2.1 j).2.2.1) ∈ xT
def xFin (ci j : Nat) : Bool := match xC[ci]? with
  | some q => (q.2.1 j).2.2.2
  | none => false
def xDcl (ci j : Nat) : String := match xC[ci]? with
  | some q => (q.2.1 j).1
  | none => ""
theorem V_get {k ci j idx : Nat} {v : Value} (hl0 : lay k = (0, ci)) (hk : k < M.2.2.2) (hf : fOK X.1.1.cls idx ci j) (hv : xF g M k j (xTy ci j) = v) (hd : decode X.1.2.1 pc = .ok (.getfield idx, 3)) (hp : pc + 3 = pc1) (kk : V g X kc ks pc1 lv (v :: st) M Q) : V g X kc ks pc lv (.ref (xA g k) :: st) M Q := by
  subst hp
  intro p e s m args below meth c hC H locs ls hP hS hl
  obtain ⟨⟨C, T, N⟩, h1, h2, h3⟩ := hf
  obtain ⟨h4, h5, -, -⟩ := xC_ok ci _ h1
  have h2 : j < N := h2
  have h4 : N = xN ci := h4
  refine va_get (D := g.2.1) (ci := ci) (v := v) (C := C) (T := T) (N := N) hC.1 hC.2.1 hC.2.2.2.2.2.2.2.1 h5 hC.2.2.2.2.2.1 hC.2.2.2.2.2.2.2.2.1.1 hP.2 k ((xW_get hk).trans (by rw [xE_obj hl0])) h1 j h2 (hC.2.2.2.2.2.2.2.1 _ h3) (fun _ h => h) ?_ hd (kk p e s m args below meth c hC H locs ls hP hS hl)
  rw [xFs_get (h4 ▸ h2), hv]
theorem xP_set {M' : MemT} {k : Nat} {H H1 : Heap} {e0 : va_E} (hP : xP g M H) (hk : k < M.2.2.2) (hn : M'.2.2.2 = M.2.2.2) (h : ∀ j, j ≠ k → xE g M' j = xE g M j) (he : va_at g.2.1 xC (xA g k, xE g M' k) H1) (z : H1.size = H.size) (oq : ∀ q : Nat, q ≠ xA g k → H1[q]? = H[q]?) : xP g M' H1 := by
  refine ⟨fun hh => ?_, ?_⟩
  · rw [z, hn]
    exact hP.1 (by rw [← hn]; exact hh)
  · rw [← xW_set hn h]
    exact hP.2.set (xW_D g M) (xW_get hk) he oq
theorem V_putx {k ci j idx : Nat} {x : Value} {M' : MemT} (hl0 : lay k = (0, ci)) (hk : k < M.2.2.2) (hf : fOK X.1.1.cls idx ci j) (hfin : xFin ci j = false ∨ (xFin ci j = true ∧ X.1.1.name = "<init>" ∧ xDcl ci j = X.1.1.cls)) (hn : narrow (xTy ci j) x = x) (hfit : fits (xTy ci j) x = true) (hM : M'.2.2.2 = M.2.2.2) (ho : ∀ i, i ≠ k → xE g M' i = xE g M i) (hv : xF g M' k j (xTy ci j) = x) (hs : ∀ i, i ≠ j → xF g M' k i (xTy ci i) = xF g M k i (xTy ci i))
    (hd : decode X.1.2.1 pc = .ok (.putfield idx, 3)) (hp : pc + 3 = pc1) (kk : V g X kc ks pc1 lv st M' Q) : V g X kc ks pc lv (x :: .ref (xA g k) :: st) M Q := by
  subst hp
  intro p e s m args below meth c hC H locs ls hP hS0 hl
  obtain ⟨hexec, hb, -, -, -, hown, hnm0, hts, hKK, -⟩ := id hC
  obtain ⟨⟨C, T, N⟩, hc, h2, h3⟩ := hf
  obtain ⟨h4, hin, hty, hnm⟩ := xC_ok ci _ hc
  have h2 : j < N := h2
  have h4 : N = xN ci := h4
  have hK := hKK.1
  have hap := va_apart (own := X.1.1.cls) hts hin (xTy ci) hty hnm hK hc
  have he : (xW g M)[k]? = some (xA g k, .inr (ci, xFs g M k ci)) := (xW_get hk).trans (by rw [xE_obj hl0])
  obtain ⟨r, h1, cell, q1, q2, q3, q4⟩ := hP.2 k _ he
  have hr : r = (C, T, N) := Option.some.inj (h1.symm.trans hc)
  subst hr
  obtain ⟨hS, hfc, kC, hkC, hkind⟩ := hK.1 ci _ hc
  obtain ⟨cf, kf, fi, f, hi, hsl⟩ := hS j h2
  have hlay := hts _ (hin _ (u_in_lay h2))
  unfold u_lay at hlay
  have hst := (u_facts hfc hkC (u_lays hts hin h2) hi).1
  have hjl : j < (xFs g M k ci).length := by rw [xFs_len, ← h4]; exact h2
  have goal : ∀ (H' : Heap) (l1 : List Loc), H'[xA g k]? = some (cell.setSlot f.slot x) → H'.size = H.size → (∀ q, q ≠ xA g k → H'[q]? = H[q]?) → l1 = locs ++ [⟨xA g k, f.slot⟩] → W p g.1 e (xR X) s m args below meth c H' l1 kc ks (MQ below (xQ g Q) args s X.2.2.1 X.2.2.2 (xFr g)) (F0 m (pc + 3) ls st) := by
    intro H' l1 e1 e2 e3 el
    subst el
    rw [hsl] at e1 ⊢
    refine kk p e s m args below meth c hC H' _ ls (xP_set (e0 := .inr (ci, [])) hP hk hM ho ?_ e2 e3) (hS0.put e2 e3 (xFr_A g k)) hl
    rw [xE_obj hl0, ← xFs_set hv hs]
    exact ⟨_, hc, t_OB.to (V := updV (vp_V (xFs g M k ci)) j x) ⟨_, e1, q2, q3, t_set q4 hap h2 x⟩ (fun i _ => vp_updV_set hjl x i)⟩
  have ef : xFin ci j = (T j).2.2.2 := by unfold xFin; rw [hc]
  have ed : xDcl ci j = (T j).1 := by unfold xDcl; rw [hc]
  rcases hfin with hfin | ⟨hfin, hini, hdecl⟩
  · rw [ef] at hfin
    rw [if_neg (by rw [hfin]; decide)] at hlay
    have h6 := u_store hfc hkC hkind hlay hi (hty j h2) hn hfit
    exact W.putK hexec hb (f := f) ⟨hown, hts _ h3, ⟨_, _, _, hi⟩, hst⟩ (by rw [q2]; exact h6) q1 q3 (by rw [hsl]; exact k2_hasslot (q4 j h2)) rfl rfl hd fun H' e1 e2 e3 => goal H' _ e1 e2 e3 rfl
  · rw [ef] at hfin
    rw [ed] at hdecl
    rw [if_pos hfin] at hlay
    have hcf : m.cls = cf := by
      obtain ⟨_, _, c', _, _, _, -, -, hf', -, -, -, hown2, -⟩ := Cond.laysFinal_spec hlay
      have e1 : c' = cf := by have := hi.symm.trans hf'; simp at this; exact this.1.symm
      rw [hdecl] at hown2
      rw [← e1]; exact Option.some.inj (hown.symm.trans hown2)
    have h6 := u_fits hfc hkC hkind (Or.inr hlay) hi (hty j h2) hn hfit
    exact W.putFinK hexec hb hown (hts _ h3) hi hst hcf (hnm0.trans hini) (by rw [q2]; exact h6) q1 q3 (by rw [hsl]; exact k2_hasslot (q4 j h2)) rfl rfl hd fun H' e1 e2 e3 => goal H' _ e1 e2 e3 rfl
theorem xF_ne {M' : MemT} {k i : Nat} {ty : FieldType} (h1 : M'.1 k i = M.1 k i) (h2 : M'.2.1 k i = M.2.1 k i) (h3 : M'.2.2.1 k i = M.2.2.1 k i) : xF g M' k i ty = xF g M k i ty := by
  unfold xF
  rw [h1, h2, h3]
theorem V_puti {k ci j idx : Nat} {x : Int32} {I : Nat → Nat → Int32} {L : Nat → Nat → Int64} {RN : (Nat → Nat → Option Nat) × Nat} (hl0 : lay k = (0, ci)) (hk : k < RN.2) (hf : fOK X.1.1.cls idx ci j) (hfin : xFin ci j = false) (hty : xTy ci j = .int) (hd : decode X.1.2.1 pc = .ok (.putfield idx, 3)) (hp : pc + 3 = pc1) (kk : V g X kc ks pc1 lv st (uI I k j x, L, RN) Q) : V g X kc ks pc lv (.int x :: .ref (xA g k) :: st) (I, L, RN) Q := by
  refine V_putx (M' := (uI I k j x, L, RN)) hl0 hk hf (Or.inl hfin) ?_ ?_ rfl (fun i hi => xE_congr (uI_off I j x hi) rfl rfl) ?_ (fun i hi => xF_ne (uI_ne I k x hi) rfl rfl) hd hp kk
  · rw [hty]; rfl
  · rw [hty]; rfl
  · rw [hty]
    show Value.int (uI I k j x k j) = _
    rw [uI_self]
theorem V_putz {k ci j idx : Nat} {x : Int32} {I : Nat → Nat → Int32} {L : Nat → Nat → Int64} {RN : (Nat → Nat → Option Nat) × Nat} (hl0 : lay k = (0, ci)) (hk : k < RN.2) (hf : fOK X.1.1.cls idx ci j) (hfin : xFin ci j = false) (hty : xTy ci j = .boolean) (hx : x = 0 ∨ x = 1) (hd : decode X.1.2.1 pc = .ok (.putfield idx, 3)) (hp : pc + 3 = pc1) (kk : V g X kc ks pc1 lv st (uI I k j x, L, RN) Q) : V g X kc ks pc lv (.int x :: .ref (xA g k) :: st) (I, L, RN) Q := by
  refine V_putx (M' := (uI I k j x, L, RN)) hl0 hk hf (Or.inl hfin) ?_ ?_ rfl (fun i hi => xE_congr (uI_off I j x hi) rfl rfl) ?_ (fun i hi => xF_ne (uI_ne I k x hi) rfl rfl) hd hp kk
  · rw [hty]; rcases hx with rfl | rfl <;> decide
  · rw [hty]; rcases hx with rfl | rfl <;> decide
  · rw [hty]
    show Value.int (uI I k j x k j) = _
    rw [uI_self]
theorem V_putl {k ci j idx : Nat} {x : Int64} {I : Nat → Nat → Int32} {L : Nat → Nat → Int64} {RN : (Nat → Nat → Option Nat) × Nat} (hl0 : lay k = (0, ci)) (hk : k < RN.2) (hf : fOK X.1.1.cls idx ci j) (hfin : xFin ci j = false) (hty : xTy ci j = .long) (hd : decode X.1.2.1 pc = .ok (.putfield idx, 3)) (hp : pc + 3 = pc1) (kk : V g X kc ks pc1 lv st (I, uL L k j x, RN) Q) : V g X kc ks pc lv (.long x :: .ref (xA g k) :: st) (I, L, RN) Q := by
  refine V_putx (M' := (I, uL L k j x, RN)) hl0 hk hf (Or.inl hfin) ?_ ?_ rfl (fun i hi => xE_congr rfl (uL_off L j x hi) rfl) ?_ (fun i hi => xF_ne rfl (uL_ne L k x hi) rfl) hd hp kk
  · rw [hty]; rfl
  · rw [hty]; rfl
  · rw [hty]
    show Value.long (uL L k j x k j) = _
    rw [uL_self]
/-- a final reference, in a constructor -/
theorem V_putr {k ci j idx t : Nat} {I : Nat → Nat → Int32} {L : Nat → Nat → Int64} {R : Nat → Nat → Option Nat} {n : Nat} (hl0 : lay k = (0, ci)) (hk : k < n) (hf : fOK X.1.1.cls idx ci j) (hfin : xFin ci j = true ∧ X.1.1.name = "<init>" ∧ xDcl ci j = X.1.1.cls) (hty : ∀ v, xF g (I, L, R, n) k j (xTy ci j) = v → (∃ C, xTy ci j = .object C) ∨ (∃ C, xTy ci j = .array C)) (hd : decode X.1.2.1 pc = .ok (.putfield idx, 3)) (hp : pc + 3 = pc1) (kk : V g X kc ks pc1 lv st (I, L, uR R k j (some t), n) Q) : V g X kc ks pc lv (.ref (xA g t) :: .ref (xA g k) :: st) (I, L, R, n) Q := by
  have h0 := hty _ rfl
  refine V_putx (M' := (I, L, uR R k j (some t), n)) hl0 hk hf (Or.inr hfin) ?_ ?_ rfl (fun i hi => xE_congr rfl rfl (uR_off R j _ hi)) ?_ (fun i hi => xF_ne rfl rfl (uR_ne R k _ hi)) hd hp kk
  · rcases h0 with ⟨C, h⟩ | ⟨C, h⟩ <;> rw [h] <;> rfl
  · rcases h0 with ⟨C, h⟩ | ⟨C, h⟩ <;> rw [h] <;> rfl
  · rcases h0 with ⟨C, h⟩ | ⟨C, h⟩
    · rw [h]
      show va_rf ((uR R k j (some t) k j).map (xA g)) = _
      rw [uR_self]; rfl
    · rw [h]
      show va_rf ((uR R k j (some t) k j).map (xA g)) = _
      rw [uR_self]; rfl
-- arrays
theorem V_iald {k n : Nat} (j : Nat) {i : Int32} (hl0 : lay k = (1, n)) (hk : k < M.2.2.2) (hi : i = nI j) (hj : j < n) {v : Int32} (hv : M.1 k j = v) (hd : decode X.1.2.1 pc = .ok (.iaload, 1)) (hp : pc + 1 = pc1) (kk : V g X kc ks pc1 lv (.int v :: st) M Q) : V g X kc ks pc lv (.int i :: .ref (xA g k) :: st) M Q := by
  subst hp; subst hi; subst hv
  have hs : n < 2 ^ 31 := by have := lay_small k; rw [hl0] at this; exact this
  intro p e s m args below meth c hC H locs ls hP hS hl
  refine va_iald (D := g.2.1) hC.1 hC.2.1 hC.2.2.2.2.2.2.2.2.1.1 hP.2 k 0 ((xW_get hk).trans (by rw [xE_int hl0])) rfl (vp_in_nI hj hs) hd ?_
  rw [nI_clamp (by omega)]
  exact kk p e s m args below meth c hC H locs ls hP hS hl
theorem V_zald {k n : Nat} (j : Nat) {i : Int32} (hl0 : lay k = (2, n)) (hk : k < M.2.2.2) (hi : i = nI j) (hj : j < n) {v : Int32} (hv : M.1 k j = v) (hd : decode X.1.2.1 pc = .ok (.baload, 1)) (hp : pc + 1 = pc1) (kk : V g X kc ks pc1 lv (.int v :: st) M Q) : V g X kc ks pc lv (.int i :: .ref (xA g k) :: st) M Q := by
  subst hp; subst hi; subst hv
  have hs : n < 2 ^ 31 := by have := lay_small k; rw [hl0] at this; exact this
  intro p e s m args below meth c hC H locs ls hP hS hl
  refine va_zald (D := g.2.1) hC.1 hC.2.1 hC.2.2.2.2.2.2.2.2.1.1 hP.2 k 1 ((xW_get hk).trans (by rw [xE_boo hl0])) rfl (vp_in_nI hj hs) hd ?_
  rw [nI_clamp (by omega)]
  exact kk p e s m args below meth c hC H locs ls hP hS hl
theorem V_aald {k n a : Nat} (j t : Nat) {i : Int32} (hl0 : lay k = (a, n)) (ha : a = 3 ∨ a = 4) (hk : k < M.2.2.2) (hi : i = nI j) (hj : j < n) (hv : M.2.2.1 k j = some t) (hd : decode X.1.2.1 pc = .ok (.aaload, 1)) (hp : pc + 1 = pc1) (kk : V g X kc ks pc1 lv (.ref (xA g t) :: st) M Q) : V g X kc ks pc lv (.int i :: .ref (xA g k) :: st) M Q := by
  subst hp; subst hi
  have hs : n < 2 ^ 31 := by have := lay_small k; rw [hl0] at this; exact this
  intro p e s m args below meth c hC H locs ls hP hS hl
  rcases ha with rfl | rfl
  · refine va_aldq (D := g.2.1) hC.1 hC.2.1 hC.2.2.2.2.2.2.2.2.1.1 hP.2 k 2 ((xW_get hk).trans (by rw [xE_bus hl0])) rfl (vp_in_nI hj hs) hd ?_
    rw [nI_clamp (by omega), hv]
    exact kk p e s m args below meth c hC H locs ls hP hS hl
  · refine va_aldq (D := g.2.1) hC.1 hC.2.1 hC.2.2.2.2.2.2.2.2.1.1 hP.2 k 3 ((xW_get hk).trans (by rw [xE_nod hl0])) rfl (vp_in_nI hj hs) hd ?_
    rw [nI_clamp (by omega), hv]
    exact kk p e s m args below meth c hC H locs ls hP hS hl
theorem V_iast {k n : Nat} (j : Nat) {i x : Int32} {I : Nat → Nat → Int32} {L : Nat → Nat → Int64} {RN : (Nat → Nat → Option Nat) × Nat} (hl0 : lay k = (1, n)) (hk : k < RN.2) (hi : i = nI j) (hj : j < n) (hd : decode X.1.2.1 pc = .ok (.iastore, 1)) (hp : pc + 1 = pc1) (kk : V g X kc ks pc1 lv st (uI I k j x, L, RN) Q) : V g X kc ks pc lv (.int x :: .int i :: .ref (xA g k) :: st) (I, L, RN) Q := by
  subst hp; subst hi
  have hs : n < 2 ^ 31 := by have := lay_small k; rw [hl0] at this; exact this
  intro p e s m args below meth c hC H locs ls hP hS hl
  have hin := vp_in_nI hj hs
  have ha : (xW g (I, L, RN))[k]? = some (xA g k, .inl (g.2.2.2.1, n, .inl (I k))) := (xW_get hk).trans (by rw [xE_int hl0])
  refine W.iast hC.1 hC.2.1 (hP.2 k _ ha) ((hC.2.2.2.2.2.2.2.2.1.1.2 0 _ rfl).1 n (fun j => .int (I k j))) (fun q => by cases q) (by show ¬ (_ < 0 ∨ (arrV _ _ _).slots.size ≤ _); rw [arrV_size]; exact hin) rfl rfl hd fun H1 e1 z oq => ?_
  refine kk p e s m args below meth c hC H1 _ ls (xP_set (M' := (uI I k j x, L, RN)) (e0 := .inr (0, [])) hP hk rfl (fun i hi => xE_congr (uI_off I j x hi) rfl rfl) ?_ z oq) (hS.put z oq (xFr_A g k)) hl
  rw [xE_int hl0]
  show H1[xA g k]? = some (vp_cell _ _)
  rw [e1, vp_cell_i, vp_cell_i, arrV_store]
  congr 2
  funext q
  show _ = Value.int (uI I k j x k q)
  rw [uI_row, nI_clamp (by omega)]
  by_cases hq : q = j
  · subst hq
    simp [updV, upd]
  · simp [updV, upd, hq]
theorem V_zast {k n : Nat} (j : Nat) {i x : Int32} {I : Nat → Nat → Int32} {L : Nat → Nat → Int64} {RN : (Nat → Nat → Option Nat) × Nat} (hl0 : lay k = (2, n)) (hk : k < RN.2) (hi : i = nI j) (hj : j < n) (hx : x = 0 ∨ x = 1) (hd : decode X.1.2.1 pc = .ok (.bastore, 1)) (hp : pc + 1 = pc1) (hN : RN.2 = 305) (kk : V g X kc ks pc1 lv st (uI I k j x, L, RN) Q) : V g X kc ks pc lv (.int x :: .int i :: .ref (xA g k) :: st) (I, L, RN) Q := by
  subst hp; subst hi
  have hs : n < 2 ^ 31 := by have := lay_small k; rw [hl0] at this; exact this
  intro p e s m args below meth c hC H locs ls hP hS hl
  refine va_zast (D := g.2.1) hC.1 hC.2.1 hC.2.2.2.2.2.2.2.2.1.1 hP.2 (xW_D g _) hS k 1 ((xW_get hk).trans (by rw [xE_boo hl0])) rfl (vp_in_nI hj hs) hd fun H1 locs1 hP1 hD1 hS1 => ?_
  have hxn : vp_nar .boolean x = x := by rcases hx with rfl | rfl <;> decide
  refine kk p e s m args below meth c hC H1 _ ls ⟨fun h => absurd h (by show ¬ RN.2 < 305; omega), ?_⟩ hS1 hl
  rw [hxn, nI_clamp (by omega)] at hP1
  rw [← xW_set (M := (I, L, RN)) (M' := (uI I k j x, L, RN)) (k := k) rfl (fun i hi => xE_congr (uI_off I j x hi) rfl rfl), xE_boo hl0]
  show va_P _ _ (List.set _ _ (_, .inl (_, n, .inl (uI I k j x k)))) _
  rw [uI_row]
  exact hP1
theorem V_alen {k n a : Nat} {v : Int32} (hl0 : lay k = (1, n)) (hk : k < M.2.2.2) (hv : nI n = v) (hd : decode X.1.2.1 pc = .ok (.arraylength, 1)) (hp : pc + 1 = pc1) (kk : V g X kc ks pc1 lv (.int v :: st) M Q) : V g X kc ks pc lv (.ref (xA g k) :: st) M Q := by
  subst hp; subst hv
  intro p e s m args below meth c hC H locs ls hP hS hl
  exact va_alen (D := g.2.1) (x := (n, .inl (M.1 k))) hC.1 hC.2.1 hC.2.2.2.2.2.2.2.2.1.1 hP.2 k 0 ((xW_get hk).trans (by rw [xE_int hl0])) rfl rfl hd (kk p e s m args below meth c hC H locs ls hP hS hl)
-- returns
theorem V_iret {v : Int32} (hr : X.1.2.2.2 = some .int) (hd : decode X.1.2.1 pc = .ok (.ireturn, 1)) (h1 : kc ≤ X.2.2.1) (h2 : ks ≤ X.2.2.2) (hq : Q (some (.int v)) M) : V g X kc ks pc lv [.int v] M Q := by
  intro p e s m args below meth c hC H locs ls hP hS hl
  have hlk : meth.locks = false := hC.2.2.2.2.1
  refine W.widen (k := X.2.2.1) (n := X.2.2.2) h1 h2 ?_
  exact W.iret hC.1 hC.2.1 (hC.2.2.2.1.trans hr) (fun t ht hW => ⟨some (.int v), M, rfl, hq, by rw [ht]; exact hP, hS.F ht⟩) hS.2.2 hd hlk
theorem V_zret {v : Int32} (hr : X.1.2.2.2 = some .boolean) (hx : v = 0 ∨ v = 1) (hd : decode X.1.2.1 pc = .ok (.ireturn, 1)) (h1 : kc ≤ X.2.2.1) (h2 : ks ≤ X.2.2.2) (hq : Q (some (.int v)) M) : V g X kc ks pc lv [.int v] M Q := by
  intro p e s m args below meth c hC H locs ls hP hS hl
  have hlk : meth.locks = false := hC.2.2.2.2.1
  refine W.widen (k := X.2.2.1) (n := X.2.2.2) h1 h2 ?_
  exact W.zret hC.1 hC.2.1 (hC.2.2.2.1.trans hr) (by rcases hx with rfl | rfl <;> decide) (fun t ht hW => ⟨some (.int v), M, rfl, hq, by rw [ht]; exact hP, hS.F ht⟩) hS.2.2 hd hlk
theorem V_lret {v : Int64} (hr : X.1.2.2.2 = some .long) (hd : decode X.1.2.1 pc = .ok (.lreturn, 1)) (h1 : kc ≤ X.2.2.1) (h2 : ks ≤ X.2.2.2) (hq : Q (some (.long v)) M) : V g X kc ks pc lv [.long v] M Q := by
  intro p e s m args below meth c hC H locs ls hP hS hl
  have hlk : meth.locks = false := hC.2.2.2.2.1
  refine W.widen (k := X.2.2.1) (n := X.2.2.2) h1 h2 ?_
  exact W.lret hC.1 hC.2.1 (hC.2.2.2.1.trans hr) (fun t ht hW => ⟨some (.long v), M, rfl, hq, by rw [ht]; exact hP, hS.F ht⟩) hS.2.2 hd hlk
theorem V_vret (hr : X.1.2.2.2 = none) (hd : decode X.1.2.1 pc = .ok (.return_, 1)) (h1 : kc ≤ X.2.2.1) (h2 : ks ≤ X.2.2.2) (hq : Q none M) : V g X kc ks pc lv [] M Q := by
  intro p e s m args below meth c hC H locs ls hP hS hl
  have hlk : meth.locks = false := hC.2.2.2.2.1
  refine W.widen (k := X.2.2.1) (n := X.2.2.2) h1 h2 ?_
  exact W.vret hC.1 hC.2.1 (hC.2.2.2.1.trans hr) (fun t ht hW => ⟨none, M, rfl, hq, by rw [ht]; exact hP, hS.F ht⟩) hS.2.2 hd hlk

-- calls
theorem xGood {w0 : Cond} (h : w0 ∈ xT) : GoodIn xT (w0 :: xT) := by
  intro w hw
  rcases List.mem_cons.mp hw with e | e
  · rw [e]; exact ⟨h, good_of_word (xT_good _ h)⟩
  · exact ⟨e, good_of_word (xT_good _ e)⟩
/-- what the tables say of a method that is called: its code, its class -/
def mOK (K : KT) (n : Nat) : Prop := Cond.code K.1 K.2.1 K.2.2.1 K.2.2.2 ∈ xT ∧ Cond.initialized K.1.cls ∈ xT ∧ (K.1.cls ≠ "java/lang/invoke/MethodHandle" ∧ K.1.cls ≠ "java/lang/invoke/VarHandle" ∧ (parseMethodDescriptor K.1.desc).map (fun d => d.parameters.length) = some n)
def mV (K : KT) (n ci : Nat) : Prop := mOK K n ∧ Cond.instanceMethod K.1 ∈ xT ∧ Cond.selects K.1.cls K.1 K.1 ∈ xT ∧ ∃ q : vw_C, xC[ci]? = some q ∧ q.1 = K.1.cls
def mS (K : KT) (n : Nat) : Prop := mOK K n ∧ Cond.static K.1 ∈ xT
def mI (K : KT) (n : Nat) : Prop := mOK K n ∧ Cond.instanceMethod K.1 ∈ xT ∧ K.1.name = "<init>" ∧ K.2.2.2 = none
/-- the callee's room is within the caller's -/
def rOK (X Y : XT) (kc ks : Nat) : Prop := Y.2.1 + 1 ≤ X.2.1 ∧ 8 + (Y.1.2.2.1 + 11) + 37 * Y.2.1 ≤ 37 * X.2.1 ∧ kc + Y.2.2.1 ≤ X.2.2.1 ∧ ks + Y.2.2.2 ≤ X.2.2.2
theorem xBlind {As : List Value} : FrameBlind (va_Pc As fun U => xP g M U.heap ∧ xK g U ∧ g.2.2.1 ≤ U.heap.size) := fun a U gf mk q => ⟨q.1, q.2.1, xK.same (s := U) rfl q.2.2.1, q.2.2.2⟩
theorem V_run {Y : XT} {Qc : Option Value → MemT → Prop} {a : Array Value} {p : Program} {e : Env} {s : State} {m : MethodId} {args : Array Value} {below : List Frame} {meth : Method} {c : Code} (hC : xCx g X p s m args meth c) {H : Heap} {locs : List Loc} {ls : Array Slot} (hS : va_S (xFr g) s.heap H locs) (hl : lv_has ls X.1.2.2.1 lv)
    (hr : va_Run p g.1 e (xR X) s m args below meth c H locs kc ks Y.2.2.1 Y.2.2.2 (F0 m pc ls stk) st (xQ g Qc a) (xFr g)) (kk : ∀ r M', Qc r M' → V g X (kc + Y.2.2.1) (ks + Y.2.2.2) (pc + 3) lv (r.toList ++ st) M' Q) : W p g.1 e (xR X) s m args below meth c H locs kc ks (MQ below (xQ g Q) args s X.2.2.1 X.2.2.2 (xFr g)) (F0 m pc ls stk) := by
  intro T hT Y0
  obtain ⟨v, st₀, t, T', L, h0, X', hL, e1, e2, ⟨r, M', hv, hq, hP1, hz, hk⟩, go⟩ := hr T hT Y0
  cases hv
  rw [h0] at hz hk
  obtain ⟨t2, a1, b1⟩ := kk _ M' hq p e s m args below meth c hC T'.heap (locs ++ L) ls (by rw [e1]; exact hP1) ⟨Nat.le_trans hS.1 (by rw [e1]; exact hz), fun q h1 h2 => by rw [e1, hk q (Nat.lt_of_lt_of_le h1 hS.1) h2]; exact hS.2.1 q h1 h2, fun q hq => by
      rcases List.mem_append.mp hq with h | h
      · exact hS.2.2 q h
      · exact hL q h⟩ hl T' rfl X'
  exact ⟨t2, go t2 a1, b1⟩
theorem V_callV {Y : XT} {As : List Value} {k ci idx n : Nat} {Qc : Option Value → MemT → Prop} (hc : Call g Y (.ref (xA g k) :: As) M Qc) (hl0 : lay k = (0, ci)) (hk : k < M.2.2.2) (hm : mV Y.1 n ci) (hlk : Cond.methodLink X.1.1.cls idx Y.1.1 ∈ xT) (hn : As.length = n) (hR : rOK X Y kc ks) (hsum : (st.map fun v => v.category).sum ≤ 8) (hst : stk = As.reverse ++ .ref (xA g k) :: st) (hd : decode X.1.2.1 pc = .ok (.invokevirtual idx, 3)) (hp : pc + 3 = pc1)
    (kk : ∀ r M', Qc r M' → V g X (kc + Y.2.2.1) (ks + Y.2.2.2) pc1 lv (r.toList ++ st) M' Q) : V g X kc ks pc lv stk M Q := by
  subst hp
  intro p e s m args below meth c hC H locs ls hP hS hl
  obtain ⟨⟨hcode, hini, hd3⟩, hin, hsel, q, hq, hqn⟩ := hm
  obtain ⟨hexec, hb, hml, -, -, hown, -, hts, hKK, hz⟩ := id hC
  refine V_run hC hS hl (va_runV (C := Y.1.1.cls) (As := As) (rest := st) ⟨hexec, hb, hml, hown, hts⟩ hc ⟨callB_of n hts (xGood hcode) rfl rfl rfl (hts _ hini) (hts _ hlk) hd3 ⟨hR.1, hR.2.1⟩, hts _ hin, hts _ hsel⟩ ⟨xBlind, ?_, fun U hU hW => ⟨rfl, by rw [hU]; exact hP, xK.warm hW hKK, by rw [hU]; exact Nat.le_trans hz hS.1⟩⟩ rfl hn hl.1 hst (lv_room hsum) hd ⟨hR.2.2.1, hR.2.2.2⟩) kk
  obtain ⟨cell, h1, h2, h3⟩ := va_recv hKK.1 hP.2 hq ((xW_get hk).trans (by rw [xE_obj hl0]))
  exact ⟨cell, h1, h2, by rw [← hqn]; exact h3⟩
theorem V_callS {Y : XT} {As : List Value} {idx n : Nat} {Qc : Option Value → MemT → Prop} (hc : Call g Y As M Qc) (hm : mS Y.1 n) (hlk : Cond.methodLink X.1.1.cls idx Y.1.1 ∈ xT) (hn : As.length = n) (hR : rOK X Y kc ks) (hsum : (st.map fun v => v.category).sum ≤ 8) (hst : stk = As.reverse ++ st) (hd : decode X.1.2.1 pc = .ok (.invokestatic idx, 3)) (hp : pc + 3 = pc1)
    (kk : ∀ r M', Qc r M' → V g X (kc + Y.2.2.1) (ks + Y.2.2.2) pc1 lv (r.toList ++ st) M' Q) : V g X kc ks pc lv stk M Q := by
  subst hp
  intro p e s m args below meth c hC H locs ls hP hS hl
  obtain ⟨⟨hcode, hini, hd3⟩, hstt⟩ := hm
  obtain ⟨hexec, hb, hml, -, -, hown, -, hts, hKK, hz⟩ := id hC
  exact V_run hC hS hl (va_runS (As := As) (rest := st) ⟨hexec, hb, hml, hown, hts⟩ hc ⟨callB_of n hts (xGood hcode) rfl rfl rfl (hts _ hini) (hts _ hlk) hd3 ⟨hR.1, hR.2.1⟩, hts _ hstt⟩ ⟨xBlind, fun U hU hW => ⟨rfl, by rw [hU]; exact hP, xK.warm hW hKK, by rw [hU]; exact Nat.le_trans hz hS.1⟩⟩ rfl hn hl.1 hst (lv_room hsum) hd ⟨hR.2.2.1, hR.2.2.2⟩) kk
theorem V_callSN {Y : XT} {As : List Value} {idx n : Nat} {host : String} {Qc : Option Value → MemT → Prop} (hc : Call g Y As M Qc) (hm : mS Y.1 n) (hlk : Cond.methodLinkNest X.1.1.cls idx Y.1.1 host ∈ xNest) (hn : As.length = n) (hR : rOK X Y kc ks) (hsum : (st.map fun v => v.category).sum ≤ 8) (hst : stk = As.reverse ++ st) (hd : decode X.1.2.1 pc = .ok (.invokestatic idx, 3)) (hp : pc + 3 = pc1)
    (kk : ∀ r M', Qc r M' → V g X (kc + Y.2.2.1) (ks + Y.2.2.2) pc1 lv (r.toList ++ st) M' Q) : V g X kc ks pc lv stk M Q := by
  subst hp
  intro p e s m args below meth c hC H locs ls hP hS hl
  obtain ⟨⟨hcode, hini, hd3⟩, hstt⟩ := hm
  obtain ⟨hexec, hb, hml, -, -, hown, -, hts, hKK, hz⟩ := id hC
  exact V_run hC hS hl (va_runSN (As := As) (rest := st) ⟨hexec, hb, hml, hown, hts⟩ hc ⟨va_cnB n hts (xGood hcode) rfl rfl rfl (hKK.2.1 _ hlk) (hts _ hini) hd3 ⟨hR.1, hR.2.1⟩, hts _ hstt, trivial⟩ ⟨xBlind, fun U hU hW => ⟨rfl, by rw [hU]; exact hP, xK.warm hW hKK, by rw [hU]; exact Nat.le_trans hz hS.1⟩⟩ rfl hn hl.1 hst (lv_room hsum) hd ⟨hR.2.2.1, hR.2.2.2⟩) kk
theorem V_callI {Y : XT} {As : List Value} {b idx n : Nat} {Qc : Option Value → MemT → Prop} (hc : Call g Y (.ref b :: As) M Qc) (hm : mI Y.1 n) (hlk : Cond.methodLink X.1.1.cls idx Y.1.1 ∈ xT) (hn : As.length = n) (hR : rOK X Y kc ks) (hsum : (st.map fun v => v.category).sum ≤ 8) (hst : stk = As.reverse ++ .ref b :: st) (hd : decode X.1.2.1 pc = .ok (.invokespecial idx, 3)) (hp : pc + 3 = pc1)
    (kk : ∀ r M', Qc r M' → V g X (kc + Y.2.2.1) (ks + Y.2.2.2) pc1 lv (r.toList ++ st) M' Q) : V g X kc ks pc lv stk M Q := by
  subst hp
  intro p e s m args below meth c hC H locs ls hP hS hl
  obtain ⟨⟨hcode, hini, hd3⟩, hin, hnm, hrt⟩ := hm
  obtain ⟨hexec, hb, hml, -, -, hown, -, hts, hKK, hz⟩ := id hC
  obtain ⟨⟨y, bt, mx, rt⟩, d, mc, ms⟩ := Y
  have hrt : rt = none := hrt
  subst hrt
  exact V_run (Y := ((y, bt, mx, none), d, mc, ms)) hC hS hl (va_runI (As := As) (rest := st) ⟨hexec, hb, hml, hown, hts⟩ hc ⟨callB_of n hts (xGood hcode) rfl rfl rfl (hts _ hini) (hts _ hlk) hd3 ⟨hR.1, hR.2.1⟩, hnm, hts _ hin⟩ ⟨xBlind, fun U hU hW => ⟨rfl, by rw [hU]; exact hP, xK.warm hW hKK, by rw [hU]; exact Nat.le_trans hz hS.1⟩⟩ rfl hn hl.1 hst (lv_room hsum) hd ⟨hR.2.2.1, hR.2.2.2⟩) kk
theorem V_callIN {Y : XT} {As : List Value} {b idx n : Nat} {host : String} {Qc : Option Value → MemT → Prop} (hc : Call g Y (.ref b :: As) M Qc) (hm : mI Y.1 n) (hlk : Cond.methodLinkNest X.1.1.cls idx Y.1.1 host ∈ xNest) (hn : As.length = n) (hR : rOK X Y kc ks) (hsum : (st.map fun v => v.category).sum ≤ 8) (hst : stk = As.reverse ++ .ref b :: st) (hd : decode X.1.2.1 pc = .ok (.invokespecial idx, 3)) (hp : pc + 3 = pc1)
    (kk : ∀ r M', Qc r M' → V g X (kc + Y.2.2.1) (ks + Y.2.2.2) pc1 lv (r.toList ++ st) M' Q) : V g X kc ks pc lv stk M Q := by
  subst hp
  intro p e s m args below meth c hC H locs ls hP hS hl
  obtain ⟨⟨hcode, hini, hd3⟩, hin, hnm, hrt⟩ := hm
  obtain ⟨hexec, hb, hml, -, -, hown, -, hts, hKK, hz⟩ := id hC
  obtain ⟨⟨y, bt, mx, rt⟩, d, mc, ms⟩ := Y
  have hrt : rt = none := hrt
  subst hrt
  exact V_run (Y := ((y, bt, mx, none), d, mc, ms)) hC hS hl (va_runIN (As := As) (rest := st) ⟨hexec, hb, hml, hown, hts⟩ hc ⟨va_cnB n hts (xGood hcode) rfl rfl rfl (hKK.2.1 _ hlk) (hts _ hini) hd3 ⟨hR.1, hR.2.1⟩, hnm, hts _ hin⟩ ⟨xBlind, fun U hU hW => ⟨rfl, by rw [hU]; exact hP, xK.warm hW hKK, by rw [hU]; exact Nat.le_trans hz hS.1⟩⟩ rfl hn hl.1 hst (lv_room hsum) hd ⟨hR.2.2.1, hR.2.2.2⟩) kk
/-- the JDK's own: max, min, arraycopy, Object() -/
theorem V_max {idx : Nat} {x y : Int32} (hlk : Cond.methodLink X.1.1.cls idx Lib.Math.max.name ∈ xT) (hs : Cond.static Lib.Math.max.name ∈ xT) (hi : Cond.initialized "java/lang/Math" ∈ xT) (hcd : Cond.code Lib.Math.max.name Lib.Math.max.code 2 (some .int) ∈ xT) (h1 : 1 ≤ X.2.1) (h2 : kc ≤ X.2.2.1) (h3 : ks ≤ X.2.2.2) (hsum : (st.map fun v => v.category).sum ≤ 8) (hd : decode X.1.2.1 pc = .ok (.invokestatic idx, 3)) (hp : pc + 3 = pc1) (kk : V g X kc ks pc1 lv (.int (if x < y then y else x) :: st) M Q) : V g X kc ks pc lv (.int y :: .int x :: st) M Q := by
  subst hp
  intro p e s m args below meth c hC H locs ls hP hS hl
  obtain ⟨hexec, hb, hml, -, -, hown, -, hts, hKK, hz⟩ := id hC
  exact va_mmax hexec hb (hml.trans hl.1.symm) hown (hts _ hlk) (hts _ hs) (hts _ hi) (hts _ hcd) h1 (by show _ ≤ 37 * X.2.1; omega) h2 h3 hd (kk p e s m args below meth c hC H locs ls hP hS hl)
theorem V_min {idx : Nat} {x y : Int32} (hlk : Cond.methodLink X.1.1.cls idx Lib.Math.min.name ∈ xT) (hs : Cond.static Lib.Math.min.name ∈ xT) (hi : Cond.initialized "java/lang/Math" ∈ xT) (hcd : Cond.code Lib.Math.min.name Lib.Math.min.code 2 (some .int) ∈ xT) (h1 : 1 ≤ X.2.1) (h2 : kc ≤ X.2.2.1) (h3 : ks ≤ X.2.2.2) (hsum : (st.map fun v => v.category).sum ≤ 8) (hd : decode X.1.2.1 pc = .ok (.invokestatic idx, 3)) (hp : pc + 3 = pc1) (kk : V g X kc ks pc1 lv (.int (if y < x then y else x) :: st) M Q) : V g X kc ks pc lv (.int y :: .int x :: st) M Q := by
  subst hp
  intro p e s m args below meth c hC H locs ls hP hS hl
  obtain ⟨hexec, hb, hml, -, -, hown, -, hts, hKK, hz⟩ := id hC
  exact va_mmin hexec hb (hml.trans hl.1.symm) hown (hts _ hlk) (hts _ hs) (hts _ hi) (hts _ hcd) h1 (by show _ ≤ 37 * X.2.1; omega) h2 h3 hd (kk p e s m args below meth c hC H locs ls hP hS hl)
theorem V_copy {idx k1 k2 n1 n2 : Nat} (a b n : Nat) {ia ib i : Int32} {I : Nat → Nat → Int32} {L : Nat → Nat → Int64} {RN : (Nat → Nat → Option Nat) × Nat} (hlk : Cond.methodLink X.1.1.cls idx arraycopyName ∈ xT) (hnat : Cond.native arraycopyName ∈ xT) (hs : Cond.static arraycopyName ∈ xT) (hi0 : Cond.initialized "java/lang/System" ∈ xT) (hl1 : lay k1 = (1, n1)) (hl2 : lay k2 = (1, n2)) (hk1 : k1 < RN.2) (hk2 : k2 < RN.2) (hN : RN.2 = 305) (ha : ia = nI a) (hb0 : ib = nI b) (hi : i = nI n) (h4 : a + n ≤ n1) (h5 : b + n ≤ n2) (hf1 : 1 ≤ X.2.1) (hsum : (st.map fun v => v.category).sum ≤ 8) (hd : decode X.1.2.1 pc = .ok (.invokestatic idx, 3)) (hp : pc + 3 = pc1)
    (kk : V g X kc ks pc1 lv st (va_up I k2 (va_cpy (I k1) (I k2) a b n), L, RN) Q) : V g X kc ks pc lv (.int i :: .int ib :: .ref (xA g k2) :: .int ia :: .ref (xA g k1) :: st) (I, L, RN) Q := by
  subst hp; subst ha; subst hb0; subst hi
  have hs1 : n1 < 2 ^ 31 := by have := lay_small k1; rw [hl1] at this; exact this
  have hs2 : n2 < 2 ^ 31 := by have := lay_small k2; rw [hl2] at this; exact this
  intro p e s m args below meth c hC H locs ls hP hS hl
  obtain ⟨hexec, hb, hml, -, -, hown, -, hts, hKK, hz⟩ := id hC
  refine va_copyi (ty := .int) hexec hb (hml.trans hl.1.symm) hown (hts _ hlk) (hts _ hnat) (hts _ hs) (hts _ hi0) hKK.1 hP.2 (xW_D g _) hS k1 k2 0 0 ((xW_get hk1).trans (by rw [xE_int hl1])) ((xW_get hk2).trans (by rw [xE_int hl2])) rfl rfl rfl (nI_pos (by omega)) (nI_pos (by omega)) (nI_pos (by omega)) (by rw [nI_clamp (by omega), nI_clamp (by omega)]; exact h4) (by rw [nI_clamp (by omega), nI_clamp (by omega)]; exact h5) (fun i _ => rfl) hf1 ?_ hd fun H1 locs1 hP1 hD1 hS1 => ?_
  · have : nativeFrameWords "java/lang/System" "arraycopy" 5 ≤ 18 := by decide
    show _ ≤ 37 * X.2.1
    omega
  · rw [nI_clamp (by omega), nI_clamp (by omega), nI_clamp (by omega)] at hP1
    refine kk p e s m args below meth c hC H1 _ ls ⟨fun h => absurd h (by show ¬ RN.2 < 305; omega), ?_⟩ hS1 hl
    rw [← xW_set (M := (I, L, RN)) (M' := (va_up I k2 (va_cpy (I k1) (I k2) a b n), L, RN)) (k := k2) rfl (fun i hi => xE_congr (va_up_ne _ _ hi) rfl rfl), xE_int hl2]
    show va_P _ _ (List.set _ _ (_, .inl (_, n2, .inl (va_up I k2 _ k2)))) _
    rw [va_up_self]
    exact hP1
theorem V_obj {idx b : Nat} (hlk : Cond.methodLink X.1.1.cls idx Lib.objectInit ∈ xT) (hi : Cond.instanceMethod Lib.objectInit ∈ xT) (hcd : Cond.code Lib.objectInit ⟨#[0xb1]⟩ 1 none ∈ xT) (h1 : 1 ≤ X.2.1) (hsum : (st.map fun v => v.category).sum ≤ 8) (hd : decode X.1.2.1 pc = .ok (.invokespecial idx, 3)) (hp : pc + 3 = pc1) (kk : V g X kc ks pc1 lv st M Q) : V g X kc ks pc lv (.ref b :: st) M Q := by
  subst hp
  intro p e s m args below meth c hC H locs ls hP hS hl
  obtain ⟨hexec, hb, hml, -, -, hown, -, hts, hKK, hz⟩ := id hC
  exact W.objInit hexec hb hown (hts _ hlk) (hts _ hi) (hts _ hcd) rfl (hl.1.trans hml.symm) rfl hd h1 (by show 2 * 0 + _ + 12 ≤ 37 * X.2.1; omega) (kk p e s m args below meth c hC H locs ls hP hS hl)

end VR
end
