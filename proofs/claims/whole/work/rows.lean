section
/-- a private method of a class that the tables say can be made, by its rows of tables_1 -/
def lw_okq (q : MethodName × Nat) : Prop := (q.1.cls ≠ "java/lang/invoke/MethodHandle" ∧ q.1.cls ≠ "java/lang/invoke/VarHandle") ∧ Cond.instantiable q.1.cls q.2 ∈ tables_1 ∧ Cond.privateMethod q.1 ∈ tables_1 ∧ Cond.instanceMethod q.1 ∈ tables_1
theorem lw_p0 : lw_okq (⟨"StickPairs$Text", "accepts", "(I)Z"⟩, 7) := ⟨⟨by decide +kernel, by decide +kernel⟩, List.mem_of_getElem? (i := 147) (by decide +kernel), List.mem_of_getElem? (i := 225) (by decide +kernel), List.mem_of_getElem? (i := 226) (by decide +kernel)⟩
theorem lw_p1 : lw_okq (⟨"StickPairs$Text", "acceptsDigit", "(I)Z"⟩, 7) := ⟨⟨by decide +kernel, by decide +kernel⟩, List.mem_of_getElem? (i := 147) (by decide +kernel), List.mem_of_getElem? (i := 229) (by decide +kernel), List.mem_of_getElem? (i := 230) (by decide +kernel)⟩
theorem lw_p2 : lw_okq (⟨"StickPairs", "countOf", "(I)I"⟩, 8) := ⟨⟨by decide +kernel, by decide +kernel⟩, List.mem_of_getElem? (i := 21) (by decide +kernel), List.mem_of_getElem? (i := 303) (by decide +kernel), List.mem_of_getElem? (i := 304) (by decide +kernel)⟩
theorem lw_p3 : lw_okq (⟨"StickPairs$State", "readSlotOf", "(I)I"⟩, 9) := ⟨⟨by decide +kernel, by decide +kernel⟩, List.mem_of_getElem? (i := 29) (by decide +kernel), List.mem_of_getElem? (i := 335) (by decide +kernel), List.mem_of_getElem? (i := 336) (by decide +kernel)⟩
theorem lw_p4 : lw_okq (⟨"StickPairs$Layout", "channelOf", "(I)I"⟩, 7) := ⟨⟨by decide +kernel, by decide +kernel⟩, List.mem_of_getElem? (i := 62) (by decide +kernel), List.mem_of_getElem? (i := 343) (by decide +kernel), List.mem_of_getElem? (i := 344) (by decide +kernel)⟩
theorem lw_p5 : lw_okq (⟨"StickPairs$Layout", "indexOf", "(I)I"⟩, 7) := ⟨⟨by decide +kernel, by decide +kernel⟩, List.mem_of_getElem? (i := 62) (by decide +kernel), List.mem_of_getElem? (i := 351) (by decide +kernel), List.mem_of_getElem? (i := 352) (by decide +kernel)⟩
theorem lw_p6 : lw_okq (⟨"StickPairs$Layout", "slotAt", "(II)I"⟩, 7) := ⟨⟨by decide +kernel, by decide +kernel⟩, List.mem_of_getElem? (i := 62) (by decide +kernel), List.mem_of_getElem? (i := 355) (by decide +kernel), List.mem_of_getElem? (i := 356) (by decide +kernel)⟩
theorem lw_p7 : lw_okq (⟨"StickPairs", "foldSlots", "(J)J"⟩, 8) := ⟨⟨by decide +kernel, by decide +kernel⟩, List.mem_of_getElem? (i := 21) (by decide +kernel), List.mem_of_getElem? (i := 380) (by decide +kernel), List.mem_of_getElem? (i := 381) (by decide +kernel)⟩
theorem lw_p8 : lw_okq (⟨"StickPairs", "foldBlocks", "(J)J"⟩, 8) := ⟨⟨by decide +kernel, by decide +kernel⟩, List.mem_of_getElem? (i := 21) (by decide +kernel), List.mem_of_getElem? (i := 420) (by decide +kernel), List.mem_of_getElem? (i := 421) (by decide +kernel)⟩
theorem lw_p9 : lw_okq (⟨"StickPairs$Layout", "numberAt", "(II)I"⟩, 7) := ⟨⟨by decide +kernel, by decide +kernel⟩, List.mem_of_getElem? (i := 62) (by decide +kernel), List.mem_of_getElem? (i := 432) (by decide +kernel), List.mem_of_getElem? (i := 433) (by decide +kernel)⟩
theorem lw_p10 : lw_okq (⟨"StickPairs$State", "rankOrNone", "(II)I"⟩, 9) := ⟨⟨by decide +kernel, by decide +kernel⟩, List.mem_of_getElem? (i := 29) (by decide +kernel), List.mem_of_getElem? (i := 436) (by decide +kernel), List.mem_of_getElem? (i := 437) (by decide +kernel)⟩
theorem lw_p11 : lw_okq (⟨"StickPairs", "foldTrials", "(J)J"⟩, 8) := ⟨⟨by decide +kernel, by decide +kernel⟩, List.mem_of_getElem? (i := 21) (by decide +kernel), List.mem_of_getElem? (i := 455) (by decide +kernel), List.mem_of_getElem? (i := 456) (by decide +kernel)⟩
theorem lw_p12 : lw_okq (⟨"StickPairs", "sweepTicks", "(I)I"⟩, 8) := ⟨⟨by decide +kernel, by decide +kernel⟩, List.mem_of_getElem? (i := 21) (by decide +kernel), List.mem_of_getElem? (i := 460) (by decide +kernel), List.mem_of_getElem? (i := 461) (by decide +kernel)⟩
theorem lw_p13 : lw_okq (⟨"StickPairs", "trialRank", "(I)I"⟩, 8) := ⟨⟨by decide +kernel, by decide +kernel⟩, List.mem_of_getElem? (i := 21) (by decide +kernel), List.mem_of_getElem? (i := 477) (by decide +kernel), List.mem_of_getElem? (i := 478) (by decide +kernel)⟩
theorem lw_p14 : lw_okq (⟨"StickPairs", "trialDelay", "(I)I"⟩, 8) := ⟨⟨by decide +kernel, by decide +kernel⟩, List.mem_of_getElem? (i := 21) (by decide +kernel), List.mem_of_getElem? (i := 493) (by decide +kernel), List.mem_of_getElem? (i := 494) (by decide +kernel)⟩
theorem lw_p15 : lw_okq (⟨"StickPairs$Clock", "waitFor", "(I)V"⟩, 3) := ⟨⟨by decide +kernel, by decide +kernel⟩, List.mem_of_getElem? (i := 93) (by decide +kernel), List.mem_of_getElem? (i := 502) (by decide +kernel), List.mem_of_getElem? (i := 503) (by decide +kernel)⟩
def lw_privs_1 : List (MethodName × Nat) := [(⟨"StickPairs$Text", "accepts", "(I)Z"⟩, 7), (⟨"StickPairs$Text", "acceptsDigit", "(I)Z"⟩, 7), (⟨"StickPairs", "countOf", "(I)I"⟩, 8), (⟨"StickPairs$State", "readSlotOf", "(I)I"⟩, 9), (⟨"StickPairs$Layout", "channelOf", "(I)I"⟩, 7), (⟨"StickPairs$Layout", "indexOf", "(I)I"⟩, 7), (⟨"StickPairs$Layout", "slotAt", "(II)I"⟩, 7), (⟨"StickPairs", "foldSlots", "(J)J"⟩, 8), (⟨"StickPairs", "foldBlocks", "(J)J"⟩, 8), (⟨"StickPairs$Layout", "numberAt", "(II)I"⟩, 7), (⟨"StickPairs$State", "rankOrNone", "(II)I"⟩, 9), (⟨"StickPairs", "foldTrials", "(J)J"⟩, 8), (⟨"StickPairs", "sweepTicks", "(I)I"⟩, 8), (⟨"StickPairs", "trialRank", "(I)I"⟩, 8), (⟨"StickPairs", "trialDelay", "(I)I"⟩, 8), (⟨"StickPairs$Clock", "waitFor", "(I)V"⟩, 3)]
theorem lw_r1 : ∀ q ∈ lw_privs_1, lw_okq q := List.forall_mem_cons.mpr ⟨lw_p0, List.forall_mem_cons.mpr ⟨lw_p1, List.forall_mem_cons.mpr ⟨lw_p2, List.forall_mem_cons.mpr ⟨lw_p3, List.forall_mem_cons.mpr ⟨lw_p4, List.forall_mem_cons.mpr ⟨lw_p5, List.forall_mem_cons.mpr ⟨lw_p6, List.forall_mem_cons.mpr ⟨lw_p7, List.forall_mem_cons.mpr ⟨lw_p8, List.forall_mem_cons.mpr ⟨lw_p9, List.forall_mem_cons.mpr ⟨lw_p10, List.forall_mem_cons.mpr ⟨lw_p11, List.forall_mem_cons.mpr ⟨lw_p12, List.forall_mem_cons.mpr ⟨lw_p13, List.forall_mem_cons.mpr ⟨lw_p14, List.forall_mem_cons.mpr ⟨lw_p15, fun _ h => absurd h List.not_mem_nil⟩⟩⟩⟩⟩⟩⟩⟩⟩⟩⟩⟩⟩⟩⟩⟩
theorem lw_p16 : lw_okq (⟨"StickPairs$Clock", "occupy", "(II)V"⟩, 3) := ⟨⟨by decide +kernel, by decide +kernel⟩, List.mem_of_getElem? (i := 93) (by decide +kernel), List.mem_of_getElem? (i := 506) (by decide +kernel), List.mem_of_getElem? (i := 507) (by decide +kernel)⟩
theorem lw_p17 : lw_okq (⟨"StickPairs", "blocksIfStarted", "(II)I"⟩, 8) := ⟨⟨by decide +kernel, by decide +kernel⟩, List.mem_of_getElem? (i := 21) (by decide +kernel), List.mem_of_getElem? (i := 518) (by decide +kernel), List.mem_of_getElem? (i := 519) (by decide +kernel)⟩
theorem lw_p18 : lw_okq (⟨"java/lang/Throwable", "fillInStackTrace", "(I)Ljava/lang/Throwable;"⟩, 6) := ⟨⟨by decide +kernel, by decide +kernel⟩, List.mem_of_getElem? (i := 591) (by decide +kernel), List.mem_of_getElem? (i := 589) (by decide +kernel), List.mem_of_getElem? (i := 590) (by decide +kernel)⟩
theorem lw_p19 : lw_okq (⟨"StickPairs", "saveState", "()V"⟩, 8) := ⟨⟨by decide +kernel, by decide +kernel⟩, List.mem_of_getElem? (i := 21) (by decide +kernel), List.mem_of_getElem? (i := 657) (by decide +kernel), List.mem_of_getElem? (i := 658) (by decide +kernel)⟩
theorem lw_p20 : lw_okq (⟨"StickPairs", "moveOldestToEnd", "()V"⟩, 8) := ⟨⟨by decide +kernel, by decide +kernel⟩, List.mem_of_getElem? (i := 21) (by decide +kernel), List.mem_of_getElem? (i := 661) (by decide +kernel), List.mem_of_getElem? (i := 662) (by decide +kernel)⟩
theorem lw_p21 : lw_okq (⟨"StickPairs$State", "readRankOf", "(I)I"⟩, 9) := ⟨⟨by decide +kernel, by decide +kernel⟩, List.mem_of_getElem? (i := 29) (by decide +kernel), List.mem_of_getElem? (i := 782) (by decide +kernel), List.mem_of_getElem? (i := 783) (by decide +kernel)⟩
theorem lw_p22 : lw_okq (⟨"StickPairs$State", "readsPair", "(II)Z"⟩, 9) := ⟨⟨by decide +kernel, by decide +kernel⟩, List.mem_of_getElem? (i := 29) (by decide +kernel), List.mem_of_getElem? (i := 859) (by decide +kernel), List.mem_of_getElem? (i := 860) (by decide +kernel)⟩
theorem lw_p23 : lw_okq (⟨"StickPairs$State", "readTwo", "(I)I"⟩, 9) := ⟨⟨by decide +kernel, by decide +kernel⟩, List.mem_of_getElem? (i := 29) (by decide +kernel), List.mem_of_getElem? (i := 864) (by decide +kernel), List.mem_of_getElem? (i := 865) (by decide +kernel)⟩
theorem lw_p24 : lw_okq (⟨"StickPairsModel", "record", "()V"⟩, 11) := ⟨⟨by decide +kernel, by decide +kernel⟩, List.mem_of_getElem? (i := 941) (by decide +kernel), List.mem_of_getElem? (i := 997) (by decide +kernel), List.mem_of_getElem? (i := 998) (by decide +kernel)⟩
theorem lw_p25 : lw_okq (⟨"StickPairsModel", "isThere", "(I)Z"⟩, 11) := ⟨⟨by decide +kernel, by decide +kernel⟩, List.mem_of_getElem? (i := 941) (by decide +kernel), List.mem_of_getElem? (i := 1011) (by decide +kernel), List.mem_of_getElem? (i := 1012) (by decide +kernel)⟩
theorem lw_p26 : lw_okq (⟨"StickPairsModel", "of", "(II)I"⟩, 11) := ⟨⟨by decide +kernel, by decide +kernel⟩, List.mem_of_getElem? (i := 941) (by decide +kernel), List.mem_of_getElem? (i := 1015) (by decide +kernel), List.mem_of_getElem? (i := 1016) (by decide +kernel)⟩
theorem lw_p27 : lw_okq (⟨"StickPairsModel", "put", "(III)V"⟩, 11) := ⟨⟨by decide +kernel, by decide +kernel⟩, List.mem_of_getElem? (i := 941) (by decide +kernel), List.mem_of_getElem? (i := 1019) (by decide +kernel), List.mem_of_getElem? (i := 1020) (by decide +kernel)⟩
theorem lw_p28 : lw_okq (⟨"StickPairsModel", "sticks", "(Z)I"⟩, 11) := ⟨⟨by decide +kernel, by decide +kernel⟩, List.mem_of_getElem? (i := 941) (by decide +kernel), List.mem_of_getElem? (i := 1023) (by decide +kernel), List.mem_of_getElem? (i := 1024) (by decide +kernel)⟩
theorem lw_p29 : lw_okq (⟨"StickPairsModel", "isLeft", "(I)Z"⟩, 11) := ⟨⟨by decide +kernel, by decide +kernel⟩, List.mem_of_getElem? (i := 941) (by decide +kernel), List.mem_of_getElem? (i := 1031) (by decide +kernel), List.mem_of_getElem? (i := 1032) (by decide +kernel)⟩
theorem lw_p30 : lw_okq (⟨"StickPairsModel", "used", "(I)I"⟩, 11) := ⟨⟨by decide +kernel, by decide +kernel⟩, List.mem_of_getElem? (i := 941) (by decide +kernel), List.mem_of_getElem? (i := 1035) (by decide +kernel), List.mem_of_getElem? (i := 1036) (by decide +kernel)⟩
theorem lw_p31 : lw_okq (⟨"StickPairsModel", "blockAt", "(II)I"⟩, 11) := ⟨⟨by decide +kernel, by decide +kernel⟩, List.mem_of_getElem? (i := 941) (by decide +kernel), List.mem_of_getElem? (i := 1039) (by decide +kernel), List.mem_of_getElem? (i := 1040) (by decide +kernel)⟩
def lw_privs_2 : List (MethodName × Nat) := [(⟨"StickPairs$Clock", "occupy", "(II)V"⟩, 3), (⟨"StickPairs", "blocksIfStarted", "(II)I"⟩, 8), (⟨"java/lang/Throwable", "fillInStackTrace", "(I)Ljava/lang/Throwable;"⟩, 6), (⟨"StickPairs", "saveState", "()V"⟩, 8), (⟨"StickPairs", "moveOldestToEnd", "()V"⟩, 8), (⟨"StickPairs$State", "readRankOf", "(I)I"⟩, 9), (⟨"StickPairs$State", "readsPair", "(II)Z"⟩, 9), (⟨"StickPairs$State", "readTwo", "(I)I"⟩, 9), (⟨"StickPairsModel", "record", "()V"⟩, 11), (⟨"StickPairsModel", "isThere", "(I)Z"⟩, 11), (⟨"StickPairsModel", "of", "(II)I"⟩, 11), (⟨"StickPairsModel", "put", "(III)V"⟩, 11), (⟨"StickPairsModel", "sticks", "(Z)I"⟩, 11), (⟨"StickPairsModel", "isLeft", "(I)Z"⟩, 11), (⟨"StickPairsModel", "used", "(I)I"⟩, 11), (⟨"StickPairsModel", "blockAt", "(II)I"⟩, 11)]
theorem lw_r2 : ∀ q ∈ lw_privs_2, lw_okq q := List.forall_mem_cons.mpr ⟨lw_p16, List.forall_mem_cons.mpr ⟨lw_p17, List.forall_mem_cons.mpr ⟨lw_p18, List.forall_mem_cons.mpr ⟨lw_p19, List.forall_mem_cons.mpr ⟨lw_p20, List.forall_mem_cons.mpr ⟨lw_p21, List.forall_mem_cons.mpr ⟨lw_p22, List.forall_mem_cons.mpr ⟨lw_p23, List.forall_mem_cons.mpr ⟨lw_p24, List.forall_mem_cons.mpr ⟨lw_p25, List.forall_mem_cons.mpr ⟨lw_p26, List.forall_mem_cons.mpr ⟨lw_p27, List.forall_mem_cons.mpr ⟨lw_p28, List.forall_mem_cons.mpr ⟨lw_p29, List.forall_mem_cons.mpr ⟨lw_p30, List.forall_mem_cons.mpr ⟨lw_p31, fun _ h => absurd h List.not_mem_nil⟩⟩⟩⟩⟩⟩⟩⟩⟩⟩⟩⟩⟩⟩⟩⟩
theorem lw_p32 : lw_okq (⟨"StickPairsModel", "lesserRoom", "()I"⟩, 11) := ⟨⟨by decide +kernel, by decide +kernel⟩, List.mem_of_getElem? (i := 941) (by decide +kernel), List.mem_of_getElem? (i := 1043) (by decide +kernel), List.mem_of_getElem? (i := 1044) (by decide +kernel)⟩
theorem lw_p33 : lw_okq (⟨"StickPairsModel", "room", "(I)I"⟩, 11) := ⟨⟨by decide +kernel, by decide +kernel⟩, List.mem_of_getElem? (i := 941) (by decide +kernel), List.mem_of_getElem? (i := 1047) (by decide +kernel), List.mem_of_getElem? (i := 1048) (by decide +kernel)⟩
theorem lw_p34 : lw_okq (⟨"StickPairsModel", "whyNot", "(I)I"⟩, 11) := ⟨⟨by decide +kernel, by decide +kernel⟩, List.mem_of_getElem? (i := 941) (by decide +kernel), List.mem_of_getElem? (i := 1059) (by decide +kernel), List.mem_of_getElem? (i := 1060) (by decide +kernel)⟩
theorem lw_p35 : lw_okq (⟨"StickPairsModel", "goodRoom", "(I)I"⟩, 11) := ⟨⟨by decide +kernel, by decide +kernel⟩, List.mem_of_getElem? (i := 941) (by decide +kernel), List.mem_of_getElem? (i := 1063) (by decide +kernel), List.mem_of_getElem? (i := 1064) (by decide +kernel)⟩
theorem lw_p36 : lw_okq (⟨"StickPairsModel", "makeMap", "(I)V"⟩, 11) := ⟨⟨by decide +kernel, by decide +kernel⟩, List.mem_of_getElem? (i := 941) (by decide +kernel), List.mem_of_getElem? (i := 1067) (by decide +kernel), List.mem_of_getElem? (i := 1068) (by decide +kernel)⟩
theorem lw_p37 : lw_okq (⟨"StickPairsModel", "forgetMap", "()V"⟩, 11) := ⟨⟨by decide +kernel, by decide +kernel⟩, List.mem_of_getElem? (i := 941) (by decide +kernel), List.mem_of_getElem? (i := 1071) (by decide +kernel), List.mem_of_getElem? (i := 1072) (by decide +kernel)⟩
theorem lw_p38 : lw_okq (⟨"StickPairsModel", "blocks", "()I"⟩, 11) := ⟨⟨by decide +kernel, by decide +kernel⟩, List.mem_of_getElem? (i := 941) (by decide +kernel), List.mem_of_getElem? (i := 1075) (by decide +kernel), List.mem_of_getElem? (i := 1076) (by decide +kernel)⟩
theorem lw_p39 : lw_okq (⟨"StickPairsModel", "isBlock", "(I)Z"⟩, 11) := ⟨⟨by decide +kernel, by decide +kernel⟩, List.mem_of_getElem? (i := 941) (by decide +kernel), List.mem_of_getElem? (i := 1087) (by decide +kernel), List.mem_of_getElem? (i := 1088) (by decide +kernel)⟩
theorem lw_p40 : lw_okq (⟨"StickPairsModel", "isLeftFor", "(I)Z"⟩, 11) := ⟨⟨by decide +kernel, by decide +kernel⟩, List.mem_of_getElem? (i := 941) (by decide +kernel), List.mem_of_getElem? (i := 1091) (by decide +kernel), List.mem_of_getElem? (i := 1092) (by decide +kernel)⟩
theorem lw_p41 : lw_okq (⟨"StickPairsModel", "slotOf", "(I)I"⟩, 11) := ⟨⟨by decide +kernel, by decide +kernel⟩, List.mem_of_getElem? (i := 941) (by decide +kernel), List.mem_of_getElem? (i := 1095) (by decide +kernel), List.mem_of_getElem? (i := 1096) (by decide +kernel)⟩
theorem lw_p42 : lw_okq (⟨"StickPairsModel", "channelOf", "(I)I"⟩, 11) := ⟨⟨by decide +kernel, by decide +kernel⟩, List.mem_of_getElem? (i := 941) (by decide +kernel), List.mem_of_getElem? (i := 1099) (by decide +kernel), List.mem_of_getElem? (i := 1100) (by decide +kernel)⟩
theorem lw_p43 : lw_okq (⟨"StickPairsModel", "wideBlocks", "()I"⟩, 11) := ⟨⟨by decide +kernel, by decide +kernel⟩, List.mem_of_getElem? (i := 941) (by decide +kernel), List.mem_of_getElem? (i := 1103) (by decide +kernel), List.mem_of_getElem? (i := 1104) (by decide +kernel)⟩
theorem lw_p44 : lw_okq (⟨"StickPairsModel", "inChannel", "(I)I"⟩, 11) := ⟨⟨by decide +kernel, by decide +kernel⟩, List.mem_of_getElem? (i := 941) (by decide +kernel), List.mem_of_getElem? (i := 1107) (by decide +kernel), List.mem_of_getElem? (i := 1108) (by decide +kernel)⟩
theorem lw_p45 : lw_okq (⟨"StickPairsModel", "slotIn", "(II)I"⟩, 11) := ⟨⟨by decide +kernel, by decide +kernel⟩, List.mem_of_getElem? (i := 941) (by decide +kernel), List.mem_of_getElem? (i := 1111) (by decide +kernel), List.mem_of_getElem? (i := 1112) (by decide +kernel)⟩
theorem lw_p46 : lw_okq (⟨"StickPairsModel", "secondSlot", "(I)I"⟩, 11) := ⟨⟨by decide +kernel, by decide +kernel⟩, List.mem_of_getElem? (i := 941) (by decide +kernel), List.mem_of_getElem? (i := 1115) (by decide +kernel), List.mem_of_getElem? (i := 1116) (by decide +kernel)⟩
theorem lw_p47 : lw_okq (⟨"StickPairsModel", "valueOf", "(I)I"⟩, 11) := ⟨⟨by decide +kernel, by decide +kernel⟩, List.mem_of_getElem? (i := 941) (by decide +kernel), List.mem_of_getElem? (i := 1119) (by decide +kernel), List.mem_of_getElem? (i := 1120) (by decide +kernel)⟩
def lw_privs_3 : List (MethodName × Nat) := [(⟨"StickPairsModel", "lesserRoom", "()I"⟩, 11), (⟨"StickPairsModel", "room", "(I)I"⟩, 11), (⟨"StickPairsModel", "whyNot", "(I)I"⟩, 11), (⟨"StickPairsModel", "goodRoom", "(I)I"⟩, 11), (⟨"StickPairsModel", "makeMap", "(I)V"⟩, 11), (⟨"StickPairsModel", "forgetMap", "()V"⟩, 11), (⟨"StickPairsModel", "blocks", "()I"⟩, 11), (⟨"StickPairsModel", "isBlock", "(I)Z"⟩, 11), (⟨"StickPairsModel", "isLeftFor", "(I)Z"⟩, 11), (⟨"StickPairsModel", "slotOf", "(I)I"⟩, 11), (⟨"StickPairsModel", "channelOf", "(I)I"⟩, 11), (⟨"StickPairsModel", "wideBlocks", "()I"⟩, 11), (⟨"StickPairsModel", "inChannel", "(I)I"⟩, 11), (⟨"StickPairsModel", "slotIn", "(II)I"⟩, 11), (⟨"StickPairsModel", "secondSlot", "(I)I"⟩, 11), (⟨"StickPairsModel", "valueOf", "(I)I"⟩, 11)]
theorem lw_r3 : ∀ q ∈ lw_privs_3, lw_okq q := List.forall_mem_cons.mpr ⟨lw_p32, List.forall_mem_cons.mpr ⟨lw_p33, List.forall_mem_cons.mpr ⟨lw_p34, List.forall_mem_cons.mpr ⟨lw_p35, List.forall_mem_cons.mpr ⟨lw_p36, List.forall_mem_cons.mpr ⟨lw_p37, List.forall_mem_cons.mpr ⟨lw_p38, List.forall_mem_cons.mpr ⟨lw_p39, List.forall_mem_cons.mpr ⟨lw_p40, List.forall_mem_cons.mpr ⟨lw_p41, List.forall_mem_cons.mpr ⟨lw_p42, List.forall_mem_cons.mpr ⟨lw_p43, List.forall_mem_cons.mpr ⟨lw_p44, List.forall_mem_cons.mpr ⟨lw_p45, List.forall_mem_cons.mpr ⟨lw_p46, List.forall_mem_cons.mpr ⟨lw_p47, fun _ h => absurd h List.not_mem_nil⟩⟩⟩⟩⟩⟩⟩⟩⟩⟩⟩⟩⟩⟩⟩⟩
theorem lw_p48 : lw_okq (⟨"StickPairsModel", "readSlot", "(I)I"⟩, 11) := ⟨⟨by decide +kernel, by decide +kernel⟩, List.mem_of_getElem? (i := 941) (by decide +kernel), List.mem_of_getElem? (i := 1123) (by decide +kernel), List.mem_of_getElem? (i := 1124) (by decide +kernel)⟩
theorem lw_p49 : lw_okq (⟨"StickPairsModel", "readNumber", "(I)I"⟩, 11) := ⟨⟨by decide +kernel, by decide +kernel⟩, List.mem_of_getElem? (i := 941) (by decide +kernel), List.mem_of_getElem? (i := 1127) (by decide +kernel), List.mem_of_getElem? (i := 1128) (by decide +kernel)⟩
theorem lw_p50 : lw_okq (⟨"StickPairsModel", "numberOf", "(I)I"⟩, 11) := ⟨⟨by decide +kernel, by decide +kernel⟩, List.mem_of_getElem? (i := 941) (by decide +kernel), List.mem_of_getElem? (i := 1131) (by decide +kernel), List.mem_of_getElem? (i := 1132) (by decide +kernel)⟩
theorem lw_p51 : lw_okq (⟨"StickPairsModel", "numberIn", "(II)I"⟩, 11) := ⟨⟨by decide +kernel, by decide +kernel⟩, List.mem_of_getElem? (i := 941) (by decide +kernel), List.mem_of_getElem? (i := 1135) (by decide +kernel), List.mem_of_getElem? (i := 1136) (by decide +kernel)⟩
theorem lw_p52 : lw_okq (⟨"StickPairsModel", "secondNumber", "(I)I"⟩, 11) := ⟨⟨by decide +kernel, by decide +kernel⟩, List.mem_of_getElem? (i := 941) (by decide +kernel), List.mem_of_getElem? (i := 1139) (by decide +kernel), List.mem_of_getElem? (i := 1140) (by decide +kernel)⟩
theorem lw_p53 : lw_okq (⟨"StickPairsModel", "doRead", "(I)I"⟩, 11) := ⟨⟨by decide +kernel, by decide +kernel⟩, List.mem_of_getElem? (i := 941) (by decide +kernel), List.mem_of_getElem? (i := 1147) (by decide +kernel), List.mem_of_getElem? (i := 1148) (by decide +kernel)⟩
theorem lw_p54 : lw_okq (⟨"StickPairsModel", "freeFrom", "(I)I"⟩, 11) := ⟨⟨by decide +kernel, by decide +kernel⟩, List.mem_of_getElem? (i := 941) (by decide +kernel), List.mem_of_getElem? (i := 1151) (by decide +kernel), List.mem_of_getElem? (i := 1152) (by decide +kernel)⟩
theorem lw_p55 : lw_okq (⟨"StickPairsModel", "rankOf", "(II)I"⟩, 11) := ⟨⟨by decide +kernel, by decide +kernel⟩, List.mem_of_getElem? (i := 941) (by decide +kernel), List.mem_of_getElem? (i := 1155) (by decide +kernel), List.mem_of_getElem? (i := 1156) (by decide +kernel)⟩
theorem lw_p56 : lw_okq (⟨"StickPairsModel", "waitFor", "(I)V"⟩, 11) := ⟨⟨by decide +kernel, by decide +kernel⟩, List.mem_of_getElem? (i := 941) (by decide +kernel), List.mem_of_getElem? (i := 1159) (by decide +kernel), List.mem_of_getElem? (i := 1160) (by decide +kernel)⟩
theorem lw_p57 : lw_okq (⟨"StickPairsModel", "readNow", "(I)I"⟩, 11) := ⟨⟨by decide +kernel, by decide +kernel⟩, List.mem_of_getElem? (i := 941) (by decide +kernel), List.mem_of_getElem? (i := 1163) (by decide +kernel), List.mem_of_getElem? (i := 1164) (by decide +kernel)⟩
theorem lw_p58 : lw_okq (⟨"StickPairsModel", "findError", "()I"⟩, 11) := ⟨⟨by decide +kernel, by decide +kernel⟩, List.mem_of_getElem? (i := 941) (by decide +kernel), List.mem_of_getElem? (i := 1187) (by decide +kernel), List.mem_of_getElem? (i := 1188) (by decide +kernel)⟩
theorem lw_p59 : lw_okq (⟨"StickPairsModel", "takePart", "(I)I"⟩, 11) := ⟨⟨by decide +kernel, by decide +kernel⟩, List.mem_of_getElem? (i := 941) (by decide +kernel), List.mem_of_getElem? (i := 1191) (by decide +kernel), List.mem_of_getElem? (i := 1192) (by decide +kernel)⟩
theorem lw_p60 : lw_okq (⟨"StickPairsModel", "takeBlock", "(I)I"⟩, 11) := ⟨⟨by decide +kernel, by decide +kernel⟩, List.mem_of_getElem? (i := 941) (by decide +kernel), List.mem_of_getElem? (i := 1195) (by decide +kernel), List.mem_of_getElem? (i := 1196) (by decide +kernel)⟩
theorem lw_p61 : lw_okq (⟨"StickPairsModel", "at", "(I)I"⟩, 11) := ⟨⟨by decide +kernel, by decide +kernel⟩, List.mem_of_getElem? (i := 941) (by decide +kernel), List.mem_of_getElem? (i := 1199) (by decide +kernel), List.mem_of_getElem? (i := 1200) (by decide +kernel)⟩
theorem lw_p62 : lw_okq (⟨"StickPairsModel", "areRising", "()Z"⟩, 11) := ⟨⟨by decide +kernel, by decide +kernel⟩, List.mem_of_getElem? (i := 941) (by decide +kernel), List.mem_of_getElem? (i := 1207) (by decide +kernel), List.mem_of_getElem? (i := 1208) (by decide +kernel)⟩
theorem lw_p63 : lw_okq (⟨"StickPairsModel", "canRead", "(I)Z"⟩, 11) := ⟨⟨by decide +kernel, by decide +kernel⟩, List.mem_of_getElem? (i := 941) (by decide +kernel), List.mem_of_getElem? (i := 1211) (by decide +kernel), List.mem_of_getElem? (i := 1212) (by decide +kernel)⟩
def lw_privs_4 : List (MethodName × Nat) := [(⟨"StickPairsModel", "readSlot", "(I)I"⟩, 11), (⟨"StickPairsModel", "readNumber", "(I)I"⟩, 11), (⟨"StickPairsModel", "numberOf", "(I)I"⟩, 11), (⟨"StickPairsModel", "numberIn", "(II)I"⟩, 11), (⟨"StickPairsModel", "secondNumber", "(I)I"⟩, 11), (⟨"StickPairsModel", "doRead", "(I)I"⟩, 11), (⟨"StickPairsModel", "freeFrom", "(I)I"⟩, 11), (⟨"StickPairsModel", "rankOf", "(II)I"⟩, 11), (⟨"StickPairsModel", "waitFor", "(I)V"⟩, 11), (⟨"StickPairsModel", "readNow", "(I)I"⟩, 11), (⟨"StickPairsModel", "findError", "()I"⟩, 11), (⟨"StickPairsModel", "takePart", "(I)I"⟩, 11), (⟨"StickPairsModel", "takeBlock", "(I)I"⟩, 11), (⟨"StickPairsModel", "at", "(I)I"⟩, 11), (⟨"StickPairsModel", "areRising", "()Z"⟩, 11), (⟨"StickPairsModel", "canRead", "(I)Z"⟩, 11)]
theorem lw_r4 : ∀ q ∈ lw_privs_4, lw_okq q := List.forall_mem_cons.mpr ⟨lw_p48, List.forall_mem_cons.mpr ⟨lw_p49, List.forall_mem_cons.mpr ⟨lw_p50, List.forall_mem_cons.mpr ⟨lw_p51, List.forall_mem_cons.mpr ⟨lw_p52, List.forall_mem_cons.mpr ⟨lw_p53, List.forall_mem_cons.mpr ⟨lw_p54, List.forall_mem_cons.mpr ⟨lw_p55, List.forall_mem_cons.mpr ⟨lw_p56, List.forall_mem_cons.mpr ⟨lw_p57, List.forall_mem_cons.mpr ⟨lw_p58, List.forall_mem_cons.mpr ⟨lw_p59, List.forall_mem_cons.mpr ⟨lw_p60, List.forall_mem_cons.mpr ⟨lw_p61, List.forall_mem_cons.mpr ⟨lw_p62, List.forall_mem_cons.mpr ⟨lw_p63, fun _ h => absurd h List.not_mem_nil⟩⟩⟩⟩⟩⟩⟩⟩⟩⟩⟩⟩⟩⟩⟩⟩
theorem lw_p64 : lw_okq (⟨"StickPairsModel", "readPair", "(I)I"⟩, 11) := ⟨⟨by decide +kernel, by decide +kernel⟩, List.mem_of_getElem? (i := 941) (by decide +kernel), List.mem_of_getElem? (i := 1215) (by decide +kernel), List.mem_of_getElem? (i := 1216) (by decide +kernel)⟩
theorem lw_p65 : lw_okq (⟨"StickPairsModel", "slotNow", "(II)I"⟩, 11) := ⟨⟨by decide +kernel, by decide +kernel⟩, List.mem_of_getElem? (i := 941) (by decide +kernel), List.mem_of_getElem? (i := 1223) (by decide +kernel), List.mem_of_getElem? (i := 1224) (by decide +kernel)⟩
theorem lw_p66 : lw_okq (⟨"StickPairsModel", "whereNow", "(II)I"⟩, 11) := ⟨⟨by decide +kernel, by decide +kernel⟩, List.mem_of_getElem? (i := 941) (by decide +kernel), List.mem_of_getElem? (i := 1231) (by decide +kernel), List.mem_of_getElem? (i := 1232) (by decide +kernel)⟩
theorem lw_p67 : lw_okq (⟨"StickPairsModel", "countNow", "(I)I"⟩, 11) := ⟨⟨by decide +kernel, by decide +kernel⟩, List.mem_of_getElem? (i := 941) (by decide +kernel), List.mem_of_getElem? (i := 1243) (by decide +kernel), List.mem_of_getElem? (i := 1244) (by decide +kernel)⟩
theorem lw_p68 : lw_okq (⟨"StickPairsModel", "lost", "()I"⟩, 11) := ⟨⟨by decide +kernel, by decide +kernel⟩, List.mem_of_getElem? (i := 941) (by decide +kernel), List.mem_of_getElem? (i := 1247) (by decide +kernel), List.mem_of_getElem? (i := 1248) (by decide +kernel)⟩
theorem lw_p69 : lw_okq (⟨"StickPairsModel", "values", "()I"⟩, 11) := ⟨⟨by decide +kernel, by decide +kernel⟩, List.mem_of_getElem? (i := 941) (by decide +kernel), List.mem_of_getElem? (i := 1251) (by decide +kernel), List.mem_of_getElem? (i := 1252) (by decide +kernel)⟩
theorem lw_p70 : lw_okq (⟨"StickPairsModel", "swept", "(I)I"⟩, 11) := ⟨⟨by decide +kernel, by decide +kernel⟩, List.mem_of_getElem? (i := 941) (by decide +kernel), List.mem_of_getElem? (i := 1267) (by decide +kernel), List.mem_of_getElem? (i := 1268) (by decide +kernel)⟩
theorem lw_p71 : lw_okq (⟨"StickPairsModel", "putAside", "()V"⟩, 11) := ⟨⟨by decide +kernel, by decide +kernel⟩, List.mem_of_getElem? (i := 941) (by decide +kernel), List.mem_of_getElem? (i := 1271) (by decide +kernel), List.mem_of_getElem? (i := 1272) (by decide +kernel)⟩
theorem lw_p72 : lw_okq (⟨"StickPairsModel", "putBack", "()V"⟩, 11) := ⟨⟨by decide +kernel, by decide +kernel⟩, List.mem_of_getElem? (i := 941) (by decide +kernel), List.mem_of_getElem? (i := 1275) (by decide +kernel), List.mem_of_getElem? (i := 1276) (by decide +kernel)⟩
theorem lw_p73 : lw_okq (⟨"StickPairsModel", "started", "(II)I"⟩, 11) := ⟨⟨by decide +kernel, by decide +kernel⟩, List.mem_of_getElem? (i := 941) (by decide +kernel), List.mem_of_getElem? (i := 1283) (by decide +kernel), List.mem_of_getElem? (i := 1284) (by decide +kernel)⟩
theorem lw_p74 : lw_okq (⟨"StickPairsModel", "findChange", "()I"⟩, 11) := ⟨⟨by decide +kernel, by decide +kernel⟩, List.mem_of_getElem? (i := 941) (by decide +kernel), List.mem_of_getElem? (i := 1291) (by decide +kernel), List.mem_of_getElem? (i := 1292) (by decide +kernel)⟩
theorem lw_p75 : lw_okq (⟨"StickPairsModel", "goodWide", "()I"⟩, 11) := ⟨⟨by decide +kernel, by decide +kernel⟩, List.mem_of_getElem? (i := 941) (by decide +kernel), List.mem_of_getElem? (i := 1295) (by decide +kernel), List.mem_of_getElem? (i := 1296) (by decide +kernel)⟩
theorem lw_p76 : lw_okq (⟨"StickPairsModel", "exchange", "(II)V"⟩, 11) := ⟨⟨by decide +kernel, by decide +kernel⟩, List.mem_of_getElem? (i := 941) (by decide +kernel), List.mem_of_getElem? (i := 1299) (by decide +kernel), List.mem_of_getElem? (i := 1300) (by decide +kernel)⟩
theorem lw_p77 : lw_okq (⟨"StickPairsModel", "share", "()D"⟩, 11) := ⟨⟨by decide +kernel, by decide +kernel⟩, List.mem_of_getElem? (i := 941) (by decide +kernel), List.mem_of_getElem? (i := 1307) (by decide +kernel), List.mem_of_getElem? (i := 1308) (by decide +kernel)⟩
theorem lw_p78 : lw_okq (⟨"StickPairsModel", "mean", "()F"⟩, 11) := ⟨⟨by decide +kernel, by decide +kernel⟩, List.mem_of_getElem? (i := 941) (by decide +kernel), List.mem_of_getElem? (i := 1315) (by decide +kernel), List.mem_of_getElem? (i := 1316) (by decide +kernel)⟩
def lw_privs_5 : List (MethodName × Nat) := [(⟨"StickPairsModel", "readPair", "(I)I"⟩, 11), (⟨"StickPairsModel", "slotNow", "(II)I"⟩, 11), (⟨"StickPairsModel", "whereNow", "(II)I"⟩, 11), (⟨"StickPairsModel", "countNow", "(I)I"⟩, 11), (⟨"StickPairsModel", "lost", "()I"⟩, 11), (⟨"StickPairsModel", "values", "()I"⟩, 11), (⟨"StickPairsModel", "swept", "(I)I"⟩, 11), (⟨"StickPairsModel", "putAside", "()V"⟩, 11), (⟨"StickPairsModel", "putBack", "()V"⟩, 11), (⟨"StickPairsModel", "started", "(II)I"⟩, 11), (⟨"StickPairsModel", "findChange", "()I"⟩, 11), (⟨"StickPairsModel", "goodWide", "()I"⟩, 11), (⟨"StickPairsModel", "exchange", "(II)V"⟩, 11), (⟨"StickPairsModel", "share", "()D"⟩, 11), (⟨"StickPairsModel", "mean", "()F"⟩, 11)]
theorem lw_r5 : ∀ q ∈ lw_privs_5, lw_okq q := List.forall_mem_cons.mpr ⟨lw_p64, List.forall_mem_cons.mpr ⟨lw_p65, List.forall_mem_cons.mpr ⟨lw_p66, List.forall_mem_cons.mpr ⟨lw_p67, List.forall_mem_cons.mpr ⟨lw_p68, List.forall_mem_cons.mpr ⟨lw_p69, List.forall_mem_cons.mpr ⟨lw_p70, List.forall_mem_cons.mpr ⟨lw_p71, List.forall_mem_cons.mpr ⟨lw_p72, List.forall_mem_cons.mpr ⟨lw_p73, List.forall_mem_cons.mpr ⟨lw_p74, List.forall_mem_cons.mpr ⟨lw_p75, List.forall_mem_cons.mpr ⟨lw_p76, List.forall_mem_cons.mpr ⟨lw_p77, List.forall_mem_cons.mpr ⟨lw_p78, fun _ h => absurd h List.not_mem_nil⟩⟩⟩⟩⟩⟩⟩⟩⟩⟩⟩⟩⟩⟩⟩
def lw_privs : List (MethodName × Nat) := lw_privs_1 ++ (lw_privs_2 ++ (lw_privs_3 ++ (lw_privs_4 ++ (lw_privs_5))))
def lw_tbl : List Cond := k2_sels lw_privs ++ tables_1
theorem lw_privs_ok : ∀ q ∈ lw_privs, lw_okq q := by
  show ∀ q ∈ lw_privs_1 ++ (lw_privs_2 ++ (lw_privs_3 ++ (lw_privs_4 ++ (lw_privs_5)))), lw_okq q
  exact List.forall_mem_append.mpr ⟨lw_r1, List.forall_mem_append.mpr ⟨lw_r2, List.forall_mem_append.mpr ⟨lw_r3, List.forall_mem_append.mpr ⟨lw_r4, lw_r5⟩⟩⟩⟩
/-- the streams that the claim lets the run draw from -/
abbrev lw_cs : List Choice := [Jvm.Choice.named "NaN.bits"]
theorem lw_bits : nanBits ∈ lw_cs := by first | decide | exact List.mem_cons_self | simp [lw_cs, nanBits]
end
section
/-! ===== BEGIN words of one list among another's, by their places ===== -/
theorem goodIn_r {big : List Cond} (ws : List Cond) (ps : List Nat) (hp : ws = ps.filterMap (fun i => big[i]?)) (h : ws.all goodWord = true) : GoodIn big ws := by
  intro w hw
  have h1 := List.all_eq_true.mp h w hw
  rw [hp] at hw
  obtain ⟨i, -, hi⟩ := List.mem_filterMap.mp hw
  have hm : w ∈ big := by first | exact List.mem_of_getElem? hi | exact List.getElem?_mem hi
  exact ⟨hm, good_of_word h1⟩
theorem goodIn_app {big a b : List Cond} (ha : GoodIn big a) (hb : GoodIn big b) : GoodIn big (a ++ b) := fun w h => (List.mem_append.mp h).elim (ha w) (hb w)
theorem goodIn_ca {big a b : List Cond} {c : Cond} (ha : GoodIn big (c :: a)) (hb : GoodIn big b) : GoodIn big (c :: (a ++ b)) := fun w h => (List.mem_cons.mp h).elim (fun e => ha w (List.mem_cons.mpr (Or.inl e))) (fun h => (List.mem_append.mp h).elim (fun h => ha w (List.mem_cons.mpr (Or.inr h))) (hb w))
theorem goodIn_sub {big ws : List Cond} (hm : ∀ w ∈ ws, w ∈ big) (h : ws.all goodWord = true) : GoodIn big ws := fun w hw => ⟨hm w hw, good_of_word (List.all_eq_true.mp h w hw)⟩
/-! ===== END ===== -/

/-! ===== BEGIN exceptions that leave a method, and their catching by the caller (launches without stack traces) ===== -/
section VXA
/-! The laws vx_back, vx_callV, vx_callS, vx_callSW, vx_throw0, vx_throwS follow proofs of the library, with one case more: JvmDerived/Free/Laws.lean (Back.of_free), Shelf42/LK1.lean (callV, callS), Shelf/KitTraced.lean (throwNew0V, throwNewS). -/
/-- where a method has thrown q: the class by its name, the cell, what was written, the world -/
def vx_T (XC : String → State → State → Prop) (st : State) (q : Addr) (t : State) (mc ms : Nat) (free : Addr → Prop) : Prop :=
  ∃ (E : String) (ce : Cell) (L : List Loc), XC E st t ∧ t.heap[q]? = some ce ∧ ce.vm = .none ∧ st.vm.findClass E = some ce.cls ∧ st.WarmedH t.vm ∧ st.sameButNew ({ t with vm := st.vm } : State) L mc ms ∧ ∀ z ∈ L, free z.base
def vx_Q (Qc : Array Value → State → Outcome → State → Prop) (XC : String → State → State → Prop) (mc ms : Nat) (free : Addr → Prop) : Array Value → State → Outcome → State → Prop := fun a st o t =>
  (Qc a st o t ∧ ∃ L, FrameEnd st o t L mc ms ∧ ∀ q ∈ L, free q.base) ∨ ∃ q, o = .threw q ∧ vx_T XC st q t mc ms free
/-- a callee that returns or throws -/
def vx_Met (l : Launch) (y : MethodName) (ws : List Cond) (rm : Room) (Pc : Array Value → State → Prop) (Qc : Array Value → State → Outcome → State → Prop) (XC : String → State → State → Prop) (mc ms : Nat) (free : Addr → Prop) : Prop :=
  MetFree l y (headSpec ws rm) Pc (fun _ _ _ _ _ => True) (vx_Q Qc XC mc ms free)
def vx_Post (XC : String → State → State → Prop) (mc ms : Nat) (free : Addr → Prop) : Pt → Array Value → Addr → Pt → Prop := fun A a q B =>
  ∃ (g : JFrame) (mk : MethodId) (t : State) (L : List Loc) (E : String) (ce : Cell), B.U.heap = t.heap ∧ B.U.vm = t.vm ∧ XC E (A.U.calling g mk a) t ∧ t.heap[q]? = some ce ∧ ce.vm = .none ∧ A.U.vm.findClass E = some ce.cls ∧ B.locs = A.locs ++ L ∧ (∀ z ∈ L, free z.base) ∧ B.cells = A.cells + mc ∧ B.slots = A.slots + ms
def vx_Back (l : Launch) (R : Room) (p : Program) (e : Env) (below : List Frame) (s : State) (sargs : Array Value) (y : MethodName) (len W9 : Nat)
    (Pre : Pt → Array Value → Prop) (Post : Pt → Array Value → Option Value → Pt → Prop) (PostX : Pt → Array Value → Addr → Pt → Prop) : Prop :=
  ∀ (m : MethodId) (meth : Method) (c : Code) (A : Pt) (g : JFrame) (ig : Instr) (mk : MethodId) (a : Array Value),
    Stand p l e R s m sargs below meth c A.U A.locs A.cells A.slots → g.method = m → g.locals.size = c.maxLocals → decode c.code g.pc = .ok (ig, len) →
    2 * g.monitorRoom + (g.stack.map fun v => v.category).sum ≤ W9 → A.U.methodNamed? y = some mk → Pre A a →
    (∃ (v : Option Value) (B : Pt), Stand p l e R s m sargs below meth c B.U B.locs B.cells B.slots ∧ Post A a v B ∧
      Steps p.tables e below (doInvoke e (A.U.setTop g) [] mk a).1 (B.U.setTop { g with pc := g.pc + len, stack := v.toList ++ g.stack })) ∨
    (∃ (q : Addr) (B : Pt), Stand p l e R s m sargs below meth c B.U B.locs B.cells B.slots ∧ PostX A a q B ∧
      Steps p.tables e below (doInvoke e (A.U.setTop g) [] mk a).1 ((B.U.setTop g).pushFrame (.throwing q)))
section Payer
variable {l : Launch} {R : Room} {p : Program} {e : Env} {below : List Frame} {s : State} {sargs : Array Value} {y : MethodName} {len W9 : Nat}
theorem vx_back {ws : List Cond} {rm : Room} {Pc : Array Value → State → Prop} {Qc : Array Value → State → Outcome → State → Prop} {XC : String → State → State → Prop} {mc ms : Nat} {free : Addr → Prop} {bytes : ByteArray} {maxL : Nat} {ret : Option FieldType}
    (hM : vx_Met l y ws rm Pc Qc XC mc ms free) (hblind : FrameBlind Pc) (hrc : rm.cells = mc) (hrs : rm.slots = ms)
    (hframes : rm.frames + 1 ≤ R.frames) (hlocals : W9 + (maxL + 11) + rm.locals ≤ R.locals)
    (hws : ∀ w ∈ ws, ∀ a' U, s.WarmedH U.vm → w.before a' U = true) (hcode : Cond.code y bytes maxL ret ∈ ws) (hinit : ∀ a' U, s.WarmedH U.vm → (Cond.initialized y.cls).before a' U = true) :
    vx_Back l R p e below s sargs y len W9 (PreOf R mc ms Pc) (PostOf Qc mc ms free) (vx_Post XC mc ms free) := by
  intro m meth c A g ig mk a X hg hsize hdg hW hn hp
  have h1 : (headSpec ws rm).pre.before a A.U = true := atoms_intro fun w hw => hws w hw _ _ X.warmed
  have h2 : (Cond.code y bytes maxL ret).before a A.U = true := hws _ hcode _ _ X.warmed
  have h3 : (Cond.initialized y.cls).before a A.U = true := hinit _ _ X.warmed
  have h4 : A.cells + (headSpec ws rm).room.cells ≤ R.cells := by rw [show (headSpec ws rm).room.cells = mc from hrc]; exact hp.1
  have h5 : A.slots + (headSpec ws rm).room.slots ≤ R.slots := by rw [show (headSpec ws rm).room.slots = ms from hrs]; exact hp.2.1
  have hPc : Pc a (A.U.calling g mk a) := hblind _ _ _ _ hp.2.2
  obtain ⟨U, Ls, c0, s0⟩ := A
  dsimp only [Pt.U, Pt.locs, Pt.cells, Pt.slots] at h1 h2 h3 h4 h5 X hn hPc ⊢
  obtain ⟨methY, cY, hmY, hcY, -, hlY, -, -, -, -⟩ := Cond.code_spec hn h2
  obtain ⟨kY, hkY, -⟩ := className_of_methodNamed hn
  have hinitY : kY.init = .initialized := Cond.initialized_spec (findClass_of_methodNamed hn) hkY h3
  have h : At U g.method c below := by rw [hg]; exact X.here
  have hlocals9 : W9 + (maxL + 11) + (headSpec ws rm).room.locals ≤ R.locals := hlocals
  have happ : (headSpec ws rm).appliesLoose y e.platform (U.calling g mk a) = true :=
    Spec.appliesLoose_calling (g := g) h hdg hn hkY hinitY
      (X.room_calling (g := g) (R' := (headSpec ws rm).room) hsize hmY hcY hframes (by rw [hlY]; omega) h4 h5) h1
  obtain ⟨mid, hmid⟩ := h.above
  have hfr : (U.setTop g).frames = (.java g :: mid) ++ below := by rw [State.frames_setTop' g h.top, hmid]; rfl
  obtain ⟨o, s₂, hsteps, -, hend, hq⟩ := Steps.callFree hM p X.admits X.cas X.clock (acts := []) hfr happ hPc trivial
  have hq' : vx_Q Qc XC mc ms free a (U.calling g mk a) o s₂ := hq
  rw [State.frames_setTop' g h.top] at hend
  obtain ⟨g₀, hg0⟩ := Option.isSome_iff_exists.mp h.top
  obtain ⟨r, hr⟩ := State.topJava?_eq_some.mp hg0
  have hr' : (({ U with heap := s₂.heap, slotsUsed := s₂.slotsUsed } : State).setVm s₂.vm).frames = .java g₀ :: r := hr
  rcases hq' with ⟨hqc, L, hfe, hL⟩ | ⟨q, rfl, E, ce, L, hx, hce, hcv, hcl, hW₂, hsm, hL⟩
  · obtain ⟨⟨v, rfl⟩, hW₂, e2, q2, q3, q4, q5, q6⟩ := id hfe
    have e3 : s₂ = ({ (U.calling g mk a).setFrames s₂.frames with heap := s₂.heap, slotsUsed := s₂.slotsUsed } : State).setVm s₂.vm := by
      have : s₂ = ({ s₂ with vm := (U.calling g mk a).vm } : State).setVm s₂.vm := rfl
      rw [e2] at this
      exact this
    obtain ⟨c₂, i₂, len₂, hc₂, hd₂, hf₂⟩ := hend
    have hW' : U.WarmedH s₂.vm := hW₂
    have hcc : c₂ = c := by
      have h1 : s₂.code? g.method = U.code? g.method := by
        rw [State.code?_eq, State.code?_eq, hW'.alike.method?]
      exact Option.some.inj (hc₂.symm.trans (h1.trans h.code))
    subst hcc
    have hlen : len₂ = len := by rw [hdg] at hd₂; cases hd₂; rfl
    subst hlen
    have hs₂ : s₂ = (({ U with heap := s₂.heap, slotsUsed := s₂.slotsUsed } : State).setVm s₂.vm).setTop { g with pc := g.pc + len₂, stack := v.toList ++ g.stack } := by
      refine e3.trans ?_
      rw [hf₂, State.calling_eq h.top, State.setFrames_setFrames, State.setTop_of_frames _ hr', hr]
      rfl
    have hsame : U.sameButNew ({ U with heap := s₂.heap, slotsUsed := s₂.slotsUsed } : State) L mc ms := by
      refine ⟨?_, q2, q3, q4, q5, q6⟩
      obtain ⟨t, ht, -⟩ := State.frames_cons hr
      show ({ U with heap := s₂.heap, slotsUsed := s₂.slotsUsed } : State) = { U.setFrames U.frames with heap := s₂.heap, slotsUsed := s₂.slotsUsed }
      rw [State.setFrames_self ht]
    subst hg
    refine Or.inl ⟨v, ⟨(({ U with heap := s₂.heap, slotsUsed := s₂.slotsUsed } : State).setVm s₂.vm), Ls ++ L, c0 + mc, s0 + ms⟩,
      ⟨X.admits, X.cas, X.clock, X.frames, X.room, X.hears, X.method, X.code, (X.here.setHeapUsed s₂.heap s₂.slotsUsed).setVm hW'.alike, X.tail, State.WarmedH.trans X.warmed hW', X.limits, X.bytes, X.same.trans (hsame.setVm s.vm)⟩,
      ⟨g, mk, s₂, L, rfl, rfl, hqc, rfl, hL, rfl, rfl⟩, ?_⟩
    show Steps p.tables e below _ ((({ U with heap := s₂.heap, slotsUsed := s₂.slotsUsed } : State).setVm s₂.vm).setTop { g with pc := g.pc + len₂, stack := v.toList ++ g.stack })
    rw [← hs₂]
    exact hsteps
  · obtain ⟨e2, q2, q3, q4, q5, q6⟩ := id hsm
    have e3 : s₂ = ({ (U.calling g mk a).setFrames s₂.frames with heap := s₂.heap, slotsUsed := s₂.slotsUsed } : State).setVm s₂.vm := by
      have : s₂ = ({ s₂ with vm := (U.calling g mk a).vm } : State).setVm s₂.vm := rfl
      rw [e2] at this
      exact this
    have hf₂ : s₂.frames = .throwing q :: .java g :: U.frames.tail := hend
    have hW' : U.WarmedH s₂.vm := hW₂
    have hs₂ : s₂ = ((({ U with heap := s₂.heap, slotsUsed := s₂.slotsUsed } : State).setVm s₂.vm).setTop g).pushFrame (.throwing q) := by
      refine e3.trans ?_
      rw [hf₂, State.calling_eq h.top, State.setFrames_setFrames, State.pushFrame, State.frames_setTop _ hr', State.setTop_of_frames _ hr', State.setFrames_setFrames, hr]
      rfl
    have hsame : U.sameButNew ({ U with heap := s₂.heap, slotsUsed := s₂.slotsUsed } : State) L mc ms := by
      refine ⟨?_, q2, q3, q4, q5, q6⟩
      obtain ⟨t, ht, -⟩ := State.frames_cons hr
      show ({ U with heap := s₂.heap, slotsUsed := s₂.slotsUsed } : State) = { U.setFrames U.frames with heap := s₂.heap, slotsUsed := s₂.slotsUsed }
      rw [State.setFrames_self ht]
    subst hg
    refine Or.inr ⟨q, ⟨(({ U with heap := s₂.heap, slotsUsed := s₂.slotsUsed } : State).setVm s₂.vm), Ls ++ L, c0 + mc, s0 + ms⟩,
      ⟨X.admits, X.cas, X.clock, X.frames, X.room, X.hears, X.method, X.code, (X.here.setHeapUsed s₂.heap s₂.slotsUsed).setVm hW'.alike, X.tail, State.WarmedH.trans X.warmed hW', X.limits, X.bytes, X.same.trans (hsame.setVm s.vm)⟩,
      ⟨g, mk, s₂, L, E, ce, rfl, rfl, hx, hce, hcv, hcl, rfl, hL, rfl, rfl⟩, ?_⟩
    show Steps p.tables e below _ (((({ U with heap := s₂.heap, slotsUsed := s₂.slotsUsed } : State).setVm s₂.vm).setTop g).pushFrame (.throwing q))
    rw [← hs₂]
    exact hsteps
end Payer
section Calls
variable {p : Program} {l : Launch} {e : Env} {R : Room} {s : State} {m : MethodId} {args : Array Value} {below : List Frame} {meth : Method} {c : Code} {T : State} {locs : List Loc} {cells slots : Nat}
theorem vx_callV (X : Stand p l e R s m args below meth c T locs cells slots) (hexec : p.tables.exec = Jvm.exec) {own C : String} {index : Nat} {y : MethodName} {bytes : ByteArray} {maxL : Nat} {ret : Option FieldType}
    (hown : s.vm.findClass own = some m.cls) (hlink : (Cond.methodLink own index y).before args s = true) (hinst : (Cond.instanceMethod y).before args s = true) (hsel : (Cond.selects C y y).before args s = true)
    (hcode : (Cond.code y bytes maxL ret).before args s = true) (hy : y.cls ≠ "java/lang/invoke/MethodHandle" ∧ y.cls ≠ "java/lang/invoke/VarHandle")
    {W9 : Nat} {Pre : Pt → Array Value → Prop} {Post : Pt → Array Value → Option Value → Pt → Prop} {PostX : Pt → Array Value → Addr → Pt → Prop} (hK : vx_Back l R p e below s args y 3 W9 Pre Post PostX)
    {b : Addr} {cellB : Cell} (hcell : T.heap[b]? = some cellB) (hobj : cellB.vm.isStatics = false) (hcls : s.vm.findClass C = some cellB.cls)
    {g : JFrame} (hg : g.method = m) (hsize : g.locals.size = c.maxLocals) {argsL rest : List Value} (hlen : ∀ sig, parseMethodDescriptor y.desc = some sig → argsL.length = sig.parameters.length)
    (hstack : g.stack = argsL.reverse ++ .ref b :: rest) (hW : 2 * g.monitorRoom + (rest.map fun v => v.category).sum ≤ W9) (hdg : decode c.code g.pc = .ok (.invokevirtual index, 3))
    (hpre : ∀ vm₁, s.WarmedH vm₁ → Pre ⟨T.setVm vm₁, locs, cells, slots⟩ (Value.ref b :: argsL).toArray) :
    (∃ (v : Option Value) (vm₁ : Vm) (B : Pt), s.WarmedH vm₁ ∧ Stand p l e R s m args below meth c B.U B.locs B.cells B.slots ∧ Post ⟨T.setVm vm₁, locs, cells, slots⟩ (Value.ref b :: argsL).toArray v B ∧
      ∀ target, Steps p.tables e below (B.U.setTop { g with pc := g.pc + 3, stack := v.toList ++ rest }) target → Steps p.tables e below (T.setTop g) target) ∨
    (∃ (q : Addr) (vm₁ : Vm) (B : Pt), s.WarmedH vm₁ ∧ Stand p l e R s m args below meth c B.U B.locs B.cells B.slots ∧ PostX ⟨T.setVm vm₁, locs, cells, slots⟩ (Value.ref b :: argsL).toArray q B ∧
      Steps p.tables e below (T.setTop g) ((B.U.setTop { g with stack := rest }).pushFrame (.throwing q))) := by
  obtain ⟨mk, methM, hnamed, hmethM, hstM, habM⟩ := Cond.instanceMethod_spec hinst
  obtain ⟨methM', cM, hmethM', -, -, -, -, -, -, hsigM⟩ := Cond.code_spec hnamed hcode
  cases hmethM.symm.trans hmethM'
  obtain ⟨c2, r2, m2, q1, q2, q3, q4, kP, hkP, hkPi⟩ := Cond.selects_spec hsel
  cases hcls.symm.trans q1
  cases (State.methodFound?_of_named hnamed hy).symm.trans q2
  cases hnamed.symm.trans q3
  have hselP : selectMethod e.platform s.vm cellB.cls mk = .method mk := by rw [Launch.admits_selectMethod X.admits]; exact q4
  obtain ⟨vm₁, X₁, hstep₁⟩ := X.invokevirtual hexec hown hlink hnamed hmethM hstM hkP hkPi hy (a := b) (cell := cellB) hcell
    (fun z h => by rw [h] at hobj; cases hobj) hselP hmethM habM hkP hkPi (g := g) hg (argsL := argsL) (rest := rest) (hlen _ hsigM) hstack hdg
  rcases hK m meth c ⟨T.setVm vm₁, locs, cells, slots⟩ { g with stack := rest } (.invokevirtual index) mk (Value.ref b :: argsL).toArray X₁ hg hsize hdg hW (X₁.named hnamed) (hpre vm₁ X₁.warmed) with ⟨v, B, X', hpost, hsteps⟩ | ⟨q, B, X', hpost, hsteps⟩
  · exact Or.inl ⟨v, vm₁, B, X₁.warmed, X', hpost, fun target h => hstep₁ _ fun acts => by rw [doInvoke_state]; exact hsteps.trans h⟩
  · exact Or.inr ⟨q, vm₁, B, X₁.warmed, X', hpost, hstep₁ _ fun acts => by rw [doInvoke_state]; exact hsteps⟩
theorem vx_callS (X : Stand p l e R s m args below meth c T locs cells slots) (hexec : p.tables.exec = Jvm.exec) {own : String} {index : Nat} {y : MethodName} {bytes : ByteArray} {maxL : Nat} {ret : Option FieldType}
    (hown : s.vm.findClass own = some m.cls) (hlink : (Cond.methodLink own index y).before args s = true) (hstat : (Cond.static y).before args s = true) (hinit : (Cond.initialized y.cls).before args s = true)
    (hcode : (Cond.code y bytes maxL ret).before args s = true) (hy : y.cls ≠ "java/lang/invoke/MethodHandle" ∧ y.cls ≠ "java/lang/invoke/VarHandle")
    {W9 : Nat} {Pre : Pt → Array Value → Prop} {Post : Pt → Array Value → Option Value → Pt → Prop} {PostX : Pt → Array Value → Addr → Pt → Prop} (hK : vx_Back l R p e below s args y 3 W9 Pre Post PostX)
    {g : JFrame} (hg : g.method = m) (hsize : g.locals.size = c.maxLocals) {argsL rest : List Value} (hlen : ∀ sig, parseMethodDescriptor y.desc = some sig → argsL.length = sig.parameters.length)
    (hstack : g.stack = argsL.reverse ++ rest) (hW : 2 * g.monitorRoom + (rest.map fun v => v.category).sum ≤ W9) (hdg : decode c.code g.pc = .ok (.invokestatic index, 3))
    (hpre : ∀ vm₁, s.WarmedH vm₁ → Pre ⟨T.setVm vm₁, locs, cells, slots⟩ argsL.toArray) :
    (∃ (v : Option Value) (vm₁ : Vm) (B : Pt), s.WarmedH vm₁ ∧ Stand p l e R s m args below meth c B.U B.locs B.cells B.slots ∧ Post ⟨T.setVm vm₁, locs, cells, slots⟩ argsL.toArray v B ∧
      ∀ target, Steps p.tables e below (B.U.setTop { g with pc := g.pc + 3, stack := v.toList ++ rest }) target → Steps p.tables e below (T.setTop g) target) ∨
    (∃ (q : Addr) (vm₁ : Vm) (B : Pt), s.WarmedH vm₁ ∧ Stand p l e R s m args below meth c B.U B.locs B.cells B.slots ∧ PostX ⟨T.setVm vm₁, locs, cells, slots⟩ argsL.toArray q B ∧
      Steps p.tables e below (T.setTop g) ((B.U.setTop { g with stack := rest }).pushFrame (.throwing q))) := by
  obtain ⟨mk, hnamed⟩ := Cond.code_named hcode
  obtain ⟨methM, cM, hmethM, -, -, -, -, -, -, hsigM⟩ := Cond.code_spec hnamed hcode
  have hstatic : methM.isStatic = true := Cond.static_spec hnamed hmethM hstat
  obtain ⟨kP, hkP, -⟩ := className_of_methodNamed hnamed
  have hinitP : kP.init = .initialized := Cond.initialized_spec (findClass_of_methodNamed hnamed) hkP hinit
  obtain ⟨vm₁, X₁, hstep₁⟩ := X.invokestatic hexec hown hlink hnamed hmethM hstatic hkP hinitP hy (g := g) hg (argsL := argsL) (rest := rest) (hlen _ hsigM) hstack hdg
  rcases hK m meth c ⟨T.setVm vm₁, locs, cells, slots⟩ { g with stack := rest } (.invokestatic index) mk argsL.toArray X₁ hg hsize hdg hW (X₁.named hnamed) (hpre vm₁ X₁.warmed) with ⟨v, B, X', hpost, hsteps⟩ | ⟨q, B, X', hpost, hsteps⟩
  · exact Or.inl ⟨v, vm₁, B, X₁.warmed, X', hpost, fun target h => hstep₁ _ fun acts => by rw [doInvoke_state]; exact hsteps.trans h⟩
  · exact Or.inr ⟨q, vm₁, B, X₁.warmed, X', hpost, hstep₁ _ fun acts => by rw [doInvoke_state]; exact hsteps⟩
end Calls
theorem vx_cls {s : State} {T : State} {vm₁ : Vm} {E : String} {k : ClassId} (hW : s.WarmedH vm₁) (h : (T.setVm vm₁).vm.findClass E = some k) : s.vm.findClass E = some k := by
  have h1 : vm₁.findClass E = some k := h
  rw [hW.alike.findClass] at h1
  exact h1
/-- the method's frame g, with q thrown over it -/
def vx_W (p : Program) (l : Launch) (e : Env) (R : Room) (s : State) (m : MethodId) (args : Array Value) (below : List Frame) (meth : Method) (c : Code) (H : Heap) (locs : List Loc) (cells slots : Nat) (Q : State → Prop) (g : JFrame) (q : Addr) : Prop :=
  ∀ T : State, T.heap = H → Stand p l e R s m args below meth c T locs cells slots → ∃ t, Steps p.tables e below ((T.setTop g).pushFrame (.throwing q)) t ∧ Q t
def vx_Run (p : Program) (l : Launch) (e : Env) (R : Room) (s : State) (m : MethodId) (args : Array Value) (below : List Frame) (meth : Method) (c : Code) (H : Heap) (locs : List Loc) (cells slots mc ms : Nat) (g : JFrame) (rest : List Value) (Qa : State → Outcome → State → Prop) (XC : String → State → State → Prop) (free : Addr → Prop) : Prop :=
  ∀ T : State, T.heap = H → Stand p l e R s m args below meth c T locs cells slots →
    (∃ (v : Option Value) (st₀ t T' : State) (L : List Loc), st₀.heap = H ∧ Stand p l e R s m args below meth c T' (locs ++ L) (cells + mc) (slots + ms) ∧ (∀ q ∈ L, free q.base) ∧ T'.heap = t.heap ∧ T'.vm = t.vm ∧ Qa st₀ (.returned v) t ∧
      Goes p e below T g T' { g with pc := g.pc + 3, stack := v.toList ++ rest }) ∨
    (∃ (q : Addr) (st₀ t T' : State) (L : List Loc) (E : String) (ce : Cell), st₀.heap = H ∧ Stand p l e R s m args below meth c T' (locs ++ L) (cells + mc) (slots + ms) ∧ (∀ z ∈ L, free z.base) ∧ T'.heap = t.heap ∧ T'.vm = t.vm ∧ XC E st₀ t ∧ t.heap[q]? = some ce ∧ ce.vm = .none ∧ s.vm.findClass E = some ce.cls ∧
      Steps p.tables e below (T.setTop g) ((T'.setTop { g with stack := rest }).pushFrame (.throwing q)))
def vx_X {S : Type} (px : S → Prop) (B : String → S → State → Prop) (A : Nat → Prop) : String → State → State → Prop := fun E st t => ∃ u : S, px u ∧ B E u t ∧ va_F A st t
section Runs
variable {p : Program} {l : Launch} {e : Env} {R : Room} {s : State} {m : MethodId} {args : Array Value} {below : List Frame} {meth : Method} {c : Code} {H : Heap} {locs : List Loc} {cells slots : Nat}
variable {y : MethodName} {bytes cc : ByteArray} {maxL nL mc ms n index : Nat} {ret : Option FieldType} {ws : List Cond} {rm : Room} {Pc : Array Value → State → Prop} {Qc : Array Value → State → Outcome → State → Prop} {XC : String → State → State → Prop} {free : Addr → Prop} {Ts : List Cond} {own C : String} {b : Addr} {As rest : List Value} {g : JFrame}
theorem vx_callBack (cb : CallB R s args own index y bytes maxL ret ws rm mc ms n) (hM : vx_Met l y ws rm Pc Qc XC mc ms free) (hbl : FrameBlind Pc) : vx_Back l R p e below s args y 3 8 (PreOf R mc ms Pc) (PostOf Qc mc ms free) (vx_Post XC mc ms free) := by
  obtain ⟨hrc, hrs, hfr, hlo, hws, hcw, -, hini, -⟩ := cb
  exact vx_back (bytes := bytes) (maxL := maxL) (ret := ret) hM hbl hrc hrs hfr hlo hws hcw (fun a' U hW => word_at hW (Or.inl (by first | rfl | simp [Cond.onTables, Cond.keeps, Cond.steady])) hini)
theorem vx_runV (S : CallFix p m c cc nL s args Ts own) (hM : vx_Met l y ws rm Pc Qc XC mc ms free) (cw : CallW R s args own C index y bytes maxL ret ws rm mc ms n) (hp : PreV s H C b Pc As)
    (hg : g.method = m) (hn : As.length = n) (hsize : g.locals.size = nL) (hstack : g.stack = As.reverse ++ .ref b :: rest) (hW : 2 * g.monitorRoom + (rest.map fun v => v.category).sum ≤ 8) (hdg : decode cc g.pc = .ok (.invokevirtual index, 3)) (hf : cells + mc ≤ R.cells ∧ slots + ms ≤ R.slots) :
    vx_Run p l e R s m args below meth c H locs cells slots mc ms g rest (Qc (Value.ref b :: As).toArray) XC free := by
  have hK : vx_Back l R p e below s args y 3 8 (PreOf R mc ms Pc) (PostOf Qc mc ms free) (vx_Post XC mc ms free) := vx_callBack cw.1 hM hp.1
  obtain ⟨⟨-, -, -, -, -, -, hcode, -, hy, hlen, hl⟩, hin, hse⟩ := cw
  obtain ⟨hx, hb, hml, ho, -⟩ := S
  obtain ⟨-, ⟨cellB, hcB, hoB, hclB⟩, hPc⟩ := hp
  intro T hT X
  rcases vx_callV X hx (C := C) (bytes := bytes) (maxL := maxL) (ret := ret) ho hl hin hse hcode hy hK (by rw [hT]; exact hcB) hoB hclB hg (hsize.trans hml.symm) (argsL := As) (rest := rest) (fun sig h => hn.trans (hlen sig h)) hstack hW (by rw [hb]; exact hdg)
    (fun vm₁ hW₁ => ⟨hf.1, hf.2, hPc (T.setVm vm₁) hT hW₁⟩) with ⟨v, vm₁, ⟨U', l2, c2, s2⟩, hW₁, X', ⟨g', mk, t, L, e1, e2, hq, h1, hL, h2, h3⟩, st⟩ | ⟨q, vm₁, ⟨U', l2, c2, s2⟩, hW₁, X', ⟨g', mk, t, L, E, ce, e1, e2, hq, hce, hcv, hcl, h1, hL, h2, h3⟩, st⟩
  · dsimp only [Pt.U, Pt.locs, Pt.cells, Pt.slots] at X' e1 e2 h1 h2 h3 st
    subst h1; subst h2; subst h3
    exact Or.inl ⟨v, (T.setVm vm₁).calling g' mk (Value.ref b :: As).toArray, t, U', L, hT, X', hL, e1, e2, hq, st⟩
  · dsimp only [Pt.U, Pt.locs, Pt.cells, Pt.slots] at X' e1 e2 h1 h2 h3 st hcl
    subst h1; subst h2; subst h3
    exact Or.inr ⟨q, (T.setVm vm₁).calling g' mk (Value.ref b :: As).toArray, t, U', L, E, ce, hT, X', hL, e1, e2, hq, hce, hcv, vx_cls hW₁ hcl, st⟩
theorem vx_runS (S : CallFix p m c cc nL s args Ts own) (hM : vx_Met l y ws rm Pc Qc XC mc ms free) (cw : CallB R s args own index y bytes maxL ret ws rm mc ms n ∧ (Cond.static y).before args s = true) (hp : PreS s H Pc As)
    (hg : g.method = m) (hn : As.length = n) (hsize : g.locals.size = nL) (hstack : g.stack = As.reverse ++ rest) (hW : 2 * g.monitorRoom + (rest.map fun v => v.category).sum ≤ 8) (hdg : decode cc g.pc = .ok (.invokestatic index, 3)) (hf : cells + mc ≤ R.cells ∧ slots + ms ≤ R.slots) :
    vx_Run p l e R s m args below meth c H locs cells slots mc ms g rest (Qc As.toArray) XC free := by
  have hK : vx_Back l R p e below s args y 3 8 (PreOf R mc ms Pc) (PostOf Qc mc ms free) (vx_Post XC mc ms free) := vx_callBack cw.1 hM hp.1
  obtain ⟨⟨-, -, -, -, -, -, hcode, hini, hy, hlen, hl⟩, hstt⟩ := cw
  obtain ⟨hx, hb, hml, ho, -⟩ := S
  intro T hT X
  rcases vx_callS X hx (bytes := bytes) (maxL := maxL) (ret := ret) ho hl hstt hini hcode hy hK hg (hsize.trans hml.symm) (argsL := As) (rest := rest) (fun sig h => hn.trans (hlen sig h)) hstack hW (by rw [hb]; exact hdg)
    (fun vm₁ hW₁ => ⟨hf.1, hf.2, hp.2 (T.setVm vm₁) hT hW₁⟩) with ⟨v, vm₁, ⟨U', l2, c2, s2⟩, hW₁, X', ⟨g', mk, t, L, e1, e2, hq, h1, hL, h2, h3⟩, st⟩ | ⟨q, vm₁, ⟨U', l2, c2, s2⟩, hW₁, X', ⟨g', mk, t, L, E, ce, e1, e2, hq, hce, hcv, hcl, h1, hL, h2, h3⟩, st⟩
  · dsimp only [Pt.U, Pt.locs, Pt.cells, Pt.slots] at X' e1 e2 h1 h2 h3 st
    subst h1; subst h2; subst h3
    exact Or.inl ⟨v, (T.setVm vm₁).calling g' mk As.toArray, t, U', L, hT, X', hL, e1, e2, hq, st⟩
  · dsimp only [Pt.U, Pt.locs, Pt.cells, Pt.slots] at X' e1 e2 h1 h2 h3 st hcl
    subst h1; subst h2; subst h3
    exact Or.inr ⟨q, (T.setVm vm₁).calling g' mk As.toArray, t, U', L, E, ce, hT, X', hL, e1, e2, hq, hce, hcv, vx_cls hW₁ hcl, st⟩
end Runs
section Rows
variable {p : Program} {l : Launch} {e : Env} {R : Room} {s : State} {m : MethodId} {args : Array Value} {below : List Frame} {meth : Method} {c : Code} {H : Heap} {locs : List Loc} {cells slots : Nat} {Q : State → Prop}
variable {mc ms : Nat} {free : Addr → Prop} {A0 A1 : Nat → Prop} {H0 : Heap} {a : Array Value} {pc : Nat} {ls : Array Slot} {st0 rest : List Value}
theorem vx_keep {st₀ t T' : State} {L : List Loc} (h0 : st₀.heap = H) (e1 : T'.heap = t.heap) (hS : va_S A0 H0 H locs) (hA : ∀ q, q < H.size → A1 q → A0 q) (hf : ∀ q, free q → A0 q) (hL : ∀ q ∈ L, free q.base) (hF : va_F A1 st₀ t) :
    H.size ≤ T'.heap.size ∧ (∀ q : Nat, q < H.size → ¬ A1 q → T'.heap[q]? = H[q]?) ∧ va_S A0 H0 T'.heap (locs ++ L) := by
  obtain ⟨hz, hk⟩ := hF
  rw [h0] at hz hk
  exact ⟨by rw [e1]; exact hz, fun q h1 h2 => by rw [e1]; exact hk q h1 h2,
    ⟨Nat.le_trans hS.1 (by rw [e1]; exact hz), fun q h1 h2 => by rw [e1, hk q (Nat.lt_of_lt_of_le h1 hS.1) (fun z => h2 (hA q (Nat.lt_of_lt_of_le h1 hS.1) z))]; exact hS.2.1 q h1 h2, fun q hq => by
      rcases List.mem_append.mp hq with h | h
      · exact hS.2.2 q h
      · exact hf _ (hL q h)⟩⟩
theorem vx_calli {S SX : Type} {post : Int32 → S → Prop} {px : SX → Prop} {B : S → State → Prop} {BX : String → SX → State → Prop} {AX : Nat → Prop} (hr : vx_Run p l e R s m args below meth c H locs cells slots mc ms (F0 m pc ls st0) rest (va_Qi post B A1 a) (vx_X px BX AX) free) (hS : va_S A0 H0 H locs) (hA : ∀ q, q < H.size → A1 q → A0 q) (hf : ∀ q, free q → A0 q) (hAX : ∀ q, q < H.size → AX q → A0 q)
    (kx : ∀ (E : String) (ce : Cell) (q9 : Addr) (u : SX) (t : State) (H1 : Heap) (locs1 : List Loc), t.heap = H1 → s.vm.Alike t.vm → px u → BX E u t → H.size ≤ H1.size → (∀ q : Nat, q < H.size → ¬ AX q → H1[q]? = H[q]?) → va_S A0 H0 H1 locs1 → H1[q9]? = some ce → ce.vm = .none → s.vm.findClass E = some ce.cls → vx_W p l e R s m args below meth c H1 locs1 (cells + mc) (slots + ms) Q (F0 m pc ls rest) q9)
    (kk : ∀ (r : Int32) (u : S) (t : State) (H1 : Heap) (locs1 : List Loc), t.heap = H1 → s.vm.Alike t.vm → post r u → B u t → H.size ≤ H1.size → (∀ q : Nat, q < H.size → ¬ A1 q → H1[q]? = H[q]?) → va_S A0 H0 H1 locs1 → W p l e R s m args below meth c H1 locs1 (cells + mc) (slots + ms) Q (F0 m (pc + 3) ls (.int r :: rest))) : W p l e R s m args below meth c H locs cells slots Q (F0 m pc ls st0) := by
  intro T hT X
  rcases hr T hT X with ⟨v, st₀, t, T', L, h0, X', hL, e1, e2, ⟨⟨r, u, hv, hp, hb⟩, hF⟩, st⟩ | ⟨q, st₀, t, T', L, E, ce, h0, X', hL, e1, e2, ⟨u, hp, hb, hF⟩, hce, hcv, hcl, st⟩
  · cases hv
    obtain ⟨k1, k2, k3⟩ := vx_keep h0 e1 hS hA hf hL hF
    obtain ⟨t2, a1, b1⟩ := kk r u t T'.heap (locs ++ L) e1.symm (by rw [← e2]; exact X'.warmed.alike) hp hb k1 k2 k3 T' rfl X'
    exact ⟨t2, st t2 a1, b1⟩
  · obtain ⟨k1, k2, k3⟩ := vx_keep h0 e1 hS hAX hf hL hF
    obtain ⟨t2, a1, b1⟩ := kx E ce q u t T'.heap (locs ++ L) e1.symm (by rw [← e2]; exact X'.warmed.alike) hp hb k1 k2 k3 (by rw [e1]; exact hce) hcv hcl T' rfl X'
    exact ⟨t2, st.trans a1, b1⟩
theorem vx_calll {S SX : Type} {post : Int64 → S → Prop} {px : SX → Prop} {B : S → State → Prop} {BX : String → SX → State → Prop} {AX : Nat → Prop} (hr : vx_Run p l e R s m args below meth c H locs cells slots mc ms (F0 m pc ls st0) rest (va_Ql post B A1 a) (vx_X px BX AX) free) (hS : va_S A0 H0 H locs) (hA : ∀ q, q < H.size → A1 q → A0 q) (hf : ∀ q, free q → A0 q) (hAX : ∀ q, q < H.size → AX q → A0 q)
    (kx : ∀ (E : String) (ce : Cell) (q9 : Addr) (u : SX) (t : State) (H1 : Heap) (locs1 : List Loc), t.heap = H1 → s.vm.Alike t.vm → px u → BX E u t → H.size ≤ H1.size → (∀ q : Nat, q < H.size → ¬ AX q → H1[q]? = H[q]?) → va_S A0 H0 H1 locs1 → H1[q9]? = some ce → ce.vm = .none → s.vm.findClass E = some ce.cls → vx_W p l e R s m args below meth c H1 locs1 (cells + mc) (slots + ms) Q (F0 m pc ls rest) q9)
    (kk : ∀ (r : Int64) (u : S) (t : State) (H1 : Heap) (locs1 : List Loc), t.heap = H1 → s.vm.Alike t.vm → post r u → B u t → H.size ≤ H1.size → (∀ q : Nat, q < H.size → ¬ A1 q → H1[q]? = H[q]?) → va_S A0 H0 H1 locs1 → W p l e R s m args below meth c H1 locs1 (cells + mc) (slots + ms) Q (F0 m (pc + 3) ls (.long r :: rest))) : W p l e R s m args below meth c H locs cells slots Q (F0 m pc ls st0) := by
  intro T hT X
  rcases hr T hT X with ⟨v, st₀, t, T', L, h0, X', hL, e1, e2, ⟨⟨r, u, hv, hp, hb⟩, hF⟩, st⟩ | ⟨q, st₀, t, T', L, E, ce, h0, X', hL, e1, e2, ⟨u, hp, hb, hF⟩, hce, hcv, hcl, st⟩
  · cases hv
    obtain ⟨k1, k2, k3⟩ := vx_keep h0 e1 hS hA hf hL hF
    obtain ⟨t2, a1, b1⟩ := kk r u t T'.heap (locs ++ L) e1.symm (by rw [← e2]; exact X'.warmed.alike) hp hb k1 k2 k3 T' rfl X'
    exact ⟨t2, st t2 a1, b1⟩
  · obtain ⟨k1, k2, k3⟩ := vx_keep h0 e1 hS hAX hf hL hF
    obtain ⟨t2, a1, b1⟩ := kx E ce q u t T'.heap (locs ++ L) e1.symm (by rw [← e2]; exact X'.warmed.alike) hp hb k1 k2 k3 (by rw [e1]; exact hce) hcv hcl T' rfl X'
    exact ⟨t2, st.trans a1, b1⟩
theorem vx_callf {S SX : Type} {post : UInt32 → S → Prop} {px : SX → Prop} {B : S → State → Prop} {BX : String → SX → State → Prop} {AX : Nat → Prop} (hr : vx_Run p l e R s m args below meth c H locs cells slots mc ms (F0 m pc ls st0) rest (va_Qf post B A1 a) (vx_X px BX AX) free) (hS : va_S A0 H0 H locs) (hA : ∀ q, q < H.size → A1 q → A0 q) (hf : ∀ q, free q → A0 q) (hAX : ∀ q, q < H.size → AX q → A0 q)
    (kx : ∀ (E : String) (ce : Cell) (q9 : Addr) (u : SX) (t : State) (H1 : Heap) (locs1 : List Loc), t.heap = H1 → s.vm.Alike t.vm → px u → BX E u t → H.size ≤ H1.size → (∀ q : Nat, q < H.size → ¬ AX q → H1[q]? = H[q]?) → va_S A0 H0 H1 locs1 → H1[q9]? = some ce → ce.vm = .none → s.vm.findClass E = some ce.cls → vx_W p l e R s m args below meth c H1 locs1 (cells + mc) (slots + ms) Q (F0 m pc ls rest) q9)
    (kk : ∀ (r : UInt32) (u : S) (t : State) (H1 : Heap) (locs1 : List Loc), t.heap = H1 → s.vm.Alike t.vm → post r u → B u t → H.size ≤ H1.size → (∀ q : Nat, q < H.size → ¬ A1 q → H1[q]? = H[q]?) → va_S A0 H0 H1 locs1 → W p l e R s m args below meth c H1 locs1 (cells + mc) (slots + ms) Q (F0 m (pc + 3) ls (.float r :: rest))) : W p l e R s m args below meth c H locs cells slots Q (F0 m pc ls st0) := by
  intro T hT X
  rcases hr T hT X with ⟨v, st₀, t, T', L, h0, X', hL, e1, e2, ⟨⟨r, u, hv, hp, hb⟩, hF⟩, st⟩ | ⟨q, st₀, t, T', L, E, ce, h0, X', hL, e1, e2, ⟨u, hp, hb, hF⟩, hce, hcv, hcl, st⟩
  · cases hv
    obtain ⟨k1, k2, k3⟩ := vx_keep h0 e1 hS hA hf hL hF
    obtain ⟨t2, a1, b1⟩ := kk r u t T'.heap (locs ++ L) e1.symm (by rw [← e2]; exact X'.warmed.alike) hp hb k1 k2 k3 T' rfl X'
    exact ⟨t2, st t2 a1, b1⟩
  · obtain ⟨k1, k2, k3⟩ := vx_keep h0 e1 hS hAX hf hL hF
    obtain ⟨t2, a1, b1⟩ := kx E ce q u t T'.heap (locs ++ L) e1.symm (by rw [← e2]; exact X'.warmed.alike) hp hb k1 k2 k3 (by rw [e1]; exact hce) hcv hcl T' rfl X'
    exact ⟨t2, st.trans a1, b1⟩
theorem vx_calld {S SX : Type} {post : UInt64 → S → Prop} {px : SX → Prop} {B : S → State → Prop} {BX : String → SX → State → Prop} {AX : Nat → Prop} (hr : vx_Run p l e R s m args below meth c H locs cells slots mc ms (F0 m pc ls st0) rest (va_Qd post B A1 a) (vx_X px BX AX) free) (hS : va_S A0 H0 H locs) (hA : ∀ q, q < H.size → A1 q → A0 q) (hf : ∀ q, free q → A0 q) (hAX : ∀ q, q < H.size → AX q → A0 q)
    (kx : ∀ (E : String) (ce : Cell) (q9 : Addr) (u : SX) (t : State) (H1 : Heap) (locs1 : List Loc), t.heap = H1 → s.vm.Alike t.vm → px u → BX E u t → H.size ≤ H1.size → (∀ q : Nat, q < H.size → ¬ AX q → H1[q]? = H[q]?) → va_S A0 H0 H1 locs1 → H1[q9]? = some ce → ce.vm = .none → s.vm.findClass E = some ce.cls → vx_W p l e R s m args below meth c H1 locs1 (cells + mc) (slots + ms) Q (F0 m pc ls rest) q9)
    (kk : ∀ (r : UInt64) (u : S) (t : State) (H1 : Heap) (locs1 : List Loc), t.heap = H1 → s.vm.Alike t.vm → post r u → B u t → H.size ≤ H1.size → (∀ q : Nat, q < H.size → ¬ A1 q → H1[q]? = H[q]?) → va_S A0 H0 H1 locs1 → W p l e R s m args below meth c H1 locs1 (cells + mc) (slots + ms) Q (F0 m (pc + 3) ls (.double r :: rest))) : W p l e R s m args below meth c H locs cells slots Q (F0 m pc ls st0) := by
  intro T hT X
  rcases hr T hT X with ⟨v, st₀, t, T', L, h0, X', hL, e1, e2, ⟨⟨r, u, hv, hp, hb⟩, hF⟩, st⟩ | ⟨q, st₀, t, T', L, E, ce, h0, X', hL, e1, e2, ⟨u, hp, hb, hF⟩, hce, hcv, hcl, st⟩
  · cases hv
    obtain ⟨k1, k2, k3⟩ := vx_keep h0 e1 hS hA hf hL hF
    obtain ⟨t2, a1, b1⟩ := kk r u t T'.heap (locs ++ L) e1.symm (by rw [← e2]; exact X'.warmed.alike) hp hb k1 k2 k3 T' rfl X'
    exact ⟨t2, st t2 a1, b1⟩
  · obtain ⟨k1, k2, k3⟩ := vx_keep h0 e1 hS hAX hf hL hF
    obtain ⟨t2, a1, b1⟩ := kx E ce q u t T'.heap (locs ++ L) e1.symm (by rw [← e2]; exact X'.warmed.alike) hp hb k1 k2 k3 (by rw [e1]; exact hce) hcv hcl T' rfl X'
    exact ⟨t2, st.trans a1, b1⟩
theorem vx_callv {S SX : Type} {post : S → Prop} {px : SX → Prop} {B : S → State → Prop} {BX : String → SX → State → Prop} {AX : Nat → Prop} (hr : vx_Run p l e R s m args below meth c H locs cells slots mc ms (F0 m pc ls st0) rest (va_Qv post B A1 a) (vx_X px BX AX) free) (hS : va_S A0 H0 H locs) (hA : ∀ q, q < H.size → A1 q → A0 q) (hf : ∀ q, free q → A0 q) (hAX : ∀ q, q < H.size → AX q → A0 q)
    (kx : ∀ (E : String) (ce : Cell) (q9 : Addr) (u : SX) (t : State) (H1 : Heap) (locs1 : List Loc), t.heap = H1 → s.vm.Alike t.vm → px u → BX E u t → H.size ≤ H1.size → (∀ q : Nat, q < H.size → ¬ AX q → H1[q]? = H[q]?) → va_S A0 H0 H1 locs1 → H1[q9]? = some ce → ce.vm = .none → s.vm.findClass E = some ce.cls → vx_W p l e R s m args below meth c H1 locs1 (cells + mc) (slots + ms) Q (F0 m pc ls rest) q9)
    (kk : ∀ (u : S) (t : State) (H1 : Heap) (locs1 : List Loc), t.heap = H1 → s.vm.Alike t.vm → post u → B u t → H.size ≤ H1.size → (∀ q : Nat, q < H.size → ¬ A1 q → H1[q]? = H[q]?) → va_S A0 H0 H1 locs1 → W p l e R s m args below meth c H1 locs1 (cells + mc) (slots + ms) Q (F0 m (pc + 3) ls (rest))) : W p l e R s m args below meth c H locs cells slots Q (F0 m pc ls st0) := by
  intro T hT X
  rcases hr T hT X with ⟨v, st₀, t, T', L, h0, X', hL, e1, e2, ⟨⟨u, hv, hp, hb⟩, hF⟩, st⟩ | ⟨q, st₀, t, T', L, E, ce, h0, X', hL, e1, e2, ⟨u, hp, hb, hF⟩, hce, hcv, hcl, st⟩
  · cases hv
    obtain ⟨k1, k2, k3⟩ := vx_keep h0 e1 hS hA hf hL hF
    obtain ⟨t2, a1, b1⟩ := kk u t T'.heap (locs ++ L) e1.symm (by rw [← e2]; exact X'.warmed.alike) hp hb k1 k2 k3 T' rfl X'
    exact ⟨t2, st t2 a1, b1⟩
  · obtain ⟨k1, k2, k3⟩ := vx_keep h0 e1 hS hAX hf hL hF
    obtain ⟨t2, a1, b1⟩ := kx E ce q u t T'.heap (locs ++ L) e1.symm (by rw [← e2]; exact X'.warmed.alike) hp hb k1 k2 k3 (by rw [e1]; exact hce) hcv hcl T' rfl X'
    exact ⟨t2, st.trans a1, b1⟩
/-- caught by the row x of this method's table; the rows ahead don't take it -/
theorem vx_catch {own name : String} {E : String} {ce : Cell} {q : Addr} (hown : s.vm.findClass own = some m.cls) (pre : List ExceptionTableEntry) (x : ExceptionTableEntry) (suf : List ExceptionTableEntry) (hsplit : c.exceptionTable.toList = pre ++ x :: suf)
    (hpass : ∀ z ∈ pre, covers z pc = false ∨ (z.catchType ≠ 0 ∧ ∃ nm : String, (Cond.classLink own z.catchType nm).before args s = true ∧ va_Nc E nm s)) (hx : covers x pc = true) (h0 : x.catchType ≠ 0)
    (hlink : (Cond.classLink own x.catchType name).before args s = true) (hcast : (Cond.castable E name).before args s = true) (hcell : H[q]? = some ce) (hv : ce.vm = .none) (hcl : s.vm.findClass E = some ce.cls)
    (kk : W p l e R s m args below meth c H locs cells slots Q (F0 m x.handlerPc ls [.ref q])) : vx_W p l e R s m args below meth c H locs cells slots Q (F0 m pc ls rest) q := by
  intro T hT X
  have hpl : e.platform.magicAccessors = ({} : Platform).magicAccessors := by rw [X.admits.platform]
  obtain ⟨c3, c4, hc3, hc4, hasg⟩ := Cond.castable_spec hcast
  cases Option.some.inj (hc3.symm.trans hcl)
  obtain ⟨c5, hc5, hcl5⟩ := Cond.classLink_spec hown hlink e.platform hpl
  cases Option.some.inj (hc4.symm.trans hc5)
  obtain ⟨vm', X', st⟩ := X.thenCaughtThrough q (g := F0 m pc ls rest) rfl (Steps.refl _) (by rw [hT]; exact hcell) (by rw [hv]; rfl) (by obtain ⟨k9, h9, -⟩ := Vm.findClass_spec hcl; exact ⟨k9, h9⟩) pre x suf hsplit
    (fun z hz => by
      rcases hpass z hz with h | ⟨hz0, nm, hl1, hn1⟩
      · exact Or.inl h
      · obtain ⟨c6, hc6, hcl6⟩ := Cond.classLink_spec hown hl1 e.platform hpl
        obtain ⟨a8, b8, h1, h2, h3⟩ := hn1
        cases Option.some.inj (h1.symm.trans hcl)
        cases Option.some.inj (h2.symm.trans hc6)
        exact Or.inr ⟨hz0, _, hcl6, h3⟩) hx (Or.inr ⟨h0, c4, hcl5, hasg⟩)
  obtain ⟨t, a1, b1⟩ := kk (T.setVm vm') hT X'
  exact ⟨t, st.trans a1, b1⟩
end Rows
section Ends
variable {p : Program} {l : Launch} {e : Env} {R : Room} {s : State} {m : MethodId} {args : Array Value} {below : List Frame} {meth : Method} {c : Code} {H : Heap} {locs : List Loc} {cells slots : Nat} {Q : State → Prop}
variable {mc ms : Nat} {free : Addr → Prop} {A0 A1 : Nat → Prop} {H0 : Heap} {a : Array Value} {ls : Array Slot} {st0 rest : List Value}
variable {Qc : Array Value → State → Outcome → State → Prop} {XC : String → State → State → Prop}
/-- what a body that may throw owes at its end -/
def vx_MQ (below : List Frame) (Qc : Array Value → State → Outcome → State → Prop) (XC : String → State → State → Prop) (a : Array Value) (s : State) (mc ms : Nat) (free : Addr → Prop) : State → Prop := fun t =>
  ∃ o, t.status = .running ∧ Ended t below o ∧ vx_Q Qc XC mc ms free a s o t
theorem vx_ret {g : JFrame} {mc ms : Nat} (k : W p l e R s m args below meth c H locs cells slots (MQ below Qc args s mc ms free) g) : W p l e R s m args below meth c H locs cells slots (vx_MQ below Qc XC args s mc ms free) g := by
  intro T hT X
  obtain ⟨t, a1, o, b1, b2, b3, b4⟩ := k T hT X
  exact ⟨t, a1, o, b1, b2, Or.inl ⟨b3, b4⟩⟩
/-- not caught here: it goes on to the caller -/
theorem vx_widen {g : JFrame} {q : Addr} {k n : Nat} (h1 : cells ≤ k) (h2 : slots ≤ n) (kk : vx_W p l e R s m args below meth c H locs k n Q g q) : vx_W p l e R s m args below meth c H locs cells slots Q g q := fun T hT X => kk T hT (stand_widen X h1 h2)
theorem vx_out {pc : Nat} {E : String} {ce : Cell} {q : Addr} {mc ms : Nat} (hout : ∀ x ∈ c.exceptionTable.toList, covers x pc = false) (hlocks : meth.locks = false) (hcell : H[q]? = some ce) (hv : ce.vm = .none) (hcl : s.vm.findClass E = some ce.cls)
    (hx : ∀ t : State, t.heap = H → s.vm.Alike t.vm → XC E s t) (hf : ∀ z ∈ locs, free z.base) (hc : cells ≤ mc) (hs : slots ≤ ms) :
    vx_W p l e R s m args below meth c H locs cells slots (vx_MQ below Qc XC args s mc ms free) (F0 m pc ls rest) q := by
  intro T hT X
  obtain ⟨st1, hrun, hend, hW, hsm⟩ := X.leaveThrown q (g := F0 m pc ls rest) rfl rfl rfl hout hlocks
  have hcell9 : (T.setFrames (.throwing q :: below)).heap[q]? = some ce := by
    show T.heap[q]? = some ce
    rw [hT]; exact hcell
  exact ⟨_, st1, .threw q, hrun, hend, Or.inr ⟨q, rfl, E, ce, locs, hx _ hT hW.alike, hcell9, hv, hcl, hW, hsm.mono hc hs, hf⟩⟩
theorem vx_frame {U : State} {k n : Nat} (h : s.sameButNew ({ U with vm := s.vm } : State) locs k n) : s.heap.size ≤ U.heap.size ∧ ∀ q : Nat, q < s.heap.size → (∀ z ∈ locs, z.base ≠ q) → U.heap[q]? = s.heap[q]? := by
  obtain ⟨-, h2, -, -, -, h6⟩ := h
  refine ⟨h2, fun q hq hz => ?_⟩
  obtain ⟨c9, e1, e2, e3, e4⟩ := h6 q _ (Array.getElem?_eq_getElem hq)
  have hs : c9.slots = (s.heap[q]).slots := Array.ext_getElem? fun i => e4 i fun hm => hz _ hm rfl
  have h9 : c9 = s.heap[q] := by
    rw [hs] at e2
    exact e2
  have e5 : U.heap[q]? = some c9 := e1
  rw [e5, h9, Array.getElem?_eq_getElem hq]
/-- the words of a throw but the four that speak of the heap -/
def vx_no (w : Cond) : Bool := decide (w ≠ .isRef (.static Bundle.tN "UNASSIGNED_STACK" Bundle.steD)) && decide (w ≠ .isRef (.static Bundle.tN "SUPPRESSED_SENTINEL" Bundle.listD)) && decide (w ≠ .laysStatic Bundle.tN "UNASSIGNED_STACK" Bundle.steD) && decide (w ≠ .laysStatic Bundle.tN "SUPPRESSED_SENTINEL" Bundle.listD)
def vx_at0 (own : String) (ic : Nat) (X : String) (names : List String) : List Cond := (Bundle.ownAtoms0 own ic X names).filter vx_no
def vx_atS (own : String) (ic : Nat) (X : String) (names : List String) : List Cond := (Bundle.ownAtoms own ic X names).filter vx_no
/-- a word that the tables alone decide, or a good one -/
def vx_ot (w : Cond) : Bool := w.onTables || goodWord w
theorem vx_ot_at {args a' : Array Value} {s U : State} {w : Cond} (hW : s.WarmedH U.vm) (hvm : s.vm = U.vm) (hg : vx_ot w = true) (h : w.before args s = true) : w.before a' U = true := by
  simp only [vx_ot, Bool.or_eq_true] at hg
  rcases hg with hg | hg
  · exact va_tabs hg hvm h
  · exact word_at hW (good_of_word hg) h
/-- a list's words: the good ones out of the method's own list, the others by premises of their own -/
theorem vx_hat {args : Array Value} {s : State} {L B : List Cond} (h1 : ∀ w ∈ L.filter goodWord, w.before args s = true) (h2 : ∀ w ∈ L.filter (fun w => !goodWord w), w ∈ B) (h3 : ∀ w ∈ B, w.before args s = true) : ∀ w ∈ L, w.before args s = true := by
  intro w hw
  by_cases g : goodWord w = true
  · exact h1 w (List.mem_filter.mpr ⟨hw, g⟩)
  · refine h3 w (h2 w (List.mem_filter.mpr ⟨hw, ?_⟩))
    show (!goodWord w) = true
    cases hgw : goodWord w
    · rfl
    · exact absurd hgw g
theorem vx_c {args : Array Value} {s : State} {w : Cond} {B : List Cond} (h : w.before args s = true) (t : ∀ w ∈ B, w.before args s = true) : ∀ w' ∈ w :: B, w'.before args s = true := fun w' h' => (List.mem_cons.mp h').elim (fun e => by rw [e]; exact h) (t w')
theorem vx_n {args : Array Value} {s : State} : ∀ w ∈ ([] : List Cond), w.before args s = true := fun _ h => nomatch h
theorem vx_own {args : Array Value} {s : State} {L : List Cond} (h1 : ∀ w ∈ L.filter vx_no, w.before args s = true)
    (hU : (Cond.isRef (.static Bundle.tN "UNASSIGNED_STACK" Bundle.steD)).before args s = true) (hN : (Cond.isRef (.static Bundle.tN "SUPPRESSED_SENTINEL" Bundle.listD)).before args s = true)
    (lU : (Cond.laysStatic Bundle.tN "UNASSIGNED_STACK" Bundle.steD).before args s = true) (lN : (Cond.laysStatic Bundle.tN "SUPPRESSED_SENTINEL" Bundle.listD).before args s = true) : ∀ w ∈ L, w.before args s = true := by
  intro w hw
  by_cases e1 : w = .isRef (.static Bundle.tN "UNASSIGNED_STACK" Bundle.steD)
  · rw [e1]; exact hU
  · by_cases e2 : w = .isRef (.static Bundle.tN "SUPPRESSED_SENTINEL" Bundle.listD)
    · rw [e2]; exact hN
    · by_cases e3 : w = .laysStatic Bundle.tN "UNASSIGNED_STACK" Bundle.steD
      · rw [e3]; exact lU
      · by_cases e4 : w = .laysStatic Bundle.tN "SUPPRESSED_SENTINEL" Bundle.listD
        · rw [e4]; exact lN
        · exact h1 w (List.mem_filter.mpr ⟨hw, by unfold vx_no; rw [decide_eq_true e1, decide_eq_true e2, decide_eq_true e3, decide_eq_true e4]; rfl⟩)
/-- where a static field lies, its class's statics cell in H -/
def vx_L (C n d : String) (A : Nat → Prop) (U : State) (H : Heap) : Prop := ∃ (c : ClassId) (k : Class) (i : Nat) (f : Field) (a : Nat) (cell : Cell), U.vm.findClass C = some c ∧ U.fieldFound? C n d = some (c, k, i, f) ∧ f.isStatic = true ∧ k.statics = some a ∧ H[a]? = some cell ∧ cell.vm.isStatics = true ∧ cell.cls = c ∧ f.slot < cell.slots.size ∧ k.staticTypes[f.slot]? = some f.type ∧ ¬ A a
theorem vx_L.moved {C n d : String} {A : Nat → Prop} {u U : State} {H : Heap} (hvm : u.vm.Alike U.vm) (h : vx_L C n d A u H) : vx_L C n d A U H := by
  obtain ⟨c, k, i, f, a, cell, h1, h2, h3, h4, h5, h6, h7, h8, h9, h10⟩ := h
  obtain ⟨k', hi', he⟩ := State.fieldFound?_setVm hvm h2
  exact ⟨c, k', i, f, a, cell, by rw [hvm.findClass]; exact h1, hi', h3, by rw [he]; exact h4, h5, h6, h7, h8, by rw [he]; exact h9, h10⟩
theorem vx_L.kept {C n d : String} {A : Nat → Prop} {U : State} {H H1 : Heap} (h : vx_L C n d A U H) (hq : ∀ a : Nat, a < H.size → ¬ A a → H1[a]? = H[a]?) : vx_L C n d A U H1 := by
  obtain ⟨c, k, i, f, a, cell, h1, h2, h3, h4, h5, h6, h7, h8, h9, h10⟩ := h
  exact ⟨c, k, i, f, a, cell, h1, h2, h3, h4, by rw [hq a (Array.getElem?_eq_some_iff.mp h5).1 h10]; exact h5, h6, h7, h8, h9, h10⟩
theorem vx_L.narrow {C n d : String} {A B : Nat → Prop} {U : State} {H : Heap} (h : vx_L C n d A U H) (hAB : ∀ q, B q → A q) : vx_L C n d B U H := by
  obtain ⟨c, k, i, f, a, cell, h1, h2, h3, h4, h5, h6, h7, h8, h9, h10⟩ := h
  exact ⟨c, k, i, f, a, cell, h1, h2, h3, h4, h5, h6, h7, h8, h9, fun z => h10 (hAB _ z)⟩
theorem vx_L.word {C n d : String} {A : Nat → Prop} {s : State} {args : Array Value} (h : vx_L C n d A s s.heap) : (Cond.laysStatic C n d).before args s = true := by
  obtain ⟨c, k, i, f, a, cell, h1, h2, h3, h4, h5, h6, h7, h8, h9, -⟩ := h
  show (Cond.laysStatic C n d).holds args s none s [] = true
  exact Cond.laysStatic_of h1 h2 h3 h4 h5 h6 h7 h8 h9
/-- .. and what it holds: null or some reference -/
def vx_Zq (C n d : String) (A : Nat → Prop) (U : State) (H : Heap) : Prop := va_Zq C n d A U H ∧ vx_L C n d A U H
theorem vx_Zq.moved {C n d : String} {A : Nat → Prop} {u U : State} {H : Heap} (hvm : u.vm.Alike U.vm) (h : vx_Zq C n d A u H) : vx_Zq C n d A U H := ⟨va_Zq.moved hvm h.1, vx_L.moved hvm h.2⟩
theorem vx_Zq.kept {C n d : String} {A : Nat → Prop} {U : State} {H H1 : Heap} (h : vx_Zq C n d A U H) (hq : ∀ a : Nat, a < H.size → ¬ A a → H1[a]? = H[a]?) : vx_Zq C n d A U H1 := ⟨va_Zq.kept h.1 hq, vx_L.kept h.2 hq⟩
theorem vx_Zq.narrow {C n d : String} {A B : Nat → Prop} {U : State} {H : Heap} (h : vx_Zq C n d A U H) (hAB : ∀ q, B q → A q) : vx_Zq C n d B U H := ⟨va_Zq.narrow h.1 hAB, vx_L.narrow h.2 hAB⟩
theorem vx_Zqof {args : Array Value} {s : State} {C n d : String} {A : Nat → Prop} (hl : (Cond.laysStatic C n d).before args s = true) (hini : (Cond.initialized C).before args s = true) (h : (Cond.isRef (.static C n d)).before args s = true) (hA : ∀ a : Nat, a < s.heap.size → ¬ A a) : vx_Zq C n d A s s.heap := by
  refine ⟨va_Zqof hl hini h hA, ?_⟩
  obtain ⟨c, k, i, f, a, cell, h1, h2, h3, h4, h5, h6, h7, h8, h9⟩ := Cond.laysStatic_spec hl
  exact ⟨c, k, i, f, a, cell, h1, h2, h3, h4, h5, h6, h7, h8, h9, hA a (Array.getElem?_eq_some_iff.mp h5).1⟩
theorem vx_isRef {C n d : String} {v : Value} {A : Nat → Prop} {s : State} {args : Array Value} (h : va_Z C n d v A s s.heap) (hv : v.isRef = true) : (Cond.isRef (.static C n d)).before args s = true := by
  obtain ⟨cf, kf, fi, f, a, cell, h1, h2, h3, h4, h5, h6, h7, -⟩ := h
  have he : (Term.static C n d).eval args s none [] s = some v := by
    simp [Term.eval, State.fieldNamed?, h1, h2, h4, h5, h6, h7]
  simp only [Cond.before, Cond.holds, Cond.value, he]
  cases v <;> simp_all [Value.isRef]
theorem vx_isRefq {C n d : String} {A : Nat → Prop} {s : State} {args : Array Value} (h : va_Zq C n d A s s.heap) : (Cond.isRef (.static C n d)).before args s = true := by
  rcases h with h | ⟨t, h⟩
  · exact vx_isRef h rfl
  · exact vx_isRef h rfl
/-- the same frame, seen from here: as if the method were called anew in this heap -/
theorem vx_rebase {T : State} (X : Stand p l e R s m args below meth c T locs cells slots) {R' : Room} (hf : R'.frames ≤ R.frames) (hl : R'.locals ≤ R.locals) (hc : cells + R'.cells ≤ R.cells) (hs : slots + R'.slots ≤ R.slots) :
    Stand p l e R' ((T.setVm s.vm).setFrames (.invoking m args :: below)) m args below meth c T [] 0 0 := by
  have htop : (T.setVm s.vm).topJava?.isSome := X.here.top
  have hF : ((T.setVm s.vm).setFrames (.invoking m args :: below)).frames = .invoking m args :: below := State.frames_setFrames _ (State.cur_lt_of_top htop)
  obtain ⟨g₀, hg0⟩ := Option.isSome_iff_exists.mp htop
  obtain ⟨r, hr⟩ := State.topJava?_eq_some.mp hg0
  have hl9 : e.platform.stackLimits (T.setVm s.vm).me = e.platform.stackLimits s.me := X.limits
  have hb9 : (T.setVm s.vm).me.stackBytes = s.me.stackBytes := X.bytes
  refine ⟨X.admits, X.cas, X.clock, hF, ?_, X.hears, X.method, X.code, X.here, X.tail, X.warmed, ?_, ?_, ?_⟩
  · have h := X.room
    have hU : ((T.setVm s.vm).setFrames (.invoking m args :: below)).localsInUse = s.localsInUse := by
      rw [State.localsInUse_invoking hF (meth := meth) (c := c) X.method X.code, State.localsInUse_invoking X.frames X.method X.code]
    simp only [State.hasRoom, Bool.and_eq_true, decide_eq_true_eq] at h ⊢
    obtain ⟨⟨⟨⟨h1, h2, h3, h4, h5, h6⟩, h7⟩, h8⟩, h9⟩ := h
    rw [X.frames, List.length_cons] at h2 h3
    have q1 := X.heapSize
    have q2 := X.used
    simp only [hF, hU, List.length_cons, State.stackLimits_setFrames, State.stackBytes_setFrames, hl9, hb9]
    refine ⟨⟨⟨⟨by omega, by omega, by omega, by omega, by omega, h6⟩, ?_⟩, ?_⟩, X.book⟩
    · show T.heap.size + R'.cells ≤ e.platform.maxCells
      omega
    · show T.slotsUsed + R'.slots ≤ e.platform.maxSlots
      omega
  · rw [State.stackLimits_setFrames]; rfl
  · rw [State.stackBytes_setFrames]; rfl
  · refine ⟨?_, Nat.le_refl _, Nat.le_refl _, ?_, ?_, fun a c9 h9 => ⟨c9, h9, rfl, rfl, fun _ _ => rfl⟩⟩
    · obtain ⟨t, ht, -⟩ := State.frames_cons hr
      show T.setVm s.vm = { ((T.setVm s.vm).setFrames (.invoking m args :: below)).setFrames (T.setVm s.vm).frames with heap := T.heap, slotsUsed := T.slotsUsed }
      rw [State.setFrames_setFrames, State.setFrames_self ht]
      rfl
    · show T.slotsUsed = T.slotsUsed + ((T.heap.toList.drop T.heap.size).map (·.slots.size)).sum
      rw [List.drop_eq_nil_of_le (Nat.le_of_eq Array.length_toList)]
      rfl
    · show ((T.heap.toList.drop T.heap.size).map (·.slots.size)).sum ≤ 0
      rw [List.drop_eq_nil_of_le (Nat.le_of_eq Array.length_toList)]
      exact Nat.le_refl _
/-- 'throw new E()': new; dup; invokespecial; athrow -/
theorem vx_throw0 {cc : ByteArray} {pc : Nat} (hexec : p.tables.exec = Jvm.exec) (hb : c.code = cc) (hl : l.stackTraces = false) {own cls : String} {names : List String} {ik ic mc ms : Nat} {A : Nat → Prop}
    (hown : s.vm.findClass own = some m.cls) (hcls : Bundle.fit cls = true) (hnames : ∀ n ∈ names, Bundle.fit n = true)
    (hk : (Cond.classLink own ik cls).before args s = true) (hini : (Cond.initialized cls).before args s = true) (hat : ∀ w ∈ vx_at0 own ic cls names, w.before args s = true)
    (hgood : ∀ w ∈ Cond.classLink own ik cls :: Cond.initialized cls :: vx_at0 own ic cls names, vx_ot w = true)
    (hU : vx_Zq Bundle.tN "UNASSIGNED_STACK" Bundle.steD A s s.heap) (hN : vx_Zq Bundle.tN "SUPPRESSED_SENTINEL" Bundle.listD A s s.heap) (hS : va_S A s.heap H locs) (hsize : ls.size = c.maxLocals)
    (d0 : decode cc pc = .ok (.new ik, 3)) (d3 : decode cc (pc + 3) = .ok (.dup, 1)) (d4 : decode cc (pc + 4) = .ok (.invokespecial ic, 3)) (d7 : decode cc (pc + 7) = .ok (.athrow, 1))
    (hout : ∀ x ∈ c.exceptionTable.toList, covers x (pc + 7) = false)
    (hRframes : names.length + 3 < R.frames) (hRlocals : (rest.map fun v => v.category).sum + (13 * (names.length + 1) + 42) ≤ R.locals) (hRcells : cells + 1 ≤ R.cells) (hRslots : slots + 6 ≤ R.slots) (hlocks : meth.locks = false)
    (hx : ∀ t : State, s.vm.Alike t.vm → H.size ≤ t.heap.size → (∀ q : Nat, q < H.size → t.heap[q]? = H[q]?) → XC cls s t)
    (hf : ∀ z ∈ locs, free z.base) (hc : cells + 1 ≤ mc) (hs : slots + 6 ≤ ms) :
    W p l e R s m args below meth c H locs cells slots (vx_MQ below Qc XC args s mc ms free) (F0 m pc ls rest) := by
  intro T hT X
  have htr : e.platform.stackTraces = false := (show e.platform.stackTraces = l.stackTraces by rw [X.admits.platform]).trans hl
  have Y := vx_rebase X (R' := { frames := R.frames, locals := R.locals, cells := 1, slots := 6 }) (Nat.le_refl _) (Nat.le_refl _) hRcells hRslots
  obtain ⟨s', hA⟩ : ∃ z, z = (T.setVm s.vm).setFrames (.invoking m args :: below) := ⟨_, rfl⟩
  rw [← hA] at Y
  have hvm : s'.vm = s.vm := by rw [hA]; rfl
  have hhp : s'.heap = H := by rw [hA]; exact hT
  have hW0 : s.WarmedH s'.vm := by rw [hvm]; exact State.WarmedH.refl s
  have hat' : ∀ w ∈ vx_at0 own ic cls names, w.before args s' = true := fun w hw => vx_ot_at hW0 hvm.symm (hgood w (List.mem_cons_of_mem _ (List.mem_cons_of_mem _ hw))) (hat w hw)
  have hk' : (Cond.classLink own ik cls).before args s' = true := vx_ot_at hW0 hvm.symm (hgood _ List.mem_cons_self) hk
  have hini' : (Cond.initialized cls).before args s' = true := vx_ot_at hW0 hvm.symm (hgood _ (List.mem_cons_of_mem _ List.mem_cons_self)) hini
  have hU' : vx_Zq Bundle.tN "UNASSIGNED_STACK" Bundle.steD A s' s'.heap := by rw [hhp]; exact vx_Zq.moved hW0.alike (hU.kept hS.2.1)
  have hN' : vx_Zq Bundle.tN "SUPPRESSED_SENTINEL" Bundle.listD A s' s'.heap := by rw [hhp]; exact vx_Zq.moved hW0.alike (hN.kept hS.2.1)
  have h : ∀ w ∈ Bundle.ownAtoms0 own ic cls names, w.before args s' = true := vx_own hat' (vx_isRefq hU'.1) (vx_isRefq hN'.1) hU'.2.word hN'.2.word
  have hown' : s'.vm.findClass own = some m.cls := by rw [hvm]; exact hown
  have hins : (Cond.instantiable cls 6).before args s' = true := h _ (by simp [Bundle.ownAtoms0])
  obtain ⟨vm₁, cX, kX, hfX, hkX, -, -, X₁, st1⟩ := Y.newCold hexec (own := own) (C := cls) (index := ik) (n := 6) hown' hk' hins hini'
    (g := F0 m pc ls rest) rfl (by rw [hb]; exact d0) (Nat.le_refl _) (Nat.le_refl _)
  generalize hT1 : (T.setVm vm₁).pushCell { cls := cX, slots := kX.instanceTypes.map defaultValue, vm := .none } = T1 at X₁ st1
  have hcat : (Value.ref T.heap.size).category = 1 := rfl
  have hcellA : T1.heap[T.heap.size]? = some (freshCell cX kX) := by rw [← hT1]; exact State.heap_pushCell_size _ _
  have d3' : decode c.code (pc + 3) = .ok (.dup, 1) := by rw [hb]; exact d3
  obtain ⟨U, hsteps, hrun, hend, hW, hsame, ce, hce, hO⟩ := X₁.ctorThrow0 hexec htr (own := own) (cls := cls) (names := names) (ic := ic) hown' hcls hnames h (fun x hx => nomatch hx) hfX hkX hcellA (by rw [hhp, hT]; exact Nat.le_refl _)
    (g := { method := m, pc := pc + 4, locals := ls, stack := .ref T.heap.size :: .ref T.heap.size :: rest, locked := none }) rfl hsize rfl rfl (rest := rest) rfl
    (by rw [hb]; exact d4) (by rw [hb]; exact d7) hout hRframes (by simp only [List.map_cons, List.sum_cons, hcat]; omega) hlocks
  obtain ⟨f1, f2⟩ := vx_frame hsame
  rw [hhp] at f1 f2
  have hWs : s.WarmedH U.vm := State.WarmedH.trans hW0 hW
  have hcl : s.vm.findClass cls = some ce.cls := by
    have h9 := hO.cls
    rw [hvm] at h9
    exact h9
  have hall : s.sameButNew ({ U with vm := s.vm } : State) locs mc ms := by
    subst hA
    obtain ⟨e1, e2⟩ := hsame
    rw [State.setFrames_setFrames] at e1
    have h2 : (T.setVm s.vm).sameButNew ({ U with vm := s.vm } : State) [] (0 + 1) (0 + 6) := ⟨e1, e2⟩
    have h3 := X.same.trans h2
    rw [List.append_nil] at h3
    exact h3.mono hc hs
  refine ⟨U, ?_, .threw T.heap.size, hrun, hend, Or.inr ⟨T.heap.size, rfl, cls, ce, locs, hx U hWs.alike f1 (fun q hq => f2 q hq (fun z hz => nomatch hz)), hce, hO.vm, hcl, hWs, hall, hf⟩⟩
  refine st1 _ ?_
  show Steps p.tables e below (T1.setTop { method := m, pc := pc + 3, locals := ls, stack := .ref T.heap.size :: rest, locked := none }) _
  jvm_step X₁.here [X₁.here.top, hexec, d3', Value.category]
  exact hsteps
/-- 'throw new E("text")': new; dup; ldc; invokespecial; athrow -/
theorem vx_throwS {cc : ByteArray} {pc : Nat} (hexec : p.tables.exec = Jvm.exec) (hb : c.code = cc) (hl : l.stackTraces = false) {own cls text : String} {names : List String} {ik is ic mc ms sa : Nat} {A : Nat → Prop}
    (hown : s.vm.findClass own = some m.cls) (hcls : Bundle.fit cls = true) (hnames : ∀ n ∈ names, Bundle.fit n = true)
    (hk : (Cond.classLink own ik cls).before args s = true) (hini : (Cond.initialized cls).before args s = true) (hstr : vk_R own is text sa s) (hat : ∀ w ∈ vx_atS own ic cls names, w.before args s = true)
    (hgood : ∀ w ∈ Cond.classLink own ik cls :: Cond.initialized cls :: vx_atS own ic cls names, vx_ot w = true)
    (hU : vx_Zq Bundle.tN "UNASSIGNED_STACK" Bundle.steD A s s.heap) (hN : vx_Zq Bundle.tN "SUPPRESSED_SENTINEL" Bundle.listD A s s.heap) (hS : va_S A s.heap H locs) (hsize : ls.size = c.maxLocals)
    (d0 : decode cc pc = .ok (.new ik, 3)) (d3 : decode cc (pc + 3) = .ok (.dup, 1)) (d4 : decode cc (pc + 4) = .ok (.ldc is, 2)) (d6 : decode cc (pc + 6) = .ok (.invokespecial ic, 3)) (d9 : decode cc (pc + 9) = .ok (.athrow, 1))
    (hout : ∀ x ∈ c.exceptionTable.toList, covers x (pc + 9) = false)
    (hRframes : names.length + 3 < R.frames) (hRlocals : (rest.map fun v => v.category).sum + (13 * (names.length + 1) + 43) ≤ R.locals) (hRcells : cells + 1 ≤ R.cells) (hRslots : slots + 6 ≤ R.slots) (hlocks : meth.locks = false)
    (hx : ∀ t : State, s.vm.Alike t.vm → H.size ≤ t.heap.size → (∀ q : Nat, q < H.size → t.heap[q]? = H[q]?) → XC cls s t)
    (hf : ∀ z ∈ locs, free z.base) (hc : cells + 1 ≤ mc) (hs : slots + 6 ≤ ms) :
    W p l e R s m args below meth c H locs cells slots (vx_MQ below Qc XC args s mc ms free) (F0 m pc ls rest) := by
  intro T hT X
  have htr : e.platform.stackTraces = false := (show e.platform.stackTraces = l.stackTraces by rw [X.admits.platform]).trans hl
  have Y := vx_rebase X (R' := { frames := R.frames, locals := R.locals, cells := 1, slots := 6 }) (Nat.le_refl _) (Nat.le_refl _) hRcells hRslots
  obtain ⟨s', hA⟩ : ∃ z, z = (T.setVm s.vm).setFrames (.invoking m args :: below) := ⟨_, rfl⟩
  rw [← hA] at Y
  have hvm : s'.vm = s.vm := by rw [hA]; rfl
  have hhp : s'.heap = H := by rw [hA]; exact hT
  have hW0 : s.WarmedH s'.vm := by rw [hvm]; exact State.WarmedH.refl s
  have hat' : ∀ w ∈ vx_atS own ic cls names, w.before args s' = true := fun w hw => vx_ot_at hW0 hvm.symm (hgood w (List.mem_cons_of_mem _ (List.mem_cons_of_mem _ hw))) (hat w hw)
  have hk' : (Cond.classLink own ik cls).before args s' = true := vx_ot_at hW0 hvm.symm (hgood _ List.mem_cons_self) hk
  have hini' : (Cond.initialized cls).before args s' = true := vx_ot_at hW0 hvm.symm (hgood _ (List.mem_cons_of_mem _ List.mem_cons_self)) hini
  have hU' : vx_Zq Bundle.tN "UNASSIGNED_STACK" Bundle.steD A s' s'.heap := by rw [hhp]; exact vx_Zq.moved hW0.alike (hU.kept hS.2.1)
  have hN' : vx_Zq Bundle.tN "SUPPRESSED_SENTINEL" Bundle.listD A s' s'.heap := by rw [hhp]; exact vx_Zq.moved hW0.alike (hN.kept hS.2.1)
  have h : ∀ w ∈ Bundle.ownAtoms own ic cls names, w.before args s' = true := vx_own hat' (vx_isRefq hU'.1) (vx_isRefq hN'.1) hU'.2.word hN'.2.word
  have hown' : s'.vm.findClass own = some m.cls := by rw [hvm]; exact hown
  have hins : (Cond.instantiable cls 6).before args s' = true := h _ (by simp [Bundle.ownAtoms])
  obtain ⟨vm₁, cX, kX, hfX, hkX, -, -, X₁, st1⟩ := Y.newCold hexec (own := own) (C := cls) (index := ik) (n := 6) hown' hk' hins hini'
    (g := F0 m pc ls rest) rfl (by rw [hb]; exact d0) (Nat.le_refl _) (Nat.le_refl _)
  generalize hT1 : (T.setVm vm₁).pushCell { cls := cX, slots := kX.instanceTypes.map defaultValue, vm := .none } = T1 at X₁ st1
  have hcat : (Value.ref T.heap.size).category = 1 := rfl
  have hcellA : T1.heap[T.heap.size]? = some (freshCell cX kX) := by rw [← hT1]; exact State.heap_pushCell_size _ _
  have d3' : decode c.code (pc + 3) = .ok (.dup, 1) := by rw [hb]; exact d3
  have d4' : decode c.code (pc + 4) = .ok (.ldc is, 2) := by rw [hb]; exact d4
  have hstr' : vk_R own is text sa s' := vk_R.warm hW0 hstr
  obtain ⟨U, hsteps, hrun, hend, hW, hsame, ce, hce, hO⟩ := X₁.ctorThrowS hexec htr (own := own) (cls := cls) (names := names) (ic := ic) hown' hcls hnames h (fun x hx => nomatch hx) hfX hkX hcellA (by rw [hhp, hT]; exact Nat.le_refl _) (msg := .ref sa) rfl
    (g := { method := m, pc := pc + 6, locals := ls, stack := .ref sa :: .ref T.heap.size :: .ref T.heap.size :: rest, locked := none }) rfl hsize rfl rfl (rest := rest) rfl
    (by rw [hb]; exact d6) (by rw [hb]; exact d9) hout hRframes (by simp only [List.map_cons, List.sum_cons, hcat]; omega) hlocks
  obtain ⟨f1, f2⟩ := vx_frame hsame
  rw [hhp] at f1 f2
  have hWs : s.WarmedH U.vm := State.WarmedH.trans hW0 hW
  have hcl : s.vm.findClass cls = some ce.cls := by
    have h9 := hO.cls
    rw [hvm] at h9
    exact h9
  have hall : s.sameButNew ({ U with vm := s.vm } : State) locs mc ms := by
    subst hA
    obtain ⟨e1, e2⟩ := hsame
    rw [State.setFrames_setFrames] at e1
    have h2 : (T.setVm s.vm).sameButNew ({ U with vm := s.vm } : State) [] (0 + 1) (0 + 6) := ⟨e1, e2⟩
    have h3 := X.same.trans h2
    rw [List.append_nil] at h3
    exact h3.mono hc hs
  refine ⟨U, ?_, .threw T.heap.size, hrun, hend, Or.inr ⟨T.heap.size, rfl, cls, ce, locs, hx U hWs.alike f1 (fun q hq => f2 q hq (fun z hz => nomatch hz)), hce, hO.vm, hcl, hWs, hall, hf⟩⟩
  refine st1 _ ?_
  show Steps p.tables e below (T1.setTop { method := m, pc := pc + 3, locals := ls, stack := .ref T.heap.size :: rest, locked := none }) _
  jvm_step X₁.here [X₁.here.top, hexec, d3', Value.category]
  exact X₁.ldcString hexec (own := own) (text := text) (index := is) (a := sa) hown' hstr'.1 hstr'.2
    (g := { method := m, pc := pc + 4, locals := ls, stack := .ref T.heap.size :: .ref T.heap.size :: rest, locked := none }) rfl d4' _ hsteps
/-- 'throw new E("text")', the text by a wide index -/
theorem vx_throwSW {cc : ByteArray} {pc : Nat} (hexec : p.tables.exec = Jvm.exec) (hb : c.code = cc) (hl : l.stackTraces = false) {own cls text : String} {names : List String} {ik is ic mc ms sa : Nat} {A : Nat → Prop}
    (hown : s.vm.findClass own = some m.cls) (hcls : Bundle.fit cls = true) (hnames : ∀ n ∈ names, Bundle.fit n = true)
    (hk : (Cond.classLink own ik cls).before args s = true) (hini : (Cond.initialized cls).before args s = true) (hstr : vk_R own is text sa s) (hat : ∀ w ∈ vx_atS own ic cls names, w.before args s = true)
    (hgood : ∀ w ∈ Cond.classLink own ik cls :: Cond.initialized cls :: vx_atS own ic cls names, vx_ot w = true)
    (hU : vx_Zq Bundle.tN "UNASSIGNED_STACK" Bundle.steD A s s.heap) (hN : vx_Zq Bundle.tN "SUPPRESSED_SENTINEL" Bundle.listD A s s.heap) (hS : va_S A s.heap H locs) (hsize : ls.size = c.maxLocals)
    (d0 : decode cc pc = .ok (.new ik, 3)) (d3 : decode cc (pc + 3) = .ok (.dup, 1)) (d4 : decode cc (pc + 4) = .ok (.ldc_w is, 3)) (d7 : decode cc (pc + 7) = .ok (.invokespecial ic, 3)) (d10 : decode cc (pc + 10) = .ok (.athrow, 1))
    (hout : ∀ x ∈ c.exceptionTable.toList, covers x (pc + 10) = false)
    (hRframes : names.length + 3 < R.frames) (hRlocals : (rest.map fun v => v.category).sum + (13 * (names.length + 1) + 43) ≤ R.locals) (hRcells : cells + 1 ≤ R.cells) (hRslots : slots + 6 ≤ R.slots) (hlocks : meth.locks = false)
    (hx : ∀ t : State, s.vm.Alike t.vm → H.size ≤ t.heap.size → (∀ q : Nat, q < H.size → t.heap[q]? = H[q]?) → XC cls s t)
    (hf : ∀ z ∈ locs, free z.base) (hc : cells + 1 ≤ mc) (hs : slots + 6 ≤ ms) :
    W p l e R s m args below meth c H locs cells slots (vx_MQ below Qc XC args s mc ms free) (F0 m pc ls rest) := by
  intro T hT X
  have htr : e.platform.stackTraces = false := (show e.platform.stackTraces = l.stackTraces by rw [X.admits.platform]).trans hl
  have Y := vx_rebase X (R' := { frames := R.frames, locals := R.locals, cells := 1, slots := 6 }) (Nat.le_refl _) (Nat.le_refl _) hRcells hRslots
  obtain ⟨s', hA⟩ : ∃ z, z = (T.setVm s.vm).setFrames (.invoking m args :: below) := ⟨_, rfl⟩
  rw [← hA] at Y
  have hvm : s'.vm = s.vm := by rw [hA]; rfl
  have hhp : s'.heap = H := by rw [hA]; exact hT
  have hW0 : s.WarmedH s'.vm := by rw [hvm]; exact State.WarmedH.refl s
  have hat' : ∀ w ∈ vx_atS own ic cls names, w.before args s' = true := fun w hw => vx_ot_at hW0 hvm.symm (hgood w (List.mem_cons_of_mem _ (List.mem_cons_of_mem _ hw))) (hat w hw)
  have hk' : (Cond.classLink own ik cls).before args s' = true := vx_ot_at hW0 hvm.symm (hgood _ List.mem_cons_self) hk
  have hini' : (Cond.initialized cls).before args s' = true := vx_ot_at hW0 hvm.symm (hgood _ (List.mem_cons_of_mem _ List.mem_cons_self)) hini
  have hU' : vx_Zq Bundle.tN "UNASSIGNED_STACK" Bundle.steD A s' s'.heap := by rw [hhp]; exact vx_Zq.moved hW0.alike (hU.kept hS.2.1)
  have hN' : vx_Zq Bundle.tN "SUPPRESSED_SENTINEL" Bundle.listD A s' s'.heap := by rw [hhp]; exact vx_Zq.moved hW0.alike (hN.kept hS.2.1)
  have h : ∀ w ∈ Bundle.ownAtoms own ic cls names, w.before args s' = true := vx_own hat' (vx_isRefq hU'.1) (vx_isRefq hN'.1) hU'.2.word hN'.2.word
  have hown' : s'.vm.findClass own = some m.cls := by rw [hvm]; exact hown
  have hins : (Cond.instantiable cls 6).before args s' = true := h _ (by simp [Bundle.ownAtoms])
  obtain ⟨vm₁, cX, kX, hfX, hkX, -, -, X₁, st1⟩ := Y.newCold hexec (own := own) (C := cls) (index := ik) (n := 6) hown' hk' hins hini'
    (g := F0 m pc ls rest) rfl (by rw [hb]; exact d0) (Nat.le_refl _) (Nat.le_refl _)
  generalize hT1 : (T.setVm vm₁).pushCell { cls := cX, slots := kX.instanceTypes.map defaultValue, vm := .none } = T1 at X₁ st1
  have hcat : (Value.ref T.heap.size).category = 1 := rfl
  have hcellA : T1.heap[T.heap.size]? = some (freshCell cX kX) := by rw [← hT1]; exact State.heap_pushCell_size _ _
  have d3' : decode c.code (pc + 3) = .ok (.dup, 1) := by rw [hb]; exact d3
  have d4' : decode c.code (pc + 4) = .ok (.ldc_w is, 3) := by rw [hb]; exact d4
  have hstr' : vk_R own is text sa s' := vk_R.warm hW0 hstr
  obtain ⟨U, hsteps, hrun, hend, hW, hsame, ce, hce, hO⟩ := X₁.ctorThrowS hexec htr (own := own) (cls := cls) (names := names) (ic := ic) hown' hcls hnames h (fun x hx => nomatch hx) hfX hkX hcellA (by rw [hhp, hT]; exact Nat.le_refl _) (msg := .ref sa) rfl
    (g := { method := m, pc := pc + 7, locals := ls, stack := .ref sa :: .ref T.heap.size :: .ref T.heap.size :: rest, locked := none }) rfl hsize rfl rfl (rest := rest) rfl
    (by rw [hb]; exact d7) (by rw [hb]; exact d10) hout hRframes (by simp only [List.map_cons, List.sum_cons, hcat]; omega) hlocks
  obtain ⟨f1, f2⟩ := vx_frame hsame
  rw [hhp] at f1 f2
  have hWs : s.WarmedH U.vm := State.WarmedH.trans hW0 hW
  have hcl : s.vm.findClass cls = some ce.cls := by
    have h9 := hO.cls
    rw [hvm] at h9
    exact h9
  have hall : s.sameButNew ({ U with vm := s.vm } : State) locs mc ms := by
    subst hA
    obtain ⟨e1, e2⟩ := hsame
    rw [State.setFrames_setFrames] at e1
    have h2 : (T.setVm s.vm).sameButNew ({ U with vm := s.vm } : State) [] (0 + 1) (0 + 6) := ⟨e1, e2⟩
    have h3 := X.same.trans h2
    rw [List.append_nil] at h3
    exact h3.mono hc hs
  refine ⟨U, ?_, .threw T.heap.size, hrun, hend, Or.inr ⟨T.heap.size, rfl, cls, ce, locs, hx U hWs.alike f1 (fun q hq => f2 q hq (fun z hz => nomatch hz)), hce, hO.vm, hcl, hWs, hall, hf⟩⟩
  refine st1 _ ?_
  show Steps p.tables e below (T1.setTop { method := m, pc := pc + 3, locals := ls, stack := .ref T.heap.size :: rest, locked := none }) _
  jvm_step X₁.here [X₁.here.top, hexec, d3', Value.category]
  exact X₁.ldcStringW hexec (own := own) (text := text) (index := is) (a := sa) hown' hstr'.1 hstr'.2
    (g := { method := m, pc := pc + 4, locals := ls, stack := .ref T.heap.size :: .ref T.heap.size :: rest, locked := none }) rfl d4' _ hsteps
end Ends
section Bodies
variable {l : Launch}
theorem vx_ofW {y : MethodName} {ws ws' : List Cond} {rm : Room} {Pc : Array Value → State → Prop} {Qc : Array Value → State → Outcome → State → Prop} {XC : String → State → State → Prop} {mc ms : Nat} {free : Addr → Prop} {cc : ByteArray} {maxL : Nat} {ret : Option FieldType}
    (hy : plainName y.cls = true) (hw : ws = Cond.code y cc maxL ret :: ws')
    (body : ∀ p e s m args below meth c s₁, BodyLoose p l y (headSpec ws rm) cc maxL ret e s m args below meth c s₁ → c.maxLocals = maxL → (∀ x ∈ c.exceptionTable.toList, False) → Pc args s →
      W p l e (headSpec ws rm).room s m args below meth c s.heap [] 0 0 (vx_MQ below Qc XC args s mc ms free) (entryFrame m args maxL)) : vx_Met l y ws rm Pc Qc XC mc ms free := by
  refine MetFree.of_bodyS (code := cc) (maxLocals := maxL) (ret := ret) hy ?_ ?_
  · intro args s m h hn
    obtain ⟨meth, c, h1, h2, h3, h4, h5, h6, -, -⟩ := Cond.code_spec hn (atoms_spec (ws := ws) h _ (by rw [hw]; exact List.mem_cons_self))
    exact ⟨meth, c, h1, h2, h3, h4, h5, h6⟩
  · intro p e s m args below meth c s₁ B hml hP _
    have hh0 : s₁.heap = s.heap := by rw [B.state]; rfl
    have ht : ∀ x ∈ c.exceptionTable.toList, False := by
      obtain ⟨meth9, c9, h1, h2, -, -, -, -, h7, -⟩ := Cond.code_spec B.named (atoms_spec (ws := ws) B.pre _ (by rw [hw]; exact List.mem_cons_self))
      cases Option.some.inj (h1.symm.trans B.method)
      cases Option.some.inj (h2.symm.trans (Stand.of_body B).code)
      intro x hx
      rw [Array.isEmpty_iff.mp h7] at hx
      cases hx
    obtain ⟨t, a1, o, b1, b2, b3⟩ := body p e s m args below meth c s₁ B hml ht hP s₁ hh0 (Stand.of_body B)
    exact ⟨t, o, a1, b1, b2, b3⟩
/-- the table of a body with handlers -/
theorem vx_table {p : Program} {x y : MethodName} {S : Spec} {cc bytes : ByteArray} {maxL maxL' : Nat} {ret ret' : Option FieldType} {e : Env} {s s₁ : State} {m : MethodId} {args : Array Value} {below : List Frame} {meth : Method} {c : Code} {hh : List (Nat × Nat × Nat × Nat)}
    (B : BodyLoose p l y S cc maxL ret e s m args below meth c s₁) (h : (Cond.codeWith y bytes maxL' ret' hh).before args s = true) : c.exceptionTable.toList = tableOf hh := by
  obtain ⟨m9, meth9, c9, hn9, h1, h2, -, -, h6, -⟩ := Cond.codeWith_spec h
  cases Option.some.inj (hn9.symm.trans B.named)
  cases Option.some.inj (h1.symm.trans B.method)
  cases Option.some.inj (h2.symm.trans (Stand.of_body B).code)
  rw [← h6, table_eq]
end Bodies
end VXA
/-! ===== END ===== -/
/-! ===== BEGIN a static call of a method with an exception table ===== -/
section VXS
variable {p : Program} {l : Launch} {e : Env} {R : Room} {s : State} {m : MethodId} {args : Array Value} {below : List Frame} {meth : Method} {c : Code} {T : State} {H : Heap} {locs : List Loc} {cells slots : Nat}
abbrev vx_CSW (R : Room) (s : State) (args : Array Value) (own : String) (index : Nat) (y : MethodName) (bytes : ByteArray) (maxL : Nat) (ret : Option FieldType) (hh : List (Nat × Nat × Nat × Nat)) (ws : List Cond) (rm : Room) (mc ms n : Nat) : Prop :=
  (rm.cells = mc ∧ rm.slots = ms ∧ rm.frames + 1 ≤ R.frames ∧ 8 + (maxL + 11) + rm.locals ≤ R.locals ∧ (∀ w ∈ ws, ∀ (a' : Array Value) (U : State), s.WarmedH U.vm → w.before a' U = true) ∧ Cond.codeWith y bytes maxL ret hh ∈ ws) ∧
  (Cond.codeWith y bytes maxL ret hh).before args s = true ∧ (Cond.initialized y.cls).before args s = true ∧ (y.cls ≠ "java/lang/invoke/MethodHandle" ∧ y.cls ≠ "java/lang/invoke/VarHandle") ∧
  (∀ sig, parseMethodDescriptor y.desc = some sig → n = sig.parameters.length) ∧ (Cond.methodLink own index y).before args s = true ∧ (Cond.static y).before args s = true
theorem vx_cwSW {own : String} {index maxL mc ms : Nat} {y : MethodName} {bytes : ByteArray} {ret : Option FieldType} {hh : List (Nat × Nat × Nat × Nat)} {Ts ws ws' : List Cond} {rm : Room} (n : Nat) (ht : ∀ w ∈ Ts, w.before args s = true) (hT : GoodIn Ts (va_wsS own index y ws)) (hw : ws = Cond.codeWith y bytes maxL ret hh :: ws') (hrc : rm.cells = mc) (hrs : rm.slots = ms)
    (hd : y.cls ≠ "java/lang/invoke/MethodHandle" ∧ y.cls ≠ "java/lang/invoke/VarHandle" ∧ (parseMethodDescriptor y.desc).map (fun d => d.parameters.length) = some n) (hR : rm.frames + 1 ≤ R.frames ∧ 8 + (maxL + 11) + rm.locals ≤ R.locals) :
    vx_CSW R s args own index y bytes maxL ret hh ws rm mc ms n := by
  have ok : ∀ w ∈ va_wsS own index y ws, w.before args s = true := fun w h => ht w (hT w h).1
  have hG : GoodIn Ts ws := fun w h => hT w (by unfold va_wsS; exact List.mem_append_right _ h)
  have hc : Cond.codeWith y bytes maxL ret hh ∈ ws := by rw [hw]; exact List.mem_cons_self
  refine ⟨⟨hrc, hrs, hR.1, hR.2, pay_in ht hG, hc⟩, ht _ (hG _ hc).1, ok _ (by simp [va_wsS]), ⟨hd.1, hd.2.1⟩, fun sig h => ?_, ok _ (by simp [va_wsS]), ok _ (by simp [va_wsS])⟩
  have h2 := hd.2.2
  rw [h] at h2
  exact (Option.some.inj h2).symm
theorem vx_callSW (X : Stand p l e R s m args below meth c T locs cells slots) (hexec : p.tables.exec = Jvm.exec) {own : String} {index : Nat} {y : MethodName} {bytes : ByteArray} {maxL : Nat} {ret : Option FieldType} {hh : List (Nat × Nat × Nat × Nat)}
    (hown : s.vm.findClass own = some m.cls) (hlink : (Cond.methodLink own index y).before args s = true) (hstat : (Cond.static y).before args s = true) (hinit : (Cond.initialized y.cls).before args s = true)
    (hcode : (Cond.codeWith y bytes maxL ret hh).before args s = true) (hy : y.cls ≠ "java/lang/invoke/MethodHandle" ∧ y.cls ≠ "java/lang/invoke/VarHandle")
    {W9 : Nat} {Pre : Pt → Array Value → Prop} {Post : Pt → Array Value → Option Value → Pt → Prop} (hK : Back l R p e below s args y 3 W9 Pre Post)
    {g : JFrame} (hg : g.method = m) (hsize : g.locals.size = c.maxLocals) {argsL rest : List Value} (hlen : ∀ sig, parseMethodDescriptor y.desc = some sig → argsL.length = sig.parameters.length)
    (hstack : g.stack = argsL.reverse ++ rest) (hW : 2 * g.monitorRoom + (rest.map fun v => v.category).sum ≤ W9) (hdg : decode c.code g.pc = .ok (.invokestatic index, 3))
    (hpre : ∀ vm₁, s.WarmedH vm₁ → Pre ⟨T.setVm vm₁, locs, cells, slots⟩ argsL.toArray) :
    ∃ (v : Option Value) (vm₁ : Vm) (B : Pt), s.WarmedH vm₁ ∧ Stand p l e R s m args below meth c B.U B.locs B.cells B.slots ∧ Post ⟨T.setVm vm₁, locs, cells, slots⟩ argsL.toArray v B ∧
      ∀ target, Steps p.tables e below (B.U.setTop { g with pc := g.pc + 3, stack := v.toList ++ rest }) target → Steps p.tables e below (T.setTop g) target := by
  obtain ⟨mk, methM, cM, hnamed, hmethM, -, -, -, -, -, -, hsigM⟩ := Cond.codeWith_spec hcode
  have hstatic : methM.isStatic = true := Cond.static_spec hnamed hmethM hstat
  obtain ⟨kP, hkP, -⟩ := className_of_methodNamed hnamed
  have hinitP : kP.init = .initialized := Cond.initialized_spec (findClass_of_methodNamed hnamed) hkP hinit
  obtain ⟨vm₁, X₁, hstep₁⟩ := X.invokestatic hexec hown hlink hnamed hmethM hstatic hkP hinitP hy (g := g) hg (argsL := argsL) (rest := rest) (hlen _ hsigM) hstack hdg
  obtain ⟨v, B, X', hpost, hsteps⟩ := hK m meth c ⟨T.setVm vm₁, locs, cells, slots⟩ { g with stack := rest } (.invokestatic index) mk argsL.toArray X₁ hg hsize hdg hW (X₁.named hnamed) (hpre vm₁ X₁.warmed)
  exact ⟨v, vm₁, B, X₁.warmed, X', hpost, fun target h => hstep₁ _ fun acts => by rw [doInvoke_state]; exact hsteps.trans h⟩
theorem vx_runSW {y : MethodName} {bytes cc : ByteArray} {maxL nL mc ms n index : Nat} {ret : Option FieldType} {hh : List (Nat × Nat × Nat × Nat)} {ws : List Cond} {rm : Room} {Pc : Array Value → State → Prop} {Qc : Array Value → State → Outcome → State → Prop} {free : Addr → Prop} {Ts : List Cond} {own : String} {As rest : List Value} {g : JFrame}
    (S : CallFix p m c cc nL s args Ts own) (hM : Met l y ws rm Pc Qc mc ms free) (cw : vx_CSW R s args own index y bytes maxL ret hh ws rm mc ms n) (hp : PreS s H Pc As)
    (hg : g.method = m) (hn : As.length = n) (hsize : g.locals.size = nL) (hstack : g.stack = As.reverse ++ rest) (hW : 2 * g.monitorRoom + (rest.map fun v => v.category).sum ≤ 8) (hdg : decode cc g.pc = .ok (.invokestatic index, 3)) (hf : cells + mc ≤ R.cells ∧ slots + ms ≤ R.slots) :
    va_Run p l e R s m args below meth c H locs cells slots mc ms g rest (Qc As.toArray) (free) := by
  obtain ⟨⟨hrc, hrs, hfr, hlo, hws, hcw⟩, hcode, hini, hy, hlen, hl, hstt⟩ := cw
  have hK : Back l R p e below s args y 3 8 (PreOf R mc ms Pc) (PostOf Qc mc ms free) := va_backW (hh := hh) (bytes := bytes) (maxL := maxL) (ret := ret) hM hp.1 hrc hrs hfr hlo hws hcw (fun a' U hW => word_at hW (Or.inl (by first | rfl | simp [Cond.onTables, Cond.keeps, Cond.steady])) hini)
  obtain ⟨hx, hb, hml, ho, -⟩ := S
  intro T hT X
  obtain ⟨v, vm₁, ⟨U', l2, c2, s2⟩, hW₁, X', ⟨g', mk, t, L, e1, e2, hq, h1, hL, h2, h3⟩, st⟩ := vx_callSW X hx (hh := hh) (bytes := bytes) (maxL := maxL) (ret := ret) ho hl hstt hini hcode hy hK hg (hsize.trans hml.symm) (argsL := As) (rest := rest) (fun sig h => hn.trans (hlen sig h)) hstack hW (by rw [hb]; exact hdg)
    (fun vm₁ hW₁ => ⟨hf.1, hf.2, hp.2 (T.setVm vm₁) hT hW₁⟩)
  dsimp only [Pt.U, Pt.locs, Pt.cells, Pt.slots] at X' e1 e2 h1 h2 h3 st
  subst h1; subst h2; subst h3
  exact ⟨v, (T.setVm vm₁).calling g' mk As.toArray, t, U', L, hT, X', hL, e1, e2, hq, st⟩
/-- not caught here, past rows that name other classes: it goes on to the caller -/
theorem vx_outP {p : Program} {l : Launch} {e : Env} {R : Room} {s : State} {m : MethodId} {args : Array Value} {below : List Frame} {meth : Method} {c : Code} {H : Heap} {locs : List Loc} {cells slots : Nat} {free : Addr → Prop} {ls : Array Slot} {rest : List Value} {Qc : Array Value → State → Outcome → State → Prop} {XC : String → State → State → Prop}
    {pc : Nat} {own E : String} {ce : Cell} {q : Addr} {mc ms : Nat} (hown : s.vm.findClass own = some m.cls) (hlocks : meth.locks = false)
    (hpass : ∀ z ∈ c.exceptionTable.toList, covers z pc = false ∨ (z.catchType ≠ 0 ∧ ∃ nm : String, (Cond.classLink own z.catchType nm).before args s = true ∧ va_Nc E nm s)) (hcell : H[q]? = some ce) (hv : ce.vm = .none) (hcl : s.vm.findClass E = some ce.cls)
    (hx : ∀ t : State, t.heap = H → s.vm.Alike t.vm → XC E s t) (hf : ∀ z ∈ locs, free z.base) (hc : cells ≤ mc) (hs : slots ≤ ms) :
    vx_W p l e R s m args below meth c H locs cells slots (vx_MQ below Qc XC args s mc ms free) (F0 m pc ls rest) q := by
  intro T hT X
  have hpl : e.platform.magicAccessors = ({} : Platform).magicAccessors := by rw [X.admits.platform]
  obtain ⟨vm', hW', X', st⟩ := X.outThrough hlocks q (g := F0 m pc ls rest) rfl rfl rfl (cell := ce) (by rw [hT]; exact hcell) (by rw [hv]; rfl)
    (by obtain ⟨k9, h9, -⟩ := Vm.findClass_spec hcl; exact ⟨k9, h9⟩) (fun z hz => by
      rcases hpass z hz with h | ⟨hz0, nm, hl1, hn1⟩
      · exact Or.inl h
      · obtain ⟨c6, hc6, hcl6⟩ := Cond.classLink_spec hown hl1 e.platform hpl
        obtain ⟨a8, b8, h1, h2, h3⟩ := hn1
        cases Option.some.inj (h1.symm.trans hcl)
        cases Option.some.inj (h2.symm.trans hc6)
        exact Or.inr ⟨hz0, _, hcl6, h3⟩)
  obtain ⟨g₀, hfr⟩ := X'.frames_eq
  have hcell9 : ((T.setVm vm').setFrames (.throwing q :: below)).heap[q]? = some ce := by
    show T.heap[q]? = some ce
    rw [hT]; exact hcell
  have hend : Ended ((T.setVm vm').setFrames (.throwing q :: below)) below (.threw q) := State.frames_setFrames _ (State.cur_lt_of_frames hfr)
  refine ⟨(T.setVm vm').setFrames (.throwing q :: below), ?_, .threw q, X'.here.running, hend, Or.inr ⟨q, rfl, E, ce, locs, hx _ hT (X'.ends _).1.alike, hcell9, hv, hcl, (X'.ends _).1, (X'.ends _).2.mono hc hs, hf⟩⟩
  rw [X.pushThrowing_eq]
  exact st
/-- a thing of a world lies in the heap -/
theorem vx_lt {D : va_G} {cl : List vw_C} {ws : va_W} {H1 : Heap} (h : va_P D cl ws H1) {k : Nat} {q : Nat × va_E} (hk : ws[k]? = some q) : q.1 < H1.size := (h k q hk).lt
end VXS
/-! ===== END ===== -/
/-! ===== BEGIN methods with a table of their own: called by a name, returning or throwing ===== -/
section VXH
/-! vx_backW, vx_callVX, vx_callSX, vx_callVW, vx_runVW, vx_runVX, vx_runSX, vx_ofWH follow the same proofs as their sisters above (Free/Laws.lean, Shelf42/LK1.lean); vx_outP calls Shelf42/NT130.lean (outThrough). -/
section
variable {l : Launch} {R : Room} {p : Program} {e : Env} {below : List Frame} {s : State} {sargs : Array Value} {y : MethodName} {len W9 : Nat}
theorem vx_backW {ws : List Cond} {rm : Room} {Pc : Array Value → State → Prop} {Qc : Array Value → State → Outcome → State → Prop} {XC : String → State → State → Prop} {mc ms : Nat} {free : Addr → Prop} {bytes : ByteArray} {maxL : Nat} {ret : Option FieldType} {hh : List (Nat × Nat × Nat × Nat)}
    (hM : vx_Met l y ws rm Pc Qc XC mc ms free) (hblind : FrameBlind Pc) (hrc : rm.cells = mc) (hrs : rm.slots = ms)
    (hframes : rm.frames + 1 ≤ R.frames) (hlocals : W9 + (maxL + 11) + rm.locals ≤ R.locals)
    (hws : ∀ w ∈ ws, ∀ a' U, s.WarmedH U.vm → w.before a' U = true) (hcode : Cond.codeWith y bytes maxL ret hh ∈ ws) (hinit : ∀ a' U, s.WarmedH U.vm → (Cond.initialized y.cls).before a' U = true) :
    vx_Back l R p e below s sargs y len W9 (PreOf R mc ms Pc) (PostOf Qc mc ms free) (vx_Post XC mc ms free) := by
  intro m meth c A g ig mk a X hg hsize hdg hW hn hp
  have h1 : (headSpec ws rm).pre.before a A.U = true := atoms_intro fun w hw => hws w hw _ _ X.warmed
  have h2 : (Cond.codeWith y bytes maxL ret hh).before a A.U = true := hws _ hcode _ _ X.warmed
  have h3 : (Cond.initialized y.cls).before a A.U = true := hinit _ _ X.warmed
  have h4 : A.cells + (headSpec ws rm).room.cells ≤ R.cells := by rw [show (headSpec ws rm).room.cells = mc from hrc]; exact hp.1
  have h5 : A.slots + (headSpec ws rm).room.slots ≤ R.slots := by rw [show (headSpec ws rm).room.slots = ms from hrs]; exact hp.2.1
  have hPc : Pc a (A.U.calling g mk a) := hblind _ _ _ _ hp.2.2
  obtain ⟨U, Ls, c0, s0⟩ := A
  dsimp only [Pt.U, Pt.locs, Pt.cells, Pt.slots] at h1 h2 h3 h4 h5 X hn hPc ⊢
  obtain ⟨m9, methY, cY, hn9, hmY, hcY, -, hlY, -⟩ := Cond.codeWith_spec h2
  cases Option.some.inj (hn9.symm.trans hn)
  obtain ⟨kY, hkY, -⟩ := className_of_methodNamed hn
  have hinitY : kY.init = .initialized := Cond.initialized_spec (findClass_of_methodNamed hn) hkY h3
  have h : At U g.method c below := by rw [hg]; exact X.here
  have hlocals9 : W9 + (maxL + 11) + (headSpec ws rm).room.locals ≤ R.locals := hlocals
  have happ : (headSpec ws rm).appliesLoose y e.platform (U.calling g mk a) = true :=
    Spec.appliesLoose_calling (g := g) h hdg hn hkY hinitY
      (X.room_calling (g := g) (R' := (headSpec ws rm).room) hsize hmY hcY hframes (by rw [hlY]; omega) h4 h5) h1
  obtain ⟨mid, hmid⟩ := h.above
  have hfr : (U.setTop g).frames = (.java g :: mid) ++ below := by rw [State.frames_setTop' g h.top, hmid]; rfl
  obtain ⟨o, s₂, hsteps, -, hend, hq⟩ := Steps.callFree hM p X.admits X.cas X.clock (acts := []) hfr happ hPc trivial
  have hq' : vx_Q Qc XC mc ms free a (U.calling g mk a) o s₂ := hq
  rw [State.frames_setTop' g h.top] at hend
  obtain ⟨g₀, hg0⟩ := Option.isSome_iff_exists.mp h.top
  obtain ⟨r, hr⟩ := State.topJava?_eq_some.mp hg0
  have hr' : (({ U with heap := s₂.heap, slotsUsed := s₂.slotsUsed } : State).setVm s₂.vm).frames = .java g₀ :: r := hr
  rcases hq' with ⟨hqc, L, hfe, hL⟩ | ⟨q, rfl, E, ce, L, hx, hce, hcv, hcl, hW₂, hsm, hL⟩
  · obtain ⟨⟨v, rfl⟩, hW₂, e2, q2, q3, q4, q5, q6⟩ := id hfe
    have e3 : s₂ = ({ (U.calling g mk a).setFrames s₂.frames with heap := s₂.heap, slotsUsed := s₂.slotsUsed } : State).setVm s₂.vm := by
      have : s₂ = ({ s₂ with vm := (U.calling g mk a).vm } : State).setVm s₂.vm := rfl
      rw [e2] at this
      exact this
    obtain ⟨c₂, i₂, len₂, hc₂, hd₂, hf₂⟩ := hend
    have hW' : U.WarmedH s₂.vm := hW₂
    have hcc : c₂ = c := by
      have h1 : s₂.code? g.method = U.code? g.method := by
        rw [State.code?_eq, State.code?_eq, hW'.alike.method?]
      exact Option.some.inj (hc₂.symm.trans (h1.trans h.code))
    subst hcc
    have hlen : len₂ = len := by rw [hdg] at hd₂; cases hd₂; rfl
    subst hlen
    have hs₂ : s₂ = (({ U with heap := s₂.heap, slotsUsed := s₂.slotsUsed } : State).setVm s₂.vm).setTop { g with pc := g.pc + len₂, stack := v.toList ++ g.stack } := by
      refine e3.trans ?_
      rw [hf₂, State.calling_eq h.top, State.setFrames_setFrames, State.setTop_of_frames _ hr', hr]
      rfl
    have hsame : U.sameButNew ({ U with heap := s₂.heap, slotsUsed := s₂.slotsUsed } : State) L mc ms := by
      refine ⟨?_, q2, q3, q4, q5, q6⟩
      obtain ⟨t, ht, -⟩ := State.frames_cons hr
      show ({ U with heap := s₂.heap, slotsUsed := s₂.slotsUsed } : State) = { U.setFrames U.frames with heap := s₂.heap, slotsUsed := s₂.slotsUsed }
      rw [State.setFrames_self ht]
    subst hg
    refine Or.inl ⟨v, ⟨(({ U with heap := s₂.heap, slotsUsed := s₂.slotsUsed } : State).setVm s₂.vm), Ls ++ L, c0 + mc, s0 + ms⟩,
      ⟨X.admits, X.cas, X.clock, X.frames, X.room, X.hears, X.method, X.code, (X.here.setHeapUsed s₂.heap s₂.slotsUsed).setVm hW'.alike, X.tail, State.WarmedH.trans X.warmed hW', X.limits, X.bytes, X.same.trans (hsame.setVm s.vm)⟩,
      ⟨g, mk, s₂, L, rfl, rfl, hqc, rfl, hL, rfl, rfl⟩, ?_⟩
    show Steps p.tables e below _ ((({ U with heap := s₂.heap, slotsUsed := s₂.slotsUsed } : State).setVm s₂.vm).setTop { g with pc := g.pc + len₂, stack := v.toList ++ g.stack })
    rw [← hs₂]
    exact hsteps
  · obtain ⟨e2, q2, q3, q4, q5, q6⟩ := id hsm
    have e3 : s₂ = ({ (U.calling g mk a).setFrames s₂.frames with heap := s₂.heap, slotsUsed := s₂.slotsUsed } : State).setVm s₂.vm := by
      have : s₂ = ({ s₂ with vm := (U.calling g mk a).vm } : State).setVm s₂.vm := rfl
      rw [e2] at this
      exact this
    have hf₂ : s₂.frames = .throwing q :: .java g :: U.frames.tail := hend
    have hW' : U.WarmedH s₂.vm := hW₂
    have hs₂ : s₂ = ((({ U with heap := s₂.heap, slotsUsed := s₂.slotsUsed } : State).setVm s₂.vm).setTop g).pushFrame (.throwing q) := by
      refine e3.trans ?_
      rw [hf₂, State.calling_eq h.top, State.setFrames_setFrames, State.pushFrame, State.frames_setTop _ hr', State.setTop_of_frames _ hr', State.setFrames_setFrames, hr]
      rfl
    have hsame : U.sameButNew ({ U with heap := s₂.heap, slotsUsed := s₂.slotsUsed } : State) L mc ms := by
      refine ⟨?_, q2, q3, q4, q5, q6⟩
      obtain ⟨t, ht, -⟩ := State.frames_cons hr
      show ({ U with heap := s₂.heap, slotsUsed := s₂.slotsUsed } : State) = { U.setFrames U.frames with heap := s₂.heap, slotsUsed := s₂.slotsUsed }
      rw [State.setFrames_self ht]
    subst hg
    refine Or.inr ⟨q, ⟨(({ U with heap := s₂.heap, slotsUsed := s₂.slotsUsed } : State).setVm s₂.vm), Ls ++ L, c0 + mc, s0 + ms⟩,
      ⟨X.admits, X.cas, X.clock, X.frames, X.room, X.hears, X.method, X.code, (X.here.setHeapUsed s₂.heap s₂.slotsUsed).setVm hW'.alike, X.tail, State.WarmedH.trans X.warmed hW', X.limits, X.bytes, X.same.trans (hsame.setVm s.vm)⟩,
      ⟨g, mk, s₂, L, E, ce, rfl, rfl, hx, hce, hcv, hcl, rfl, hL, rfl, rfl⟩, ?_⟩
    show Steps p.tables e below _ (((({ U with heap := s₂.heap, slotsUsed := s₂.slotsUsed } : State).setVm s₂.vm).setTop g).pushFrame (.throwing q))
    rw [← hs₂]
    exact hsteps
end
variable {p : Program} {l : Launch} {e : Env} {R : Room} {s : State} {m : MethodId} {args : Array Value} {below : List Frame} {meth : Method} {c : Code} {T : State} {H : Heap} {locs : List Loc} {cells slots : Nat}
theorem vx_callVX (X : Stand p l e R s m args below meth c T locs cells slots) (hexec : p.tables.exec = Jvm.exec) {own C : String} {index : Nat} {y : MethodName} {bytes : ByteArray} {maxL : Nat} {ret : Option FieldType} {hh : List (Nat × Nat × Nat × Nat)}
    (hown : s.vm.findClass own = some m.cls) (hlink : (Cond.methodLink own index y).before args s = true) (hinst : (Cond.instanceMethod y).before args s = true) (hsel : (Cond.selects C y y).before args s = true)
    (hcode : (Cond.codeWith y bytes maxL ret hh).before args s = true) (hy : y.cls ≠ "java/lang/invoke/MethodHandle" ∧ y.cls ≠ "java/lang/invoke/VarHandle")
    {W9 : Nat} {Pre : Pt → Array Value → Prop} {Post : Pt → Array Value → Option Value → Pt → Prop} {PostX : Pt → Array Value → Addr → Pt → Prop} (hK : vx_Back l R p e below s args y 3 W9 Pre Post PostX)
    {b : Addr} {cellB : Cell} (hcell : T.heap[b]? = some cellB) (hobj : cellB.vm.isStatics = false) (hcls : s.vm.findClass C = some cellB.cls)
    {g : JFrame} (hg : g.method = m) (hsize : g.locals.size = c.maxLocals) {argsL rest : List Value} (hlen : ∀ sig, parseMethodDescriptor y.desc = some sig → argsL.length = sig.parameters.length)
    (hstack : g.stack = argsL.reverse ++ .ref b :: rest) (hW : 2 * g.monitorRoom + (rest.map fun v => v.category).sum ≤ W9) (hdg : decode c.code g.pc = .ok (.invokevirtual index, 3))
    (hpre : ∀ vm₁, s.WarmedH vm₁ → Pre ⟨T.setVm vm₁, locs, cells, slots⟩ (Value.ref b :: argsL).toArray) :
    (∃ (v : Option Value) (vm₁ : Vm) (B : Pt), s.WarmedH vm₁ ∧ Stand p l e R s m args below meth c B.U B.locs B.cells B.slots ∧ Post ⟨T.setVm vm₁, locs, cells, slots⟩ (Value.ref b :: argsL).toArray v B ∧
      ∀ target, Steps p.tables e below (B.U.setTop { g with pc := g.pc + 3, stack := v.toList ++ rest }) target → Steps p.tables e below (T.setTop g) target) ∨
    (∃ (q : Addr) (vm₁ : Vm) (B : Pt), s.WarmedH vm₁ ∧ Stand p l e R s m args below meth c B.U B.locs B.cells B.slots ∧ PostX ⟨T.setVm vm₁, locs, cells, slots⟩ (Value.ref b :: argsL).toArray q B ∧
      Steps p.tables e below (T.setTop g) ((B.U.setTop { g with stack := rest }).pushFrame (.throwing q))) := by
  obtain ⟨mk, methM, hnamed, hmethM, hstM, habM⟩ := Cond.instanceMethod_spec hinst
  obtain ⟨m8, methM', cM, hn8, hmethM', -, -, -, -, -, -, hsigM⟩ := Cond.codeWith_spec hcode
  cases Option.some.inj (hn8.symm.trans hnamed)
  cases hmethM.symm.trans hmethM'
  obtain ⟨c2, r2, m2, q1, q2, q3, q4, kP, hkP, hkPi⟩ := Cond.selects_spec hsel
  cases hcls.symm.trans q1
  cases (State.methodFound?_of_named hnamed hy).symm.trans q2
  cases hnamed.symm.trans q3
  have hselP : selectMethod e.platform s.vm cellB.cls mk = .method mk := by rw [Launch.admits_selectMethod X.admits]; exact q4
  obtain ⟨vm₁, X₁, hstep₁⟩ := X.invokevirtual hexec hown hlink hnamed hmethM hstM hkP hkPi hy (a := b) (cell := cellB) hcell
    (fun z h => by rw [h] at hobj; cases hobj) hselP hmethM habM hkP hkPi (g := g) hg (argsL := argsL) (rest := rest) (hlen _ hsigM) hstack hdg
  rcases hK m meth c ⟨T.setVm vm₁, locs, cells, slots⟩ { g with stack := rest } (.invokevirtual index) mk (Value.ref b :: argsL).toArray X₁ hg hsize hdg hW (X₁.named hnamed) (hpre vm₁ X₁.warmed) with ⟨v, B, X', hpost, hsteps⟩ | ⟨q, B, X', hpost, hsteps⟩
  · exact Or.inl ⟨v, vm₁, B, X₁.warmed, X', hpost, fun target h => hstep₁ _ fun acts => by rw [doInvoke_state]; exact hsteps.trans h⟩
  · exact Or.inr ⟨q, vm₁, B, X₁.warmed, X', hpost, hstep₁ _ fun acts => by rw [doInvoke_state]; exact hsteps⟩
theorem vx_callSX (X : Stand p l e R s m args below meth c T locs cells slots) (hexec : p.tables.exec = Jvm.exec) {own : String} {index : Nat} {y : MethodName} {bytes : ByteArray} {maxL : Nat} {ret : Option FieldType} {hh : List (Nat × Nat × Nat × Nat)}
    (hown : s.vm.findClass own = some m.cls) (hlink : (Cond.methodLink own index y).before args s = true) (hstat : (Cond.static y).before args s = true) (hinit : (Cond.initialized y.cls).before args s = true)
    (hcode : (Cond.codeWith y bytes maxL ret hh).before args s = true) (hy : y.cls ≠ "java/lang/invoke/MethodHandle" ∧ y.cls ≠ "java/lang/invoke/VarHandle")
    {W9 : Nat} {Pre : Pt → Array Value → Prop} {Post : Pt → Array Value → Option Value → Pt → Prop} {PostX : Pt → Array Value → Addr → Pt → Prop} (hK : vx_Back l R p e below s args y 3 W9 Pre Post PostX)
    {g : JFrame} (hg : g.method = m) (hsize : g.locals.size = c.maxLocals) {argsL rest : List Value} (hlen : ∀ sig, parseMethodDescriptor y.desc = some sig → argsL.length = sig.parameters.length)
    (hstack : g.stack = argsL.reverse ++ rest) (hW : 2 * g.monitorRoom + (rest.map fun v => v.category).sum ≤ W9) (hdg : decode c.code g.pc = .ok (.invokestatic index, 3))
    (hpre : ∀ vm₁, s.WarmedH vm₁ → Pre ⟨T.setVm vm₁, locs, cells, slots⟩ argsL.toArray) :
    (∃ (v : Option Value) (vm₁ : Vm) (B : Pt), s.WarmedH vm₁ ∧ Stand p l e R s m args below meth c B.U B.locs B.cells B.slots ∧ Post ⟨T.setVm vm₁, locs, cells, slots⟩ argsL.toArray v B ∧
      ∀ target, Steps p.tables e below (B.U.setTop { g with pc := g.pc + 3, stack := v.toList ++ rest }) target → Steps p.tables e below (T.setTop g) target) ∨
    (∃ (q : Addr) (vm₁ : Vm) (B : Pt), s.WarmedH vm₁ ∧ Stand p l e R s m args below meth c B.U B.locs B.cells B.slots ∧ PostX ⟨T.setVm vm₁, locs, cells, slots⟩ argsL.toArray q B ∧
      Steps p.tables e below (T.setTop g) ((B.U.setTop { g with stack := rest }).pushFrame (.throwing q))) := by
  obtain ⟨mk, methM, cM, hnamed, hmethM, -, -, -, -, -, -, hsigM⟩ := Cond.codeWith_spec hcode
  have hstatic : methM.isStatic = true := Cond.static_spec hnamed hmethM hstat
  obtain ⟨kP, hkP, -⟩ := className_of_methodNamed hnamed
  have hinitP : kP.init = .initialized := Cond.initialized_spec (findClass_of_methodNamed hnamed) hkP hinit
  obtain ⟨vm₁, X₁, hstep₁⟩ := X.invokestatic hexec hown hlink hnamed hmethM hstatic hkP hinitP hy (g := g) hg (argsL := argsL) (rest := rest) (hlen _ hsigM) hstack hdg
  rcases hK m meth c ⟨T.setVm vm₁, locs, cells, slots⟩ { g with stack := rest } (.invokestatic index) mk argsL.toArray X₁ hg hsize hdg hW (X₁.named hnamed) (hpre vm₁ X₁.warmed) with ⟨v, B, X', hpost, hsteps⟩ | ⟨q, B, X', hpost, hsteps⟩
  · exact Or.inl ⟨v, vm₁, B, X₁.warmed, X', hpost, fun target h => hstep₁ _ fun acts => by rw [doInvoke_state]; exact hsteps.trans h⟩
  · exact Or.inr ⟨q, vm₁, B, X₁.warmed, X', hpost, hstep₁ _ fun acts => by rw [doInvoke_state]; exact hsteps⟩
theorem vx_callVW (X : Stand p l e R s m args below meth c T locs cells slots) (hexec : p.tables.exec = Jvm.exec) {own C : String} {index : Nat} {y : MethodName} {bytes : ByteArray} {maxL : Nat} {ret : Option FieldType} {hh : List (Nat × Nat × Nat × Nat)}
    (hown : s.vm.findClass own = some m.cls) (hlink : (Cond.methodLink own index y).before args s = true) (hinst : (Cond.instanceMethod y).before args s = true) (hsel : (Cond.selects C y y).before args s = true)
    (hcode : (Cond.codeWith y bytes maxL ret hh).before args s = true) (hy : y.cls ≠ "java/lang/invoke/MethodHandle" ∧ y.cls ≠ "java/lang/invoke/VarHandle")
    {W9 : Nat} {Pre : Pt → Array Value → Prop} {Post : Pt → Array Value → Option Value → Pt → Prop} (hK : Back l R p e below s args y 3 W9 Pre Post)
    {b : Addr} {cellB : Cell} (hcell : T.heap[b]? = some cellB) (hobj : cellB.vm.isStatics = false) (hcls : s.vm.findClass C = some cellB.cls)
    {g : JFrame} (hg : g.method = m) (hsize : g.locals.size = c.maxLocals) {argsL rest : List Value} (hlen : ∀ sig, parseMethodDescriptor y.desc = some sig → argsL.length = sig.parameters.length)
    (hstack : g.stack = argsL.reverse ++ .ref b :: rest) (hW : 2 * g.monitorRoom + (rest.map fun v => v.category).sum ≤ W9) (hdg : decode c.code g.pc = .ok (.invokevirtual index, 3))
    (hpre : ∀ vm₁, s.WarmedH vm₁ → Pre ⟨T.setVm vm₁, locs, cells, slots⟩ (Value.ref b :: argsL).toArray) :
    ∃ (v : Option Value) (vm₁ : Vm) (B : Pt), s.WarmedH vm₁ ∧ Stand p l e R s m args below meth c B.U B.locs B.cells B.slots ∧ Post ⟨T.setVm vm₁, locs, cells, slots⟩ (Value.ref b :: argsL).toArray v B ∧
      ∀ target, Steps p.tables e below (B.U.setTop { g with pc := g.pc + 3, stack := v.toList ++ rest }) target → Steps p.tables e below (T.setTop g) target := by
  obtain ⟨mk, methM, hnamed, hmethM, hstM, habM⟩ := Cond.instanceMethod_spec hinst
  obtain ⟨m8, methM', cM, hn8, hmethM', -, -, -, -, -, -, hsigM⟩ := Cond.codeWith_spec hcode
  cases Option.some.inj (hn8.symm.trans hnamed)
  cases hmethM.symm.trans hmethM'
  obtain ⟨c2, r2, m2, q1, q2, q3, q4, kP, hkP, hkPi⟩ := Cond.selects_spec hsel
  cases hcls.symm.trans q1
  cases (State.methodFound?_of_named hnamed hy).symm.trans q2
  cases hnamed.symm.trans q3
  have hselP : selectMethod e.platform s.vm cellB.cls mk = .method mk := by rw [Launch.admits_selectMethod X.admits]; exact q4
  obtain ⟨vm₁, X₁, hstep₁⟩ := X.invokevirtual hexec hown hlink hnamed hmethM hstM hkP hkPi hy (a := b) (cell := cellB) hcell
    (fun z h => by rw [h] at hobj; cases hobj) hselP hmethM habM hkP hkPi (g := g) hg (argsL := argsL) (rest := rest) (hlen _ hsigM) hstack hdg
  obtain ⟨v, B, X', hpost, hsteps⟩ := hK m meth c ⟨T.setVm vm₁, locs, cells, slots⟩ { g with stack := rest } (.invokevirtual index) mk (Value.ref b :: argsL).toArray X₁ hg hsize hdg hW (X₁.named hnamed) (hpre vm₁ X₁.warmed)
  exact ⟨v, vm₁, B, X₁.warmed, X', hpost, fun target h => hstep₁ _ fun acts => by rw [doInvoke_state]; exact hsteps.trans h⟩
abbrev vx_CVW (R : Room) (s : State) (args : Array Value) (own C : String) (index : Nat) (y : MethodName) (bytes : ByteArray) (maxL : Nat) (ret : Option FieldType) (hh : List (Nat × Nat × Nat × Nat)) (ws : List Cond) (rm : Room) (mc ms n : Nat) : Prop :=
  (rm.cells = mc ∧ rm.slots = ms ∧ rm.frames + 1 ≤ R.frames ∧ 8 + (maxL + 11) + rm.locals ≤ R.locals ∧ (∀ w ∈ ws, ∀ (a' : Array Value) (U : State), s.WarmedH U.vm → w.before a' U = true) ∧ Cond.codeWith y bytes maxL ret hh ∈ ws) ∧
  (Cond.codeWith y bytes maxL ret hh).before args s = true ∧ (Cond.initialized y.cls).before args s = true ∧ (y.cls ≠ "java/lang/invoke/MethodHandle" ∧ y.cls ≠ "java/lang/invoke/VarHandle") ∧
  (∀ sig, parseMethodDescriptor y.desc = some sig → n = sig.parameters.length) ∧ (Cond.methodLink own index y).before args s = true ∧ (Cond.instanceMethod y).before args s = true ∧ (Cond.selects C y y).before args s = true
theorem vx_cwVW {own C : String} {index maxL mc ms : Nat} {y : MethodName} {bytes : ByteArray} {ret : Option FieldType} {hh : List (Nat × Nat × Nat × Nat)} {Ts ws ws' : List Cond} {rm : Room} (n : Nat) (ht : ∀ w ∈ Ts, w.before args s = true) (hT : GoodIn Ts (wsV own index C y ws)) (hw : ws = Cond.codeWith y bytes maxL ret hh :: ws') (hrc : rm.cells = mc) (hrs : rm.slots = ms)
    (hd : y.cls = C ∧ y.cls ≠ "java/lang/invoke/MethodHandle" ∧ y.cls ≠ "java/lang/invoke/VarHandle" ∧ (parseMethodDescriptor y.desc).map (fun d => d.parameters.length) = some n) (hR : rm.frames + 1 ≤ R.frames ∧ 8 + (maxL + 11) + rm.locals ≤ R.locals) :
    vx_CVW R s args own C index y bytes maxL ret hh ws rm mc ms n := by
  obtain ⟨hC, hd⟩ := hd
  subst hC
  have ok : ∀ w ∈ wsV own index y.cls y ws, w.before args s = true := fun w h => ht w (hT w h).1
  have hG : GoodIn Ts ws := fun w h => hT w (by unfold wsV; exact List.mem_append_right _ h)
  have hc : Cond.codeWith y bytes maxL ret hh ∈ ws := by rw [hw]; exact List.mem_cons_self
  refine ⟨⟨hrc, hrs, hR.1, hR.2, pay_in ht hG, hc⟩, ht _ (hG _ hc).1, ok _ (by simp [wsV]), ⟨hd.1, hd.2.1⟩, fun sig h => ?_, ok _ (by simp [wsV]), ok _ (by simp [wsV]), ok _ (by simp [wsV])⟩
  have h2 := hd.2.2
  rw [h] at h2
  exact (Option.some.inj h2).symm
theorem vx_runVW {y : MethodName} {bytes cc : ByteArray} {maxL nL mc ms n index : Nat} {ret : Option FieldType} {hh : List (Nat × Nat × Nat × Nat)} {ws : List Cond} {rm : Room} {Pc : Array Value → State → Prop} {Qc : Array Value → State → Outcome → State → Prop} {free : Addr → Prop} {Ts : List Cond} {own C : String} {b : Addr} {As rest : List Value} {g : JFrame}
    (S : CallFix p m c cc nL s args Ts own) (hM : Met l y ws rm Pc Qc mc ms free) (cw : vx_CVW R s args own C index y bytes maxL ret hh ws rm mc ms n) (hp : PreV s H C b Pc As)
    (hg : g.method = m) (hn : As.length = n) (hsize : g.locals.size = nL) (hstack : g.stack = As.reverse ++ .ref b :: rest) (hW : 2 * g.monitorRoom + (rest.map fun v => v.category).sum ≤ 8) (hdg : decode cc g.pc = .ok (.invokevirtual index, 3)) (hf : cells + mc ≤ R.cells ∧ slots + ms ≤ R.slots) :
    va_Run p l e R s m args below meth c H locs cells slots mc ms g rest (Qc (Value.ref b :: As).toArray) free := by
  obtain ⟨⟨hrc, hrs, hfr, hlo, hws, hcw⟩, hcode, hini, hy, hlen, hl, hin, hse⟩ := cw
  have hK : Back l R p e below s args y 3 8 (PreOf R mc ms Pc) (PostOf Qc mc ms free) := va_backW (hh := hh) (bytes := bytes) (maxL := maxL) (ret := ret) hM hp.1 hrc hrs hfr hlo hws hcw (fun a' U hW => word_at hW (Or.inl (by first | rfl | simp [Cond.onTables, Cond.keeps, Cond.steady])) hini)
  obtain ⟨hx, hb, hml, ho, -⟩ := S
  obtain ⟨-, ⟨cellB, hcB, hoB, hclB⟩, hPc⟩ := hp
  intro T hT X
  obtain ⟨v, vm₁, ⟨U', l2, c2, s2⟩, hW₁, X', ⟨g', mk, t, L, e1, e2, hq, h1, hL, h2, h3⟩, st⟩ := vx_callVW X hx (C := C) (hh := hh) (bytes := bytes) (maxL := maxL) (ret := ret) ho hl hin hse hcode hy hK (by rw [hT]; exact hcB) hoB hclB hg (hsize.trans hml.symm) (argsL := As) (rest := rest) (fun sig h => hn.trans (hlen sig h)) hstack hW (by rw [hb]; exact hdg)
    (fun vm₁ hW₁ => ⟨hf.1, hf.2, hPc (T.setVm vm₁) hT hW₁⟩)
  dsimp only [Pt.U, Pt.locs, Pt.cells, Pt.slots] at X' e1 e2 h1 h2 h3 st
  subst h1; subst h2; subst h3
  exact ⟨v, (T.setVm vm₁).calling g' mk (Value.ref b :: As).toArray, t, U', L, hT, X', hL, e1, e2, hq, st⟩
section
variable {y : MethodName} {bytes cc : ByteArray} {maxL nL mc ms n index : Nat} {ret : Option FieldType} {ws : List Cond} {rm : Room} {Pc : Array Value → State → Prop} {Qc : Array Value → State → Outcome → State → Prop} {XC : String → State → State → Prop} {free : Addr → Prop} {Ts : List Cond} {own C : String} {b : Addr} {As rest : List Value} {g : JFrame}
theorem vx_runVX {hh : List (Nat × Nat × Nat × Nat)} (S : CallFix p m c cc nL s args Ts own) (hM : vx_Met l y ws rm Pc Qc XC mc ms free) (cw : vx_CVW R s args own C index y bytes maxL ret hh ws rm mc ms n) (hp : PreV s H C b Pc As)
    (hg : g.method = m) (hn : As.length = n) (hsize : g.locals.size = nL) (hstack : g.stack = As.reverse ++ .ref b :: rest) (hW : 2 * g.monitorRoom + (rest.map fun v => v.category).sum ≤ 8) (hdg : decode cc g.pc = .ok (.invokevirtual index, 3)) (hf : cells + mc ≤ R.cells ∧ slots + ms ≤ R.slots) :
    vx_Run p l e R s m args below meth c H locs cells slots mc ms g rest (Qc (Value.ref b :: As).toArray) XC free := by
  obtain ⟨⟨hrc, hrs, hfr, hlo, hws, hcw⟩, hcode, hini, hy, hlen, hl, hin, hse⟩ := cw
  have hK : vx_Back l R p e below s args y 3 8 (PreOf R mc ms Pc) (PostOf Qc mc ms free) (vx_Post XC mc ms free) := vx_backW (hh := hh) (bytes := bytes) (maxL := maxL) (ret := ret) hM hp.1 hrc hrs hfr hlo hws hcw (fun a' U hW => word_at hW (Or.inl (by first | rfl | simp [Cond.onTables, Cond.keeps, Cond.steady])) hini)
  obtain ⟨hx, hb, hml, ho, -⟩ := S
  obtain ⟨-, ⟨cellB, hcB, hoB, hclB⟩, hPc⟩ := hp
  intro T hT X
  rcases vx_callVX X hx (C := C) (hh := hh) (bytes := bytes) (maxL := maxL) (ret := ret) ho hl hin hse hcode hy hK (by rw [hT]; exact hcB) hoB hclB hg (hsize.trans hml.symm) (argsL := As) (rest := rest) (fun sig h => hn.trans (hlen sig h)) hstack hW (by rw [hb]; exact hdg)
    (fun vm₁ hW₁ => ⟨hf.1, hf.2, hPc (T.setVm vm₁) hT hW₁⟩) with ⟨v, vm₁, ⟨U', l2, c2, s2⟩, hW₁, X', ⟨g', mk, t, L, e1, e2, hq, h1, hL, h2, h3⟩, st⟩ | ⟨q, vm₁, ⟨U', l2, c2, s2⟩, hW₁, X', ⟨g', mk, t, L, E, ce, e1, e2, hq, hce, hcv, hcl, h1, hL, h2, h3⟩, st⟩
  · dsimp only [Pt.U, Pt.locs, Pt.cells, Pt.slots] at X' e1 e2 h1 h2 h3 st
    subst h1; subst h2; subst h3
    exact Or.inl ⟨v, (T.setVm vm₁).calling g' mk (Value.ref b :: As).toArray, t, U', L, hT, X', hL, e1, e2, hq, st⟩
  · dsimp only [Pt.U, Pt.locs, Pt.cells, Pt.slots] at X' e1 e2 h1 h2 h3 st hcl
    subst h1; subst h2; subst h3
    exact Or.inr ⟨q, (T.setVm vm₁).calling g' mk (Value.ref b :: As).toArray, t, U', L, E, ce, hT, X', hL, e1, e2, hq, hce, hcv, vx_cls hW₁ hcl, st⟩
theorem vx_runSX {hh : List (Nat × Nat × Nat × Nat)} (S : CallFix p m c cc nL s args Ts own) (hM : vx_Met l y ws rm Pc Qc XC mc ms free) (cw : vx_CSW R s args own index y bytes maxL ret hh ws rm mc ms n) (hp : PreS s H Pc As)
    (hg : g.method = m) (hn : As.length = n) (hsize : g.locals.size = nL) (hstack : g.stack = As.reverse ++ rest) (hW : 2 * g.monitorRoom + (rest.map fun v => v.category).sum ≤ 8) (hdg : decode cc g.pc = .ok (.invokestatic index, 3)) (hf : cells + mc ≤ R.cells ∧ slots + ms ≤ R.slots) :
    vx_Run p l e R s m args below meth c H locs cells slots mc ms g rest (Qc As.toArray) XC free := by
  obtain ⟨⟨hrc, hrs, hfr, hlo, hws, hcw⟩, hcode, hini, hy, hlen, hl, hstt⟩ := cw
  have hK : vx_Back l R p e below s args y 3 8 (PreOf R mc ms Pc) (PostOf Qc mc ms free) (vx_Post XC mc ms free) := vx_backW (hh := hh) (bytes := bytes) (maxL := maxL) (ret := ret) hM hp.1 hrc hrs hfr hlo hws hcw (fun a' U hW => word_at hW (Or.inl (by first | rfl | simp [Cond.onTables, Cond.keeps, Cond.steady])) hini)
  obtain ⟨hx, hb, hml, ho, -⟩ := S
  intro T hT X
  rcases vx_callSX X hx (hh := hh) (bytes := bytes) (maxL := maxL) (ret := ret) ho hl hstt hini hcode hy hK hg (hsize.trans hml.symm) (argsL := As) (rest := rest) (fun sig h => hn.trans (hlen sig h)) hstack hW (by rw [hb]; exact hdg)
    (fun vm₁ hW₁ => ⟨hf.1, hf.2, hp.2 (T.setVm vm₁) hT hW₁⟩) with ⟨v, vm₁, ⟨U', l2, c2, s2⟩, hW₁, X', ⟨g', mk, t, L, e1, e2, hq, h1, hL, h2, h3⟩, st⟩ | ⟨q, vm₁, ⟨U', l2, c2, s2⟩, hW₁, X', ⟨g', mk, t, L, E, ce, e1, e2, hq, hce, hcv, hcl, h1, hL, h2, h3⟩, st⟩
  · dsimp only [Pt.U, Pt.locs, Pt.cells, Pt.slots] at X' e1 e2 h1 h2 h3 st
    subst h1; subst h2; subst h3
    exact Or.inl ⟨v, (T.setVm vm₁).calling g' mk As.toArray, t, U', L, hT, X', hL, e1, e2, hq, st⟩
  · dsimp only [Pt.U, Pt.locs, Pt.cells, Pt.slots] at X' e1 e2 h1 h2 h3 st hcl
    subst h1; subst h2; subst h3
    exact Or.inr ⟨q, (T.setVm vm₁).calling g' mk As.toArray, t, U', L, E, ce, hT, X', hL, e1, e2, hq, hce, hcv, vx_cls hW₁ hcl, st⟩
end
end VXH
theorem vx_ofWH {l : Launch} {y : MethodName} {ws ws' : List Cond} {rm : Room} {Pc : Array Value → State → Prop} {Qc : Array Value → State → Outcome → State → Prop} {XC : String → State → State → Prop} {mc ms : Nat} {free : Addr → Prop} {cc : ByteArray} {maxL : Nat} {ret : Option FieldType} {hh : List (Nat × Nat × Nat × Nat)}
    (hy : plainName y.cls = true) (hw : ws = Cond.codeWith y cc maxL ret hh :: ws')
    (body : ∀ p e s m args below meth c s₁, BodyLoose p l y (headSpec ws rm) cc maxL ret e s m args below meth c s₁ → c.maxLocals = maxL → Pc args s →
      W p l e (headSpec ws rm).room s m args below meth c s.heap [] 0 0 (vx_MQ below Qc XC args s mc ms free) (entryFrame m args maxL)) : vx_Met l y ws rm Pc Qc XC mc ms free := by
  refine MetFree.of_bodyS (code := cc) (maxLocals := maxL) (ret := ret) hy ?_ ?_
  · intro args s m h hn
    obtain ⟨m9, meth, c, hn9, h1, h2, h3, h4, -, h5, h6, -⟩ := Cond.codeWith_spec (atoms_spec (ws := ws) h _ (by rw [hw]; exact List.mem_cons_self))
    cases hn.symm.trans hn9
    exact ⟨meth, c, h1, h2, h3, h4, h5, h6⟩
  · intro p e s m args below meth c s₁ B hml hP _
    have hh0 : s₁.heap = s.heap := by rw [B.state]; rfl
    obtain ⟨t, a1, o, b1, b2, b3⟩ := body p e s m args below meth c s₁ B hml hP s₁ hh0 (Stand.of_body B)
    exact ⟨t, o, a1, b1, b2, b3⟩
/-! ===== END ===== -/
end
section
def RX0 : String := "StickPairs$Clock"
def TX0 : u_T := fun k => match k with
  | 0 => ("StickPairs$Clock", "free", "[I", true)
  | 1 => ("StickPairs$Clock", "tick", "I", false)
  | _ => ("StickPairs$Clock", "waited", "I", false)
def tyX0 : Nat → FieldType := fun k => match k with
  | 0 => .array .int
  | 1 => .int
  | _ => .int
abbrev wsX00 : List Cond := u_ws RX0 TX0 3
theorem nmX0 : ∀ a, a < 3 → ∀ b, b < 3 → a ≠ b → (TX0 a).2.1 ≠ (TX0 b).2.1 := by decide +kernel
theorem tyX0_ok : ∀ k, k < 3 → parseFieldDescriptor (TX0 k).2.2.1 = some (tyX0 k) := by decide +kernel
abbrev cX0_init : ByteArray := prog_2_method_1_code
def yX0_init : MethodName := ⟨RX0, "<init>", "()V"⟩
abbrev cX0_copyFrom : ByteArray := prog_2_method_2_code
def yX0_copyFrom : MethodName := ⟨RX0, "copyFrom", "(LStickPairs$Clock;)V"⟩
abbrev cX0_reset : ByteArray := prog_2_method_3_code
def yX0_reset : MethodName := ⟨RX0, "reset", "()V"⟩
abbrev cX0_freeAllNow : ByteArray := prog_2_method_4_code
def yX0_freeAllNow : MethodName := ⟨RX0, "freeAllNow", "()V"⟩
abbrev cX0_freeSlot : ByteArray := prog_2_method_5_code
def yX0_freeSlot : MethodName := ⟨RX0, "freeSlot", "(I)V"⟩
abbrev cX0_freeFrom : ByteArray := prog_2_method_6_code
def yX0_freeFrom : MethodName := ⟨RX0, "freeFrom", "(II)I"⟩
abbrev cX0_pass : ByteArray := prog_2_method_7_code
def yX0_pass : MethodName := ⟨RX0, "pass", "(I)V"⟩
abbrev cX0_readSingle : ByteArray := prog_2_method_8_code
def yX0_readSingle : MethodName := ⟨RX0, "readSingle", "(II)V"⟩
abbrev cX0_readPair : ByteArray := prog_2_method_9_code
def yX0_readPair : MethodName := ⟨RX0, "readPair", "(IIII)V"⟩
abbrev cX0_waitFor : ByteArray := prog_2_method_10_code
def yX0_waitFor : MethodName := ⟨RX0, "waitFor", "(I)V"⟩
abbrev cX0_occupy : ByteArray := prog_2_method_11_code
def yX0_occupy : MethodName := ⟨RX0, "occupy", "(II)V"⟩
def RX1 : String := "StickPairs$Layout"
def TX1 : u_T := fun k => match k with
  | 0 => ("StickPairs$Layout", "kind", "I", false)
  | 1 => ("StickPairs$Layout", "sizes", "[I", true)
  | 2 => ("StickPairs$Layout", "room0", "I", false)
  | 3 => ("StickPairs$Layout", "room1", "I", false)
  | 4 => ("StickPairs$Layout", "lesserRoom", "I", false)
  | 5 => ("StickPairs$Layout", "blocks", "I", false)
  | _ => ("StickPairs$Layout", "wide", "I", false)
def tyX1 : Nat → FieldType := fun k => match k with
  | 0 => .int
  | 1 => .array .int
  | 2 => .int
  | 3 => .int
  | 4 => .int
  | 5 => .int
  | _ => .int
abbrev wsX10 : List Cond := u_ws RX1 TX1 7
theorem nmX1 : ∀ a, a < 7 → ∀ b, b < 7 → a ≠ b → (TX1 a).2.1 ≠ (TX1 b).2.1 := by decide +kernel
theorem tyX1_ok : ∀ k, k < 7 → parseFieldDescriptor (TX1 k).2.2.1 = some (tyX1 k) := by decide +kernel
abbrev cX1_init : ByteArray := prog_3_method_1_code
def yX1_init : MethodName := ⟨RX1, "<init>", "()V"⟩
abbrev cX1_copyFrom : ByteArray := prog_3_method_2_code
def yX1_copyFrom : MethodName := ⟨RX1, "copyFrom", "(LStickPairs$Layout;)V"⟩
abbrev cX1_isLaid : ByteArray := prog_3_method_3_code
def yX1_isLaid : MethodName := ⟨RX1, "isLaid", "()Z"⟩
abbrev cX1_lay : ByteArray := prog_3_method_4_code
def yX1_lay : MethodName := ⟨RX1, "lay", "(ILStickPairs$Sticks;)V"⟩
abbrev cX1_clear : ByteArray := prog_3_method_5_code
def yX1_clear : MethodName := ⟨RX1, "clear", "()V"⟩
abbrev cX1_isWide : ByteArray := prog_3_method_6_code
def yX1_isWide : MethodName := ⟨RX1, "isWide", "(I)Z"⟩
abbrev cX1_isMirrored : ByteArray := prog_3_method_7_code
def yX1_isMirrored : MethodName := ⟨RX1, "isMirrored", "()Z"⟩
abbrev cX1_beginsPair : ByteArray := prog_3_method_8_code
def yX1_beginsPair : MethodName := ⟨RX1, "beginsPair", "(I)Z"⟩
abbrev cX1_channelOf : ByteArray := prog_3_method_9_code
def yX1_channelOf : MethodName := ⟨RX1, "channelOf", "(I)I"⟩
abbrev cX1_indexOf : ByteArray := prog_3_method_10_code
def yX1_indexOf : MethodName := ⟨RX1, "indexOf", "(I)I"⟩
abbrev cX1_slotAt : ByteArray := prog_3_method_11_code
def yX1_slotAt : MethodName := ⟨RX1, "slotAt", "(II)I"⟩
abbrev cX1_numberAt : ByteArray := prog_3_method_12_code
def yX1_numberAt : MethodName := ⟨RX1, "numberAt", "(II)I"⟩
abbrev cX1_slotOf : ByteArray := prog_3_method_13_code
def yX1_slotOf : MethodName := ⟨RX1, "slotOf", "(I)I"⟩
abbrev cX1_numberOf : ByteArray := prog_3_method_14_code
def yX1_numberOf : MethodName := ⟨RX1, "numberOf", "(I)I"⟩
abbrev cX1_slotAgainOf : ByteArray := prog_3_method_15_code
def yX1_slotAgainOf : MethodName := ⟨RX1, "slotAgainOf", "(I)I"⟩
abbrev cX1_numberAgainOf : ByteArray := prog_3_method_16_code
def yX1_numberAgainOf : MethodName := ⟨RX1, "numberAgainOf", "(I)I"⟩
abbrev cX1_blockAt : ByteArray := prog_3_method_17_code
def yX1_blockAt : MethodName := ⟨RX1, "blockAt", "(II)I"⟩
abbrev cX1_usedIn : ByteArray := prog_3_method_18_code
def yX1_usedIn : MethodName := ⟨RX1, "usedIn", "(I)I"⟩
def RX2 : String := "StickPairs$State"
def TX2 : u_T := fun k => match k with
  | 0 => ("StickPairs$State", "sticks", "LStickPairs$Sticks;", true)
  | 1 => ("StickPairs$State", "layout", "LStickPairs$Layout;", true)
  | 2 => ("StickPairs$State", "clock", "LStickPairs$Clock;", true)
  | 3 => ("StickPairs$State", "values", "[I", true)
  | 4 => ("StickPairs$State", "mapSetting", "I", false)
  | 5 => ("StickPairs$State", "pairSetting", "I", false)
  | 6 => ("StickPairs$State", "blocksRead", "I", false)
  | 7 => ("StickPairs$State", "pairsRead", "I", false)
  | _ => ("StickPairs$State", "starts", "I", false)
def tyX2 : Nat → FieldType := fun k => match k with
  | 0 => .object "StickPairs$Sticks"
  | 1 => .object "StickPairs$Layout"
  | 2 => .object "StickPairs$Clock"
  | 3 => .array .int
  | 4 => .int
  | 5 => .int
  | 6 => .int
  | 7 => .int
  | _ => .int
abbrev wsX20 : List Cond := u_ws RX2 TX2 9
theorem nmX2 : ∀ a, a < 9 → ∀ b, b < 9 → a ≠ b → (TX2 a).2.1 ≠ (TX2 b).2.1 := by decide +kernel
theorem tyX2_ok : ∀ k, k < 9 → parseFieldDescriptor (TX2 k).2.2.1 = some (tyX2 k) := by decide +kernel
abbrev cX2_init : ByteArray := prog_4_method_1_code
def yX2_init : MethodName := ⟨RX2, "<init>", "()V"⟩
abbrev cX2_copyFrom : ByteArray := prog_4_method_2_code
def yX2_copyFrom : MethodName := ⟨RX2, "copyFrom", "(LStickPairs$State;)V"⟩
abbrev cX2_begin : ByteArray := prog_4_method_3_code
def yX2_begin : MethodName := ⟨RX2, "begin", "()V"⟩
abbrev cX2_end : ByteArray := prog_4_method_4_code
def yX2_end : MethodName := ⟨RX2, "end", "()V"⟩
abbrev cX2_settingOf : ByteArray := prog_4_method_5_code
def yX2_settingOf : MethodName := ⟨RX2, "settingOf", "(I)I"⟩
abbrev cX2_exchangeSetting : ByteArray := prog_4_method_6_code
def yX2_exchangeSetting : MethodName := ⟨RX2, "exchangeSetting", "(II)I"⟩
abbrev cX2_usedPlaces : ByteArray := prog_4_method_7_code
def yX2_usedPlaces : MethodName := ⟨RX2, "usedPlaces", "(I)I"⟩
abbrev cX2_hasBlock : ByteArray := prog_4_method_8_code
def yX2_hasBlock : MethodName := ⟨RX2, "hasBlock", "(I)Z"⟩
abbrev cX2_canRead : ByteArray := prog_4_method_9_code
def yX2_canRead : MethodName := ⟨RX2, "canRead", "(I)Z"⟩
abbrev cX2_heldBy : ByteArray := prog_4_method_10_code
def yX2_heldBy : MethodName := ⟨RX2, "heldBy", "(I)I"⟩
abbrev cX2_exchange : ByteArray := prog_4_method_11_code
def yX2_exchange : MethodName := ⟨RX2, "exchange", "(II)I"⟩
abbrev cX2_readSlotOf : ByteArray := prog_4_method_12_code
def yX2_readSlotOf : MethodName := ⟨RX2, "readSlotOf", "(I)I"⟩
abbrev cX2_readRankOf : ByteArray := prog_4_method_13_code
def yX2_readRankOf : MethodName := ⟨RX2, "readRankOf", "(I)I"⟩
abbrev cX2_readOne : ByteArray := prog_4_method_14_code
def yX2_readOne : MethodName := ⟨RX2, "readOne", "(I)I"⟩
abbrev cX2_readTwo : ByteArray := prog_4_method_15_code
def yX2_readTwo : MethodName := ⟨RX2, "readTwo", "(I)I"⟩
abbrev cX2_readAll : ByteArray := prog_4_method_16_code
def yX2_readAll : MethodName := ⟨RX2, "readAll", "(LStickPairs$Text;)I"⟩
abbrev cX2_readsPair : ByteArray := prog_4_method_17_code
def yX2_readsPair : MethodName := ⟨RX2, "readsPair", "(II)Z"⟩
abbrev cX2_slotNumber : ByteArray := prog_4_method_18_code
def yX2_slotNumber : MethodName := ⟨RX2, "slotNumber", "(II)I"⟩
abbrev cX2_blockNumber : ByteArray := prog_4_method_19_code
def yX2_blockNumber : MethodName := ⟨RX2, "blockNumber", "(II)I"⟩
abbrev cX2_rankOrNone : ByteArray := prog_4_method_20_code
def yX2_rankOrNone : MethodName := ⟨RX2, "rankOrNone", "(II)I"⟩
abbrev cX2_lostBlocks : ByteArray := prog_4_method_21_code
def yX2_lostBlocks : MethodName := ⟨RX2, "lostBlocks", "()I"⟩
abbrev cX2_sumOfValues : ByteArray := prog_4_method_22_code
def yX2_sumOfValues : MethodName := ⟨RX2, "sumOfValues", "()I"⟩
def RX3 : String := "StickPairs$Sticks"
def TX3 : u_T := fun k => match k with
  | 0 => ("StickPairs$Sticks", "sizes", "[I", true)
  | 1 => ("StickPairs$Sticks", "ranks", "[I", true)
  | 2 => ("StickPairs$Sticks", "delays", "[I", true)
  | 3 => ("StickPairs$Sticks", "reads", "[I", true)
  | 4 => ("StickPairs$Sticks", "failed", "[Z", true)
  | _ => ("StickPairs$Sticks", "mapped", "[Z", true)
def tyX3 : Nat → FieldType := fun k => match k with
  | 0 => .array .int
  | 1 => .array .int
  | 2 => .array .int
  | 3 => .array .int
  | 4 => .array .boolean
  | _ => .array .boolean
abbrev wsX30 : List Cond := u_ws RX3 TX3 6
theorem nmX3 : ∀ a, a < 6 → ∀ b, b < 6 → a ≠ b → (TX3 a).2.1 ≠ (TX3 b).2.1 := by decide +kernel
theorem tyX3_ok : ∀ k, k < 6 → parseFieldDescriptor (TX3 k).2.2.1 = some (tyX3 k) := by decide +kernel
abbrev cX3_init : ByteArray := prog_5_method_1_code
def yX3_init : MethodName := ⟨RX3, "<init>", "()V"⟩
abbrev cX3_copyFrom : ByteArray := prog_5_method_2_code
def yX3_copyFrom : MethodName := ⟨RX3, "copyFrom", "(LStickPairs$Sticks;)V"⟩
abbrev cX3_put : ByteArray := prog_5_method_3_code
def yX3_put : MethodName := ⟨RX3, "put", "(IIII)V"⟩
abbrev cX3_take : ByteArray := prog_5_method_4_code
def yX3_take : MethodName := ⟨RX3, "take", "(I)V"⟩
abbrev cX3_spoil : ByteArray := prog_5_method_5_code
def yX3_spoil : MethodName := ⟨RX3, "spoil", "(I)V"⟩
abbrev cX3_tellRead : ByteArray := prog_5_method_6_code
def yX3_tellRead : MethodName := ⟨RX3, "tellRead", "(I)V"⟩
abbrev cX3_mapGoodOnes : ByteArray := prog_5_method_7_code
def yX3_mapGoodOnes : MethodName := ⟨RX3, "mapGoodOnes", "()V"⟩
abbrev cX3_unmapAll : ByteArray := prog_5_method_8_code
def yX3_unmapAll : MethodName := ⟨RX3, "unmapAll", "()V"⟩
abbrev cX3_isPlugged : ByteArray := prog_5_method_9_code
def yX3_isPlugged : MethodName := ⟨RX3, "isPlugged", "(I)Z"⟩
abbrev cX3_hasFailed : ByteArray := prog_5_method_10_code
def yX3_hasFailed : MethodName := ⟨RX3, "hasFailed", "(I)Z"⟩
abbrev cX3_isMapped : ByteArray := prog_5_method_11_code
def yX3_isMapped : MethodName := ⟨RX3, "isMapped", "(I)Z"⟩
abbrev cX3_isGood : ByteArray := prog_5_method_12_code
def yX3_isGood : MethodName := ⟨RX3, "isGood", "(I)Z"⟩
abbrev cX3_isLeft : ByteArray := prog_5_method_13_code
def yX3_isLeft : MethodName := ⟨RX3, "isLeft", "(I)Z"⟩
abbrev cX3_pluggedOnes : ByteArray := prog_5_method_14_code
def yX3_pluggedOnes : MethodName := ⟨RX3, "pluggedOnes", "()I"⟩
abbrev cX3_failedOnes : ByteArray := prog_5_method_15_code
def yX3_failedOnes : MethodName := ⟨RX3, "failedOnes", "()I"⟩
abbrev cX3_sizeIn : ByteArray := prog_5_method_16_code
def yX3_sizeIn : MethodName := ⟨RX3, "sizeIn", "(I)I"⟩
abbrev cX3_ranksIn : ByteArray := prog_5_method_17_code
def yX3_ranksIn : MethodName := ⟨RX3, "ranksIn", "(I)I"⟩
abbrev cX3_delayIn : ByteArray := prog_5_method_18_code
def yX3_delayIn : MethodName := ⟨RX3, "delayIn", "(I)I"⟩
abbrev cX3_readsIn : ByteArray := prog_5_method_19_code
def yX3_readsIn : MethodName := ⟨RX3, "readsIn", "(I)I"⟩
abbrev cX3_goodSizeIn : ByteArray := prog_5_method_20_code
def yX3_goodSizeIn : MethodName := ⟨RX3, "goodSizeIn", "(I)I"⟩
abbrev cX3_rankOf : ByteArray := prog_5_method_21_code
def yX3_rankOf : MethodName := ⟨RX3, "rankOf", "(II)I"⟩
abbrev cX3_rankRow : ByteArray := prog_5_method_22_code
def yX3_rankRow : MethodName := ⟨RX3, "rankRow", "(II)I"⟩
abbrev cX3_hindrance : ByteArray := prog_5_method_23_code
def yX3_hindrance : MethodName := ⟨RX3, "hindrance", "(I)I"⟩
abbrev cX3_wideIfChanged : ByteArray := prog_5_method_24_code
def yX3_wideIfChanged : MethodName := ⟨RX3, "wideIfChanged", "(II)I"⟩
def RX4 : String := "StickPairs$Text"
def TX4 : u_T := fun k => match k with
  | 0 => ("StickPairs$Text", "codes", "[I", true)
  | 1 => ("StickPairs$Text", "length", "I", false)
  | 2 => ("StickPairs$Text", "firsts", "[I", true)
  | 3 => ("StickPairs$Text", "lasts", "[I", true)
  | 4 => ("StickPairs$Text", "part", "I", false)
  | 5 => ("StickPairs$Text", "ranged", "Z", false)
  | _ => ("StickPairs$Text", "number", "I", false)
def tyX4 : Nat → FieldType := fun k => match k with
  | 0 => .array .int
  | 1 => .int
  | 2 => .array .int
  | 3 => .array .int
  | 4 => .int
  | 5 => .boolean
  | _ => .int
abbrev wsX40 : List Cond := u_ws RX4 TX4 7
theorem nmX4 : ∀ a, a < 7 → ∀ b, b < 7 → a ≠ b → (TX4 a).2.1 ≠ (TX4 b).2.1 := by decide +kernel
theorem tyX4_ok : ∀ k, k < 7 → parseFieldDescriptor (TX4 k).2.2.1 = some (tyX4 k) := by decide +kernel
abbrev cX4_init : ByteArray := prog_6_method_1_code
def yX4_init : MethodName := ⟨RX4, "<init>", "()V"⟩
abbrev cX4_isFull : ByteArray := prog_6_method_2_code
def yX4_isFull : MethodName := ⟨RX4, "isFull", "()Z"⟩
abbrev cX4_add : ByteArray := prog_6_method_3_code
def yX4_add : MethodName := ⟨RX4, "add", "(I)V"⟩
abbrev cX4_empty : ByteArray := prog_6_method_4_code
def yX4_empty : MethodName := ⟨RX4, "empty", "()V"⟩
abbrev cX4_scan : ByteArray := prog_6_method_5_code
def yX4_scan : MethodName := ⟨RX4, "scan", "()I"⟩
abbrev cX4_accepts : ByteArray := prog_6_method_6_code
def yX4_accepts : MethodName := ⟨RX4, "accepts", "(I)Z"⟩
abbrev cX4_acceptsDigit : ByteArray := prog_6_method_7_code
def yX4_acceptsDigit : MethodName := ⟨RX4, "acceptsDigit", "(I)Z"⟩
abbrev cX4_tellsReadings : ByteArray := prog_6_method_8_code
def yX4_tellsReadings : MethodName := ⟨RX4, "tellsReadings", "()Z"⟩
abbrev cX4_firstOf : ByteArray := prog_6_method_9_code
def yX4_firstOf : MethodName := ⟨RX4, "firstOf", "(I)I"⟩
abbrev cX4_lastOf : ByteArray := prog_6_method_10_code
def yX4_lastOf : MethodName := ⟨RX4, "lastOf", "(I)I"⟩
abbrev cX4_fold : ByteArray := prog_6_method_11_code
def yX4_fold : MethodName := ⟨RX4, "fold", "(J)J"⟩
def RX5 : String := "StickPairs"
def TX5 : u_T := fun k => match k with
  | 0 => ("StickPairs", "now", "LStickPairs$State;", true)
  | 1 => ("StickPairs", "snapshot", "LStickPairs$State;", true)
  | 2 => ("StickPairs", "hasSnapshot", "Z", false)
  | 3 => ("StickPairs", "saved", "[LStickPairs$State;", true)
  | 4 => ("StickPairs", "savedCount", "I", false)
  | 5 => ("StickPairs", "text", "LStickPairs$Text;", true)
  | 6 => ("StickPairs", "trialLayout", "LStickPairs$Layout;", true)
  | _ => ("StickPairs", "trialClock", "LStickPairs$Clock;", true)
def tyX5 : Nat → FieldType := fun k => match k with
  | 0 => .object "StickPairs$State"
  | 1 => .object "StickPairs$State"
  | 2 => .boolean
  | 3 => .array (.object "StickPairs$State")
  | 4 => .int
  | 5 => .object "StickPairs$Text"
  | 6 => .object "StickPairs$Layout"
  | _ => .object "StickPairs$Clock"
abbrev wsX50 : List Cond := u_ws RX5 TX5 8
theorem nmX5 : ∀ a, a < 8 → ∀ b, b < 8 → a ≠ b → (TX5 a).2.1 ≠ (TX5 b).2.1 := by decide +kernel
theorem tyX5_ok : ∀ k, k < 8 → parseFieldDescriptor (TX5 k).2.2.1 = some (tyX5 k) := by decide +kernel
abbrev cX5_init : ByteArray := prog_1_method_1_code
def yX5_init : MethodName := ⟨RX5, "<init>", "()V"⟩
abbrev cX5_plug : ByteArray := prog_1_method_2_code
def yX5_plug : MethodName := ⟨RX5, "plug", "(IIII)I"⟩
abbrev cX5_pull : ByteArray := prog_1_method_3_code
def yX5_pull : MethodName := ⟨RX5, "pull", "(I)I"⟩
abbrev cX5_fail : ByteArray := prog_1_method_4_code
def yX5_fail : MethodName := ⟨RX5, "fail", "(I)I"⟩
abbrev cX5_start : ByteArray := prog_1_method_5_code
def yX5_start : MethodName := ⟨RX5, "start", "()I"⟩
abbrev cX5_stop : ByteArray := prog_1_method_6_code
def yX5_stop : MethodName := ⟨RX5, "stop", "()I"⟩
abbrev cX5_write : ByteArray := prog_1_method_7_code
def yX5_write : MethodName := ⟨RX5, "write", "(II)I"⟩
abbrev cX5_read : ByteArray := prog_1_method_8_code
def yX5_read : MethodName := ⟨RX5, "read", "(I)I"⟩
abbrev cX5_rest : ByteArray := prog_1_method_9_code
def yX5_rest : MethodName := ⟨RX5, "rest", "(I)I"⟩
abbrev cX5_set : ByteArray := prog_1_method_10_code
def yX5_set : MethodName := ⟨RX5, "set", "(II)I"⟩
abbrev cX5_append : ByteArray := prog_1_method_11_code
def yX5_append : MethodName := ⟨RX5, "append", "(I)I"⟩
abbrev cX5_clearBuffer : ByteArray := prog_1_method_12_code
def yX5_clearBuffer : MethodName := ⟨RX5, "clearBuffer", "()I"⟩
abbrev cX5_firstError : ByteArray := prog_1_method_13_code
def yX5_firstError : MethodName := ⟨RX5, "firstError", "()I"⟩
abbrev cX5_run : ByteArray := prog_1_method_14_code
def yX5_run : MethodName := ⟨RX5, "run", "()I"⟩
abbrev cX5_keep : ByteArray := prog_1_method_15_code
def yX5_keep : MethodName := ⟨RX5, "keep", "()I"⟩
abbrev cX5_goBack : ByteArray := prog_1_method_16_code
def yX5_goBack : MethodName := ⟨RX5, "goBack", "()I"⟩
abbrev cX5_undo : ByteArray := prog_1_method_17_code
def yX5_undo : MethodName := ⟨RX5, "undo", "()I"⟩
abbrev cX5_slot : ByteArray := prog_1_method_18_code
def yX5_slot : MethodName := ⟨RX5, "slot", "(II)I"⟩
abbrev cX5_where : ByteArray := prog_1_method_19_code
def yX5_where : MethodName := ⟨RX5, "where", "(II)I"⟩
abbrev cX5_lies : ByteArray := prog_1_method_20_code
def yX5_lies : MethodName := ⟨RX5, "lies", "(II)I"⟩
abbrev cX5_count : ByteArray := prog_1_method_21_code
def yX5_count : MethodName := ⟨RX5, "count", "(I)I"⟩
abbrev cX5_setting : ByteArray := prog_1_method_22_code
def yX5_setting : MethodName := ⟨RX5, "setting", "(I)I"⟩
abbrev cX5_why : ByteArray := prog_1_method_23_code
def yX5_why : MethodName := ⟨RX5, "why", "()I"⟩
abbrev cX5_sweep : ByteArray := prog_1_method_24_code
def yX5_sweep : MethodName := ⟨RX5, "sweep", "(I)I"⟩
abbrev cX5_ifStarted : ByteArray := prog_1_method_25_code
def yX5_ifStarted : MethodName := ⟨RX5, "ifStarted", "(II)I"⟩
abbrev cX5_bestChange : ByteArray := prog_1_method_26_code
def yX5_bestChange : MethodName := ⟨RX5, "bestChange", "()I"⟩
abbrev cX5_wideShare : ByteArray := prog_1_method_27_code
def yX5_wideShare : MethodName := ⟨RX5, "wideShare", "()D"⟩
abbrev cX5_meanTicks : ByteArray := prog_1_method_28_code
def yX5_meanTicks : MethodName := ⟨RX5, "meanTicks", "()F"⟩
abbrev cX5_digest : ByteArray := prog_1_method_29_code
def yX5_digest : MethodName := ⟨RX5, "digest", "()J"⟩
abbrev cX5_isWithin : ByteArray := prog_1_method_30_code
def yX5_isWithin : MethodName := ⟨RX5, "isWithin", "(III)Z"⟩
abbrev cX5_isSlot : ByteArray := prog_1_method_31_code
def yX5_isSlot : MethodName := ⟨RX5, "isSlot", "(I)Z"⟩
abbrev cX5_entry : ByteArray := prog_1_method_32_code
def yX5_entry : MethodName := ⟨RX5, "entry", "([II)I"⟩
abbrev cX5_saveState : ByteArray := prog_1_method_33_code
def yX5_saveState : MethodName := ⟨RX5, "saveState", "()V"⟩
abbrev cX5_moveOldestToEnd : ByteArray := prog_1_method_34_code
def yX5_moveOldestToEnd : MethodName := ⟨RX5, "moveOldestToEnd", "()V"⟩
abbrev cX5_countOf : ByteArray := prog_1_method_35_code
def yX5_countOf : MethodName := ⟨RX5, "countOf", "(I)I"⟩
abbrev cX5_sweepTicks : ByteArray := prog_1_method_36_code
def yX5_sweepTicks : MethodName := ⟨RX5, "sweepTicks", "(I)I"⟩
abbrev cX5_trialRank : ByteArray := prog_1_method_37_code
def yX5_trialRank : MethodName := ⟨RX5, "trialRank", "(I)I"⟩
abbrev cX5_trialDelay : ByteArray := prog_1_method_38_code
def yX5_trialDelay : MethodName := ⟨RX5, "trialDelay", "(I)I"⟩
abbrev cX5_blocksIfStarted : ByteArray := prog_1_method_39_code
def yX5_blocksIfStarted : MethodName := ⟨RX5, "blocksIfStarted", "(II)I"⟩
abbrev cX5_foldSlots : ByteArray := prog_1_method_40_code
def yX5_foldSlots : MethodName := ⟨RX5, "foldSlots", "(J)J"⟩
abbrev cX5_foldBlocks : ByteArray := prog_1_method_41_code
def yX5_foldBlocks : MethodName := ⟨RX5, "foldBlocks", "(J)J"⟩
abbrev cX5_foldTrials : ByteArray := prog_1_method_42_code
def yX5_foldTrials : MethodName := ⟨RX5, "foldTrials", "(J)J"⟩
abbrev cX5_doubleBits : ByteArray := prog_1_method_43_code
def yX5_doubleBits : MethodName := ⟨RX5, "doubleBits", "(D)J"⟩
abbrev cX5_floatBits : ByteArray := prog_1_method_44_code
def yX5_floatBits : MethodName := ⟨RX5, "floatBits", "(F)J"⟩
abbrev cX5_bits : ByteArray := prog_1_method_45_code
def yX5_bits : MethodName := ⟨RX5, "bits", "(DIID)J"⟩
def RX6 : String := "StickPairsModel"
def TX6 : u_T := fun k => match k with
  | 0 => ("StickPairsModel", "thrown", "I", false)
  | 1 => ("StickPairsModel", "z", "[I", true)
  | 2 => ("StickPairsModel", "aside", "[I", true)
  | 3 => ("StickPairsModel", "saved", "[I", true)
  | 4 => ("StickPairsModel", "saves", "I", false)
  | 5 => ("StickPairsModel", "kept", "[I", true)
  | 6 => ("StickPairsModel", "isKept", "Z", false)
  | 7 => ("StickPairsModel", "text", "[I", true)
  | 8 => ("StickPairsModel", "length", "I", false)
  | 9 => ("StickPairsModel", "from", "I", false)
  | _ => ("StickPairsModel", "to", "I", false)
def tyX6 : Nat → FieldType := fun k => match k with
  | 0 => .int
  | 1 => .array .int
  | 2 => .array .int
  | 3 => .array .int
  | 4 => .int
  | 5 => .array .int
  | 6 => .boolean
  | 7 => .array .int
  | 8 => .int
  | 9 => .int
  | _ => .int
abbrev wsX60 : List Cond := u_ws RX6 TX6 11
theorem nmX6 : ∀ a, a < 11 → ∀ b, b < 11 → a ≠ b → (TX6 a).2.1 ≠ (TX6 b).2.1 := by decide +kernel
theorem tyX6_ok : ∀ k, k < 11 → parseFieldDescriptor (TX6 k).2.2.1 = some (tyX6 k) := by decide +kernel
abbrev cX6_init : ByteArray := prog_8_method_1_code
def yX6_init : MethodName := ⟨RX6, "<init>", "()V"⟩
abbrev cX6_thrown : ByteArray := prog_8_method_2_code
def yX6_thrown : MethodName := ⟨RX6, "thrown", "()I"⟩
abbrev cX6_in : ByteArray := prog_8_method_3_code
def yX6_in : MethodName := ⟨RX6, "in", "(III)Z"⟩
abbrev cX6_isSlot : ByteArray := prog_8_method_4_code
def yX6_isSlot : MethodName := ⟨RX6, "isSlot", "(I)Z"⟩
abbrev cX6_of : ByteArray := prog_8_method_5_code
def yX6_of : MethodName := ⟨RX6, "of", "(II)I"⟩
abbrev cX6_put : ByteArray := prog_8_method_6_code
def yX6_put : MethodName := ⟨RX6, "put", "(III)V"⟩
abbrev cX6_isThere : ByteArray := prog_8_method_7_code
def yX6_isThere : MethodName := ⟨RX6, "isThere", "(I)Z"⟩
abbrev cX6_isLeft : ByteArray := prog_8_method_8_code
def yX6_isLeft : MethodName := ⟨RX6, "isLeft", "(I)Z"⟩
abbrev cX6_record : ByteArray := prog_8_method_9_code
def yX6_record : MethodName := ⟨RX6, "record", "()V"⟩
abbrev cX6_undo : ByteArray := prog_8_method_10_code
def yX6_undo : MethodName := ⟨RX6, "undo", "()I"⟩
abbrev cX6_keep : ByteArray := prog_8_method_11_code
def yX6_keep : MethodName := ⟨RX6, "keep", "()I"⟩
abbrev cX6_goBack : ByteArray := prog_8_method_12_code
def yX6_goBack : MethodName := ⟨RX6, "goBack", "()I"⟩
abbrev cX6_putAside : ByteArray := prog_8_method_13_code
def yX6_putAside : MethodName := ⟨RX6, "putAside", "()V"⟩
abbrev cX6_putBack : ByteArray := prog_8_method_14_code
def yX6_putBack : MethodName := ⟨RX6, "putBack", "()V"⟩
abbrev cX6_room : ByteArray := prog_8_method_15_code
def yX6_room : MethodName := ⟨RX6, "room", "(I)I"⟩
abbrev cX6_lesserRoom : ByteArray := prog_8_method_16_code
def yX6_lesserRoom : MethodName := ⟨RX6, "lesserRoom", "()I"⟩
abbrev cX6_blocks : ByteArray := prog_8_method_17_code
def yX6_blocks : MethodName := ⟨RX6, "blocks", "()I"⟩
abbrev cX6_wideBlocks : ByteArray := prog_8_method_18_code
def yX6_wideBlocks : MethodName := ⟨RX6, "wideBlocks", "()I"⟩
abbrev cX6_isBlock : ByteArray := prog_8_method_19_code
def yX6_isBlock : MethodName := ⟨RX6, "isBlock", "(I)Z"⟩
abbrev cX6_channelOf : ByteArray := prog_8_method_20_code
def yX6_channelOf : MethodName := ⟨RX6, "channelOf", "(I)I"⟩
abbrev cX6_inChannel : ByteArray := prog_8_method_21_code
def yX6_inChannel : MethodName := ⟨RX6, "inChannel", "(I)I"⟩
abbrev cX6_slotIn : ByteArray := prog_8_method_22_code
def yX6_slotIn : MethodName := ⟨RX6, "slotIn", "(II)I"⟩
abbrev cX6_numberIn : ByteArray := prog_8_method_23_code
def yX6_numberIn : MethodName := ⟨RX6, "numberIn", "(II)I"⟩
abbrev cX6_slotOf : ByteArray := prog_8_method_24_code
def yX6_slotOf : MethodName := ⟨RX6, "slotOf", "(I)I"⟩
abbrev cX6_numberOf : ByteArray := prog_8_method_25_code
def yX6_numberOf : MethodName := ⟨RX6, "numberOf", "(I)I"⟩
abbrev cX6_secondSlot : ByteArray := prog_8_method_26_code
def yX6_secondSlot : MethodName := ⟨RX6, "secondSlot", "(I)I"⟩
abbrev cX6_secondNumber : ByteArray := prog_8_method_27_code
def yX6_secondNumber : MethodName := ⟨RX6, "secondNumber", "(I)I"⟩
abbrev cX6_isLeftFor : ByteArray := prog_8_method_28_code
def yX6_isLeftFor : MethodName := ⟨RX6, "isLeftFor", "(I)Z"⟩
abbrev cX6_readSlot : ByteArray := prog_8_method_29_code
def yX6_readSlot : MethodName := ⟨RX6, "readSlot", "(I)I"⟩
abbrev cX6_readNumber : ByteArray := prog_8_method_30_code
def yX6_readNumber : MethodName := ⟨RX6, "readNumber", "(I)I"⟩
abbrev cX6_valueOf : ByteArray := prog_8_method_31_code
def yX6_valueOf : MethodName := ⟨RX6, "valueOf", "(I)I"⟩
abbrev cX6_blockAt : ByteArray := prog_8_method_32_code
def yX6_blockAt : MethodName := ⟨RX6, "blockAt", "(II)I"⟩
abbrev cX6_used : ByteArray := prog_8_method_33_code
def yX6_used : MethodName := ⟨RX6, "used", "(I)I"⟩
abbrev cX6_forgetMap : ByteArray := prog_8_method_34_code
def yX6_forgetMap : MethodName := ⟨RX6, "forgetMap", "()V"⟩
abbrev cX6_goodRoom : ByteArray := prog_8_method_35_code
def yX6_goodRoom : MethodName := ⟨RX6, "goodRoom", "(I)I"⟩
abbrev cX6_whyNot : ByteArray := prog_8_method_36_code
def yX6_whyNot : MethodName := ⟨RX6, "whyNot", "(I)I"⟩
abbrev cX6_makeMap : ByteArray := prog_8_method_37_code
def yX6_makeMap : MethodName := ⟨RX6, "makeMap", "(I)V"⟩
abbrev cX6_plug : ByteArray := prog_8_method_38_code
def yX6_plug : MethodName := ⟨RX6, "plug", "(IIII)I"⟩
abbrev cX6_sticks : ByteArray := prog_8_method_39_code
def yX6_sticks : MethodName := ⟨RX6, "sticks", "(Z)I"⟩
abbrev cX6_pull : ByteArray := prog_8_method_40_code
def yX6_pull : MethodName := ⟨RX6, "pull", "(I)I"⟩
abbrev cX6_fail : ByteArray := prog_8_method_41_code
def yX6_fail : MethodName := ⟨RX6, "fail", "(I)I"⟩
abbrev cX6_start : ByteArray := prog_8_method_42_code
def yX6_start : MethodName := ⟨RX6, "start", "()I"⟩
abbrev cX6_stop : ByteArray := prog_8_method_43_code
def yX6_stop : MethodName := ⟨RX6, "stop", "()I"⟩
abbrev cX6_write : ByteArray := prog_8_method_44_code
def yX6_write : MethodName := ⟨RX6, "write", "(II)I"⟩
abbrev cX6_rankOf : ByteArray := prog_8_method_45_code
def yX6_rankOf : MethodName := ⟨RX6, "rankOf", "(II)I"⟩
abbrev cX6_freeFrom : ByteArray := prog_8_method_46_code
def yX6_freeFrom : MethodName := ⟨RX6, "freeFrom", "(I)I"⟩
abbrev cX6_waitFor : ByteArray := prog_8_method_47_code
def yX6_waitFor : MethodName := ⟨RX6, "waitFor", "(I)V"⟩
abbrev cX6_readNow : ByteArray := prog_8_method_48_code
def yX6_readNow : MethodName := ⟨RX6, "readNow", "(I)I"⟩
abbrev cX6_doRead : ByteArray := prog_8_method_49_code
def yX6_doRead : MethodName := ⟨RX6, "doRead", "(I)I"⟩
abbrev cX6_readPair : ByteArray := prog_8_method_50_code
def yX6_readPair : MethodName := ⟨RX6, "readPair", "(I)I"⟩
abbrev cX6_read : ByteArray := prog_8_method_51_code
def yX6_read : MethodName := ⟨RX6, "read", "(I)I"⟩
abbrev cX6_rest : ByteArray := prog_8_method_52_code
def yX6_rest : MethodName := ⟨RX6, "rest", "(I)I"⟩
abbrev cX6_set : ByteArray := prog_8_method_53_code
def yX6_set : MethodName := ⟨RX6, "set", "(II)I"⟩
abbrev cX6_append : ByteArray := prog_8_method_54_code
def yX6_append : MethodName := ⟨RX6, "append", "(I)I"⟩
abbrev cX6_clearBuffer : ByteArray := prog_8_method_55_code
def yX6_clearBuffer : MethodName := ⟨RX6, "clearBuffer", "()I"⟩
abbrev cX6_at : ByteArray := prog_8_method_56_code
def yX6_at : MethodName := ⟨RX6, "at", "(I)I"⟩
abbrev cX6_takeBlock : ByteArray := prog_8_method_57_code
def yX6_takeBlock : MethodName := ⟨RX6, "takeBlock", "(I)I"⟩
abbrev cX6_takePart : ByteArray := prog_8_method_58_code
def yX6_takePart : MethodName := ⟨RX6, "takePart", "(I)I"⟩
abbrev cX6_findError : ByteArray := prog_8_method_59_code
def yX6_findError : MethodName := ⟨RX6, "findError", "()I"⟩
abbrev cX6_firstError : ByteArray := prog_8_method_60_code
def yX6_firstError : MethodName := ⟨RX6, "firstError", "()I"⟩
abbrev cX6_areRising : ByteArray := prog_8_method_61_code
def yX6_areRising : MethodName := ⟨RX6, "areRising", "()Z"⟩
abbrev cX6_canRead : ByteArray := prog_8_method_62_code
def yX6_canRead : MethodName := ⟨RX6, "canRead", "(I)Z"⟩
abbrev cX6_run : ByteArray := prog_8_method_63_code
def yX6_run : MethodName := ⟨RX6, "run", "()I"⟩
abbrev cX6_slotNow : ByteArray := prog_8_method_64_code
def yX6_slotNow : MethodName := ⟨RX6, "slotNow", "(II)I"⟩
abbrev cX6_slot : ByteArray := prog_8_method_65_code
def yX6_slot : MethodName := ⟨RX6, "slot", "(II)I"⟩
abbrev cX6_whereNow : ByteArray := prog_8_method_66_code
def yX6_whereNow : MethodName := ⟨RX6, "whereNow", "(II)I"⟩
abbrev cX6_where : ByteArray := prog_8_method_67_code
def yX6_where : MethodName := ⟨RX6, "where", "(II)I"⟩
abbrev cX6_lies : ByteArray := prog_8_method_68_code
def yX6_lies : MethodName := ⟨RX6, "lies", "(II)I"⟩
abbrev cX6_lost : ByteArray := prog_8_method_69_code
def yX6_lost : MethodName := ⟨RX6, "lost", "()I"⟩
abbrev cX6_values : ByteArray := prog_8_method_70_code
def yX6_values : MethodName := ⟨RX6, "values", "()I"⟩
abbrev cX6_countNow : ByteArray := prog_8_method_71_code
def yX6_countNow : MethodName := ⟨RX6, "countNow", "(I)I"⟩
abbrev cX6_count : ByteArray := prog_8_method_72_code
def yX6_count : MethodName := ⟨RX6, "count", "(I)I"⟩
abbrev cX6_setting : ByteArray := prog_8_method_73_code
def yX6_setting : MethodName := ⟨RX6, "setting", "(I)I"⟩
abbrev cX6_why : ByteArray := prog_8_method_74_code
def yX6_why : MethodName := ⟨RX6, "why", "()I"⟩
abbrev cX6_swept : ByteArray := prog_8_method_75_code
def yX6_swept : MethodName := ⟨RX6, "swept", "(I)I"⟩
abbrev cX6_sweep : ByteArray := prog_8_method_76_code
def yX6_sweep : MethodName := ⟨RX6, "sweep", "(I)I"⟩
abbrev cX6_started : ByteArray := prog_8_method_77_code
def yX6_started : MethodName := ⟨RX6, "started", "(II)I"⟩
abbrev cX6_ifStarted : ByteArray := prog_8_method_78_code
def yX6_ifStarted : MethodName := ⟨RX6, "ifStarted", "(II)I"⟩
abbrev cX6_exchange : ByteArray := prog_8_method_79_code
def yX6_exchange : MethodName := ⟨RX6, "exchange", "(II)V"⟩
abbrev cX6_goodWide : ByteArray := prog_8_method_80_code
def yX6_goodWide : MethodName := ⟨RX6, "goodWide", "()I"⟩
abbrev cX6_findChange : ByteArray := prog_8_method_81_code
def yX6_findChange : MethodName := ⟨RX6, "findChange", "()I"⟩
abbrev cX6_bestChange : ByteArray := prog_8_method_82_code
def yX6_bestChange : MethodName := ⟨RX6, "bestChange", "()I"⟩
abbrev cX6_share : ByteArray := prog_8_method_83_code
def yX6_share : MethodName := ⟨RX6, "share", "()D"⟩
abbrev cX6_wideShare : ByteArray := prog_8_method_84_code
def yX6_wideShare : MethodName := ⟨RX6, "wideShare", "()D"⟩
abbrev cX6_mean : ByteArray := prog_8_method_85_code
def yX6_mean : MethodName := ⟨RX6, "mean", "()F"⟩
abbrev cX6_meanTicks : ByteArray := prog_8_method_86_code
def yX6_meanTicks : MethodName := ⟨RX6, "meanTicks", "()F"⟩
abbrev cX6_digest : ByteArray := prog_8_method_87_code
def yX6_digest : MethodName := ⟨RX6, "digest", "()J"⟩
def RJx145de : String := "java/io/Serializable"
def RJxb160c : String := "java/lang/Comparable"
def RJxe99ae : String := "java/lang/Double"
abbrev cJxe99ae_isNaN_b9ae7 : ByteArray := prog_9_method_6_code
def yJxe99ae_isNaN_b9ae7 : MethodName := ⟨RJxe99ae, "isNaN", "(D)Z"⟩
abbrev cJxe99ae_doubleToLongBits_ccdee : ByteArray := prog_9_method_23_code
def yJxe99ae_doubleToLongBits_ccdee : MethodName := ⟨RJxe99ae, "doubleToLongBits", "(D)J"⟩
def RJxf58ca : String := "java/lang/Float"
abbrev cJxf58ca_isNaN_12338 : ByteArray := prog_11_method_6_code
def yJxf58ca_isNaN_12338 : MethodName := ⟨RJxf58ca, "isNaN", "(F)Z"⟩
abbrev cJxf58ca_floatToIntBits_5c35a : ByteArray := prog_11_method_24_code
def yJxf58ca_floatToIntBits_5c35a : MethodName := ⟨RJxf58ca, "floatToIntBits", "(F)I"⟩
def RJ9 : String := "java/lang/Math"
abbrev cJ9_min_7cf53 : ByteArray := prog_15_method_69_code
def yJ9_min_7cf53 : MethodName := ⟨RJ9, "min", "(II)I"⟩
def RJxd2413 : String := "java/lang/Number"
def RJ0 : String := "java/lang/String"
def RJ10 : String := "java/lang/System"
def RJxfd54e : String := "java/lang/constant/Constable"
def RJx3cf43 : String := "java/lang/constant/ConstantDesc"
def RJ7 : String := "java/util/Arrays"
abbrev cJ7_fill_53178 : ByteArray := prog_21_method_103_code
def yJ7_fill_53178 : MethodName := ⟨RJ7, "fill", "([II)V"⟩
def RL : String := "StickPairsLaw"
abbrev cL_plug : ByteArray := method_3_code
def yL_plug : MethodName := ⟨RL, "plug", "(LStickPairs;IIII[J)I"⟩
abbrev cL_pull : ByteArray := method_4_code
def yL_pull : MethodName := ⟨RL, "pull", "(LStickPairs;I[J)I"⟩
abbrev cL_fail : ByteArray := method_5_code
def yL_fail : MethodName := ⟨RL, "fail", "(LStickPairs;I[J)I"⟩
abbrev cL_start : ByteArray := method_6_code
def yL_start : MethodName := ⟨RL, "start", "(LStickPairs;[J)I"⟩
abbrev cL_stop : ByteArray := method_7_code
def yL_stop : MethodName := ⟨RL, "stop", "(LStickPairs;[J)I"⟩
abbrev cL_write : ByteArray := method_8_code
def yL_write : MethodName := ⟨RL, "write", "(LStickPairs;II[J)I"⟩
abbrev cL_read : ByteArray := method_9_code
def yL_read : MethodName := ⟨RL, "read", "(LStickPairs;I[J)I"⟩
abbrev cL_rest : ByteArray := method_10_code
def yL_rest : MethodName := ⟨RL, "rest", "(LStickPairs;I[J)I"⟩
abbrev cL_set : ByteArray := method_11_code
def yL_set : MethodName := ⟨RL, "set", "(LStickPairs;II[J)I"⟩
abbrev cL_append : ByteArray := method_12_code
def yL_append : MethodName := ⟨RL, "append", "(LStickPairs;I[J)I"⟩
abbrev cL_run : ByteArray := method_13_code
def yL_run : MethodName := ⟨RL, "run", "(LStickPairs;[J)I"⟩
abbrev cL_goBack : ByteArray := method_14_code
def yL_goBack : MethodName := ⟨RL, "goBack", "(LStickPairs;[J)I"⟩
abbrev cL_undo : ByteArray := method_15_code
def yL_undo : MethodName := ⟨RL, "undo", "(LStickPairs;[J)I"⟩
abbrev cL_slot : ByteArray := method_16_code
def yL_slot : MethodName := ⟨RL, "slot", "(LStickPairs;II[J)I"⟩
abbrev cL_where : ByteArray := method_17_code
def yL_where : MethodName := ⟨RL, "where", "(LStickPairs;II[J)I"⟩
abbrev cL_lies : ByteArray := method_18_code
def yL_lies : MethodName := ⟨RL, "lies", "(LStickPairs;II[J)I"⟩
abbrev cL_count : ByteArray := method_19_code
def yL_count : MethodName := ⟨RL, "count", "(LStickPairs;I[J)I"⟩
abbrev cL_setting : ByteArray := method_20_code
def yL_setting : MethodName := ⟨RL, "setting", "(LStickPairs;I[J)I"⟩
abbrev cL_sweep : ByteArray := method_21_code
def yL_sweep : MethodName := ⟨RL, "sweep", "(LStickPairs;I[J)I"⟩
abbrev cL_ifStarted : ByteArray := method_22_code
def yL_ifStarted : MethodName := ⟨RL, "ifStarted", "(LStickPairs;II[J)I"⟩
abbrev cL_law : ByteArray := code
def yL_law : MethodName := ⟨RL, "law", "([I)Z"⟩
abbrev vwCl : List vw_C := [(RX0, TX0, 3), (RX1, TX1, 7), (RX2, TX2, 9), (RX3, TX3, 6), (RX4, TX4, 7), (RX5, TX5, 8), (RX6, TX6, 11)]
end
section
-- ===== the good words of the tables; every method carries them =====
def gw : List Cond := lw_tbl.filter goodWord
theorem gwm {w : Cond} {i : Nat} (h : lw_tbl[i]? = some w) (g : goodWord w = true) : w ∈ gw := List.mem_filter.mpr ⟨List.mem_of_getElem? h, g⟩
theorem gw_good {w : Cond} (h : w ∈ gw) : goodWord w = true := (List.mem_filter.mp h).2
theorem gw_in {ws : List Cond} (h : ∀ w ∈ ws, w ∈ gw) : GoodIn gw ws := fun w hw => ⟨h w hw, good_of_word (gw_good (h w hw))⟩
abbrev gws (y : MethodName) (cc : ByteArray) (n : Nat) (ret : Option FieldType) : List Cond := Cond.code y cc n ret :: gw
theorem gws_in {y : MethodName} {cc : ByteArray} {n : Nat} {ret : Option FieldType} (h : Cond.code y cc n ret ∈ gw) : GoodIn gw (gws y cc n ret) := gw_in (fun w hw => by
  rcases List.mem_cons.mp hw with e | e
  · rw [e]; exact h
  · exact e)
-- ===== the values of the system =====
abbrev VSk : Type := (Nat → Int32) × (Nat → Int32) × (Nat → Int32) × (Nat → Int32) × (Nat → Int32) × (Nat → Int32)
abbrev VLy : Type := Int32 × (Nat → Int32) × Int32 × Int32 × Int32 × Int32 × Int32
abbrev VCk : Type := (Nat → Int32) × Int32 × Int32
abbrev VI5 : Type := Int32 × Int32 × Int32 × Int32 × Int32
abbrev VSt : Type := VSk × VLy × VCk × (Nat → Int32) × VI5
abbrev VTx : Type := (Nat → Int32) × Int32 × (Nat → Int32) × (Nat → Int32) × Int32 × Int32 × Int32
abbrev VSp : Type := Int32 × Int32 × (Nat → Nat)
abbrev VC : Type := (Nat → VSk) × (Nat → VLy) × (Nat → VCk) × (Nat → Nat → Int32) × (Nat → VI5) × VTx × VSp
abbrev VM : Type := Int32 × (Nat → Int32) × (Nat → Int32) × (Nat → Int32) × Int32 × (Nat → Int32) × Int32 × (Nat → Int32) × Int32 × Int32 × Int32
abbrev VR : Type := VM × (Nat → Int64)
abbrev VA : Type := VC × VR
-- setting parts
def sSk (c : VC) (k : Nat) (v : VSk) : VC := (va_up c.1 k v, c.2)
def sLy (c : VC) (k : Nat) (v : VLy) : VC := (c.1, va_up c.2.1 k v, c.2.2)
def sCk (c : VC) (k : Nat) (v : VCk) : VC := (c.1, c.2.1, va_up c.2.2.1 k v, c.2.2.2)
def sVl (c : VC) (k : Nat) (v : Nat → Int32) : VC := (c.1, c.2.1, c.2.2.1, va_up c.2.2.2.1 k v, c.2.2.2.2)
def sI5 (c : VC) (k : Nat) (v : VI5) : VC := (c.1, c.2.1, c.2.2.1, c.2.2.2.1, va_up c.2.2.2.2.1 k v, c.2.2.2.2.2)
def sTx (c : VC) (v : VTx) : VC := (c.1, c.2.1, c.2.2.1, c.2.2.2.1, c.2.2.2.2.1, v, c.2.2.2.2.2.2)
def sSp (c : VC) (v : VSp) : VC := (c.1, c.2.1, c.2.2.1, c.2.2.2.1, c.2.2.2.2.1, c.2.2.2.2.2.1, v)
def gSt (c : VC) (k : Nat) : VSt := (c.1 k, c.2.1 k, c.2.2.1 k, c.2.2.2.1 k, c.2.2.2.2.1 k)
def sSt (c : VC) (k : Nat) (v : VSt) : VC := (va_up c.1 k v.1, va_up c.2.1 k v.2.1, va_up c.2.2.1 k v.2.2.1, va_up c.2.2.2.1 k v.2.2.2.1, va_up c.2.2.2.2.1 k v.2.2.2.2, c.2.2.2.2.2)
theorem va_up_up {α : Type} (f : Nat → α) (k : Nat) (a b : α) : va_up (va_up f k a) k b = va_up f k b := by funext j; unfold va_up; split <;> rfl
theorem va_up_id {α : Type} (f : Nat → α) (k : Nat) {a : α} (h : f k = a) : va_up f k a = f := by funext j; unfold va_up; split <;> simp_all
theorem sSk_id {c : VC} {k : Nat} {v : VSk} (h : c.1 k = v) : sSk c k v = c := by unfold sSk; rw [va_up_id _ _ h]
theorem sSk_get (c : VC) (k : Nat) (v : VSk) : (sSk c k v).1 k = v := va_up_self _ _ _
theorem sSk_up (c : VC) (k : Nat) (v w : VSk) : sSk (sSk c k v) k w = sSk c k w := by unfold sSk; simp only [va_up_up]
theorem sLy_id {c : VC} {k : Nat} {v : VLy} (h : c.2.1 k = v) : sLy c k v = c := by unfold sLy; rw [va_up_id _ _ h]
theorem sLy_get (c : VC) (k : Nat) (v : VLy) : (sLy c k v).2.1 k = v := va_up_self _ _ _
theorem sLy_up (c : VC) (k : Nat) (v w : VLy) : sLy (sLy c k v) k w = sLy c k w := by unfold sLy; simp only [va_up_up]
theorem sCk_id {c : VC} {k : Nat} {v : VCk} (h : c.2.2.1 k = v) : sCk c k v = c := by unfold sCk; rw [va_up_id _ _ h]
theorem sCk_get (c : VC) (k : Nat) (v : VCk) : (sCk c k v).2.2.1 k = v := va_up_self _ _ _
theorem sCk_up (c : VC) (k : Nat) (v w : VCk) : sCk (sCk c k v) k w = sCk c k w := by unfold sCk; simp only [va_up_up]
theorem sTx_id {c : VC} {v : VTx} (h : c.2.2.2.2.2.1 = v) : sTx c v = c := by subst h; rfl
theorem sSt_id {c : VC} {k : Nat} {v : VSt} (h : gSt c k = v) : sSt c k v = c := by subst h; unfold sSt gSt; simp only [va_up_id _ _ rfl]
theorem sSt_get (c : VC) (k : Nat) (v : VSt) : gSt (sSt c k v) k = v := by unfold sSt gSt; simp only [va_up_self]
theorem sSt_up (c : VC) (k : Nat) (v w : VSt) : sSt (sSt c k v) k w = sSt c k w := by unfold sSt; simp only [va_up_up]
theorem sSt_g1 (c : VC) (k : Nat) (v : VSt) : (sSt c k v).1 k = v.1 := va_up_self _ _ _
theorem sSt_g2 (c : VC) (k : Nat) (v : VSt) : (sSt c k v).2.1 k = v.2.1 := va_up_self _ _ _
theorem sSt_g3 (c : VC) (k : Nat) (v : VSt) : (sSt c k v).2.2.1 k = v.2.2.1 := va_up_self _ _ _
theorem sSt_g4 (c : VC) (k : Nat) (v : VSt) : (sSt c k v).2.2.2.1 k = v.2.2.2.1 := va_up_self _ _ _
theorem sSt_g5 (c : VC) (k : Nat) (v : VSt) : (sSt c k v).2.2.2.2.1 k = v.2.2.2.2 := va_up_self _ _ _
theorem sSt_sSk (c : VC) (k : Nat) (v : VSt) (w : VSk) : sSk (sSt c k v) k w = sSt c k (w, v.2) := by unfold sSk sSt; simp only [va_up_up]
theorem sSt_sLy (c : VC) (k : Nat) (v : VSt) (w : VLy) : sLy (sSt c k v) k w = sSt c k (v.1, w, v.2.2) := by unfold sLy sSt; simp only [va_up_up]
theorem sSt_sCk (c : VC) (k : Nat) (v : VSt) (w : VCk) : sCk (sSt c k v) k w = sSt c k (v.1, v.2.1, w, v.2.2.2) := by unfold sCk sSt; simp only [va_up_up]
theorem sSt_sVl (c : VC) (k : Nat) (v : VSt) (w : Nat → Int32) : sVl (sSt c k v) k w = sSt c k (v.1, v.2.1, v.2.2.1, w, v.2.2.2.2) := by unfold sVl sSt; simp only [va_up_up]
theorem sSt_sI5 (c : VC) (k : Nat) (v : VSt) (w : VI5) : sI5 (sSt c k v) k w = sSt c k (v.1, v.2.1, v.2.2.1, v.2.2.2.1, w) := by unfold sI5 sSt; simp only [va_up_up]
-- ===== the cells =====
abbrev cI (cA : ClassId) (n : Nat) (f : Nat → Int32) : va_E := .inl (cA, n, .inl f)
def cSp (ad : Nat → Nat) (v : VSp) : va_E := .inr (5, [.ref (ad 6), .ref (ad 8), .int v.1, .ref (ad 1), .int v.2.1, .ref (ad 2), .ref (ad 94), .ref (ad 112)])
def cSv (cy : Nat → ClassId) (ad : Nat → Nat) (v : VSp) : va_E := .inl (cy 2, 6, .inr (.inr (.inr (.inr (fun i => some (ad (6 + 2 * v.2.2 i)))))))
def cTx (ad : Nat → Nat) (v : VTx) : va_E := .inr (4, [.ref (ad 3), .int v.2.1, .ref (ad 4), .ref (ad 5), .int v.2.2.2.2.1, .int v.2.2.2.2.2.1, .int v.2.2.2.2.2.2])
def cSt (ad : Nat → Nat) (k : Nat) (v : VI5) : va_E := .inr (2, [.ref (ad (22 + 7 * k)), .ref (ad (78 + 2 * k)), .ref (ad (96 + 2 * k)), .ref (ad (7 + 2 * k)), .int v.1, .int v.2.1, .int v.2.2.1, .int v.2.2.2.1, .int v.2.2.2.2])
def cSk (ad : Nat → Nat) (k : Nat) : va_E := .inr (3, [.ref (ad (23 + 7 * k)), .ref (ad (24 + 7 * k)), .ref (ad (25 + 7 * k)), .ref (ad (26 + 7 * k)), .ref (ad (27 + 7 * k)), .ref (ad (28 + 7 * k))])
def cLy (ad : Nat → Nat) (k : Nat) (v : VLy) : va_E := .inr (1, [.int v.1, .ref (ad (79 + 2 * k)), .int v.2.2.1, .int v.2.2.2.1, .int v.2.2.2.2.1, .int v.2.2.2.2.2.1, .int v.2.2.2.2.2.2])
def cCk (ad : Nat → Nat) (k : Nat) (v : VCk) : va_E := .inr (0, [.ref (ad (97 + 2 * k)), .int v.2.1, .int v.2.2])
def cMo (ad : Nat → Nat) (v : VM) : va_E := .inr (6, [.int v.1, .ref (ad 115), .ref (ad 116), .ref (ad 117), .int v.2.2.2.2.1, .ref (ad 118), .int v.2.2.2.2.2.2.1, .ref (ad 119), .int v.2.2.2.2.2.2.2.2.1, .int v.2.2.2.2.2.2.2.2.2.1, .int v.2.2.2.2.2.2.2.2.2.2])
def cOu (cy : Nat → ClassId) (v : Nat → Int64) : va_E := .inl (cy 3, 1, .inr (.inl v))
def skC (cy : Nat → ClassId) (ad : Nat → Nat) (k : Nat) (v : VSk) (j : Nat) : va_E :=
  if j = 0 then cSk ad k else if j = 1 then cI (cy 0) 4 v.1 else if j = 2 then cI (cy 0) 4 v.2.1 else if j = 3 then cI (cy 0) 4 v.2.2.1 else if j = 4 then cI (cy 0) 4 v.2.2.2.1 else if j = 5 then cI (cy 1) 4 v.2.2.2.2.1 else cI (cy 1) 4 v.2.2.2.2.2
def moC (cy : Nat → ClassId) (ad : Nat → Nat) (v : VR) (j : Nat) : va_E :=
  if j = 0 then cMo ad v.1 else if j = 1 then cI (cy 0) 96 v.1.2.1 else if j = 2 then cI (cy 0) 96 v.1.2.2.1 else if j = 3 then cI (cy 0) 576 v.1.2.2.2.1 else if j = 4 then cI (cy 0) 96 v.1.2.2.2.2.2.1 else if j = 5 then cI (cy 0) 60 v.1.2.2.2.2.2.2.2.1 else cOu cy v.2
def spC (cy : Nat → ClassId) (ad : Nat → Nat) (t : VTx) (v : VSp) (j : Nat) : va_E :=
  if j = 0 then cSp ad v else if j = 1 then cSv cy ad v else if j = 2 then cTx ad t else if j = 3 then cI (cy 0) 60 t.1 else if j = 4 then cI (cy 0) 30 t.2.2.1 else cI (cy 0) 30 t.2.2.2.1
def cellA (cy : Nat → ClassId) (ad : Nat → Nat) (V : VA) (i : Nat) : va_E :=
  if i < 6 then spC cy ad V.1.2.2.2.2.2.1 V.1.2.2.2.2.2.2 i
  else if i < 22 then (if (i - 6) % 2 = 0 then cSt ad ((i - 6) / 2) (V.1.2.2.2.2.1 ((i - 6) / 2)) else cI (cy 0) 48 (V.1.2.2.2.1 ((i - 6) / 2)))
  else if i < 78 then skC cy ad ((i - 22) / 7) (V.1.1 ((i - 22) / 7)) ((i - 22) % 7)
  else if i < 96 then (if (i - 78) % 2 = 0 then cLy ad ((i - 78) / 2) (V.1.2.1 ((i - 78) / 2)) else cI (cy 0) 4 (V.1.2.1 ((i - 78) / 2)).2.1)
  else if i < 114 then (if (i - 96) % 2 = 0 then cCk ad ((i - 96) / 2) (V.1.2.2.1 ((i - 96) / 2)) else cI (cy 0) 8 (V.1.2.2.1 ((i - 96) / 2)).1)
  else moC cy ad V.2 (i - 114)
-- what stands at each
section
variable {cy : Nat → ClassId} {ad : Nat → Nat} {c : VC} {w : VR} {k : Nat}
theorem at_sp {j : Nat} (h : j < 6) : cellA cy ad (c, w) j = spC cy ad c.2.2.2.2.2.1 c.2.2.2.2.2.2 j := by unfold cellA; rw [if_pos h]
theorem at_st (h : k < 8) : cellA cy ad (c, w) (6 + 2 * k) = cSt ad k (c.2.2.2.2.1 k) := by
  unfold cellA
  rw [if_neg (by omega), if_pos (by omega), if_pos (by omega), show (6 + 2 * k - 6) / 2 = k by omega]
theorem at_vl (h : k < 8) : cellA cy ad (c, w) (7 + 2 * k) = cI (cy 0) 48 (c.2.2.2.1 k) := by
  unfold cellA
  rw [if_neg (by omega), if_pos (by omega), if_neg (by omega), show (7 + 2 * k - 6) / 2 = k by omega]
theorem at_sk {j : Nat} (h : k < 8) (hj : j < 7) : cellA cy ad (c, w) (22 + j + 7 * k) = skC cy ad k (c.1 k) j := by
  unfold cellA
  rw [if_neg (by omega), if_neg (by omega), if_pos (by omega), show (22 + j + 7 * k - 22) / 7 = k by omega, show (22 + j + 7 * k - 22) % 7 = j by omega]
theorem at_ly (h : k < 9) : cellA cy ad (c, w) (78 + 2 * k) = cLy ad k (c.2.1 k) := by
  unfold cellA
  rw [if_neg (by omega), if_neg (by omega), if_neg (by omega), if_pos (by omega), if_pos (by omega), show (78 + 2 * k - 78) / 2 = k by omega]
theorem at_lr (h : k < 9) : cellA cy ad (c, w) (79 + 2 * k) = cI (cy 0) 4 (c.2.1 k).2.1 := by
  unfold cellA
  rw [if_neg (by omega), if_neg (by omega), if_neg (by omega), if_pos (by omega), if_neg (by omega), show (79 + 2 * k - 78) / 2 = k by omega]
theorem at_ck (h : k < 9) : cellA cy ad (c, w) (96 + 2 * k) = cCk ad k (c.2.2.1 k) := by
  unfold cellA
  rw [if_neg (by omega), if_neg (by omega), if_neg (by omega), if_neg (by omega), if_pos (by omega), if_pos (by omega), show (96 + 2 * k - 96) / 2 = k by omega]
theorem at_cr (h : k < 9) : cellA cy ad (c, w) (97 + 2 * k) = cI (cy 0) 8 (c.2.2.1 k).1 := by
  unfold cellA
  rw [if_neg (by omega), if_neg (by omega), if_neg (by omega), if_neg (by omega), if_pos (by omega), if_neg (by omega), show (97 + 2 * k - 96) / 2 = k by omega]
theorem at_mo {j : Nat} : cellA cy ad (c, w) (114 + j) = moC cy ad w j := by
  unfold cellA
  rw [if_neg (by omega), if_neg (by omega), if_neg (by omega), if_neg (by omega), if_neg (by omega), show 114 + j - 114 = j by omega]
end
-- one cell changes when one part does
theorem up_sk {cy : Nat → ClassId} {ad : Nat → Nat} {c : VC} {w : VR} {k j0 : Nat} {v : VSk} (h : k < 8) (hj : j0 < 7) (ho : ∀ j, j < 7 → j ≠ j0 → skC cy ad k v j = skC cy ad k (c.1 k) j) : ∀ i, i < 121 → va_up (cellA cy ad (c, w)) (22 + j0 + 7 * k) (skC cy ad k v j0) i = cellA cy ad (sSk c k v, w) i := by
  intro i hi
  by_cases e : i = 22 + j0 + 7 * k
  · rw [e, va_up_self, at_sk h hj, sSk_get]
  · rw [va_up_ne _ _ e]
    unfold cellA
    by_cases a1 : i < 6
    · rw [if_pos a1, if_pos a1]; rfl
    · rw [if_neg a1, if_neg a1]
      by_cases a2 : i < 22
      · rw [if_pos a2, if_pos a2]; rfl
      · rw [if_neg a2, if_neg a2]
        by_cases a3 : i < 78
        · rw [if_pos a3, if_pos a3]
          by_cases ek : (i - 22) / 7 = k
          · rw [ek]
            show _ = skC cy ad k ((sSk c k v).1 k) _
            rw [sSk_get]
            exact (ho _ (by omega) (by omega)).symm
          · show _ = skC cy ad _ (va_up c.1 k v _) _
            rw [va_up_ne _ _ ek]
        · rw [if_neg a3, if_neg a3]; rfl
theorem up_ly {cy : Nat → ClassId} {ad : Nat → Nat} {c : VC} {w : VR} {k : Nat} {v : VLy} (h : k < 9) (ho : v.2.1 = (c.2.1 k).2.1) : ∀ i, i < 121 → va_up (cellA cy ad (c, w)) (78 + 2 * k) (cLy ad k v) i = cellA cy ad (sLy c k v, w) i := by
  intro i hi
  by_cases e : i = 78 + 2 * k
  · rw [e, va_up_self, at_ly h, sLy_get]
  · rw [va_up_ne _ _ e]
    unfold cellA
    by_cases a1 : i < 6
    · rw [if_pos a1, if_pos a1]; rfl
    · rw [if_neg a1, if_neg a1]
      by_cases a2 : i < 22
      · rw [if_pos a2, if_pos a2]; rfl
      · rw [if_neg a2, if_neg a2]
        by_cases a3 : i < 78
        · rw [if_pos a3, if_pos a3]; rfl
        · rw [if_neg a3, if_neg a3]
          by_cases a4 : i < 96
          · rw [if_pos a4, if_pos a4]
            by_cases ek : (i - 78) / 2 = k
            · rw [ek, if_neg (by omega), if_neg (by omega)]
              show _ = cI (cy 0) 4 ((sLy c k v).2.1 k).2.1
              rw [sLy_get, ho]
            · show _ = if (i - 78) % 2 = 0 then cLy ad _ (va_up c.2.1 k v _) else cI (cy 0) 4 (va_up c.2.1 k v _).2.1
              rw [va_up_ne _ _ ek]
          · rw [if_neg a4, if_neg a4]; rfl
theorem up_lr {cy : Nat → ClassId} {ad : Nat → Nat} {c : VC} {w : VR} {k : Nat} {v : VLy} {f : Nat → Int32} (h : k < 9) (hv : c.2.1 k = v) : ∀ i, i < 121 → va_up (cellA cy ad (c, w)) (79 + 2 * k) (cI (cy 0) 4 f) i = cellA cy ad (sLy c k (v.1, f, v.2.2), w) i := by
  subst hv
  intro i hi
  by_cases e : i = 79 + 2 * k
  · rw [e, va_up_self, at_lr h, sLy_get]
  · rw [va_up_ne _ _ e]
    unfold cellA
    by_cases a1 : i < 6
    · rw [if_pos a1, if_pos a1]; rfl
    · rw [if_neg a1, if_neg a1]
      by_cases a2 : i < 22
      · rw [if_pos a2, if_pos a2]; rfl
      · rw [if_neg a2, if_neg a2]
        by_cases a3 : i < 78
        · rw [if_pos a3, if_pos a3]; rfl
        · rw [if_neg a3, if_neg a3]
          by_cases a4 : i < 96
          · rw [if_pos a4, if_pos a4]
            by_cases ek : (i - 78) / 2 = k
            · rw [ek, if_pos (by omega), if_pos (by omega)]
              show _ = cLy ad k ((sLy c k _).2.1 k)
              rw [sLy_get]
              rfl
            · show _ = if (i - 78) % 2 = 0 then cLy ad _ (va_up c.2.1 k _ _) else cI (cy 0) 4 (va_up c.2.1 k _ _).2.1
              rw [va_up_ne _ _ ek]
          · rw [if_neg a4, if_neg a4]; rfl
theorem up_ck {cy : Nat → ClassId} {ad : Nat → Nat} {c : VC} {w : VR} {k : Nat} {v : VCk} (h : k < 9) (ho : v.1 = (c.2.2.1 k).1) : ∀ i, i < 121 → va_up (cellA cy ad (c, w)) (96 + 2 * k) (cCk ad k v) i = cellA cy ad (sCk c k v, w) i := by
  intro i hi
  by_cases e : i = 96 + 2 * k
  · rw [e, va_up_self, at_ck h, sCk_get]
  · rw [va_up_ne _ _ e]
    unfold cellA
    by_cases a1 : i < 6
    · rw [if_pos a1, if_pos a1]; rfl
    · rw [if_neg a1, if_neg a1]
      by_cases a2 : i < 22
      · rw [if_pos a2, if_pos a2]; rfl
      · rw [if_neg a2, if_neg a2]
        by_cases a3 : i < 78
        · rw [if_pos a3, if_pos a3]; rfl
        · rw [if_neg a3, if_neg a3]
          by_cases a4 : i < 96
          · rw [if_pos a4, if_pos a4]; rfl
          · rw [if_neg a4, if_neg a4]
            by_cases a5 : i < 114
            · rw [if_pos a5, if_pos a5]
              by_cases ek : (i - 96) / 2 = k
              · rw [ek, if_neg (by omega), if_neg (by omega)]
                show _ = cI (cy 0) 8 ((sCk c k v).2.2.1 k).1
                rw [sCk_get, ho]
              · show _ = if (i - 96) % 2 = 0 then cCk ad _ (va_up c.2.2.1 k v _) else cI (cy 0) 8 (va_up c.2.2.1 k v _).1
                rw [va_up_ne _ _ ek]
            · rw [if_neg a5, if_neg a5]
theorem up_cr {cy : Nat → ClassId} {ad : Nat → Nat} {c : VC} {w : VR} {k : Nat} {v : VCk} {f : Nat → Int32} (h : k < 9) (hv : c.2.2.1 k = v) : ∀ i, i < 121 → va_up (cellA cy ad (c, w)) (97 + 2 * k) (cI (cy 0) 8 f) i = cellA cy ad (sCk c k (f, v.2), w) i := by
  subst hv
  intro i hi
  by_cases e : i = 97 + 2 * k
  · rw [e, va_up_self, at_cr h, sCk_get]
  · rw [va_up_ne _ _ e]
    unfold cellA
    by_cases a1 : i < 6
    · rw [if_pos a1, if_pos a1]; rfl
    · rw [if_neg a1, if_neg a1]
      by_cases a2 : i < 22
      · rw [if_pos a2, if_pos a2]; rfl
      · rw [if_neg a2, if_neg a2]
        by_cases a3 : i < 78
        · rw [if_pos a3, if_pos a3]; rfl
        · rw [if_neg a3, if_neg a3]
          by_cases a4 : i < 96
          · rw [if_pos a4, if_pos a4]; rfl
          · rw [if_neg a4, if_neg a4]
            by_cases a5 : i < 114
            · rw [if_pos a5, if_pos a5]
              by_cases ek : (i - 96) / 2 = k
              · rw [ek, if_pos (by omega), if_pos (by omega)]
                show _ = cCk ad k ((sCk c k _).2.2.1 k)
                rw [sCk_get]
                rfl
              · show _ = if (i - 96) % 2 = 0 then cCk ad _ (va_up c.2.2.1 k _ _) else cI (cy 0) 8 (va_up c.2.2.1 k _ _).1
                rw [va_up_ne _ _ ek]
            · rw [if_neg a5, if_neg a5]
theorem up_st {cy : Nat → ClassId} {ad : Nat → Nat} {c : VC} {w : VR} {k : Nat} {v : VI5} (h : k < 8) : ∀ i, i < 121 → va_up (cellA cy ad (c, w)) (6 + 2 * k) (cSt ad k v) i = cellA cy ad (sI5 c k v, w) i := by
  intro i hi
  by_cases e : i = 6 + 2 * k
  · rw [e, va_up_self, at_st h]
    show _ = cSt ad k (va_up c.2.2.2.2.1 k v k)
    rw [va_up_self]
  · rw [va_up_ne _ _ e]
    unfold cellA
    by_cases a1 : i < 6
    · rw [if_pos a1, if_pos a1]; rfl
    · rw [if_neg a1, if_neg a1]
      by_cases a2 : i < 22
      · rw [if_pos a2, if_pos a2]
        by_cases ek : (i - 6) / 2 = k
        · rw [ek, if_neg (by omega), if_neg (by omega)]; rfl
        · show _ = if (i - 6) % 2 = 0 then cSt ad _ (va_up c.2.2.2.2.1 k v _) else _
          rw [va_up_ne _ _ ek]
          rfl
      · rw [if_neg a2, if_neg a2]; rfl
theorem up_vl {cy : Nat → ClassId} {ad : Nat → Nat} {c : VC} {w : VR} {k : Nat} {v : Nat → Int32} (h : k < 8) : ∀ i, i < 121 → va_up (cellA cy ad (c, w)) (7 + 2 * k) (cI (cy 0) 48 v) i = cellA cy ad (sVl c k v, w) i := by
  intro i hi
  by_cases e : i = 7 + 2 * k
  · rw [e, va_up_self, at_vl h]
    show _ = cI (cy 0) 48 (va_up c.2.2.2.1 k v k)
    rw [va_up_self]
  · rw [va_up_ne _ _ e]
    unfold cellA
    by_cases a1 : i < 6
    · rw [if_pos a1, if_pos a1]; rfl
    · rw [if_neg a1, if_neg a1]
      by_cases a2 : i < 22
      · rw [if_pos a2, if_pos a2]
        by_cases ek : (i - 6) / 2 = k
        · rw [ek, if_pos (by omega), if_pos (by omega)]; rfl
        · show _ = if (i - 6) % 2 = 0 then _ else cI (cy 0) 48 (va_up c.2.2.2.1 k v _)
          rw [va_up_ne _ _ ek]
          rfl
      · rw [if_neg a2, if_neg a2]; rfl
theorem up_sp {cy : Nat → ClassId} {ad : Nat → Nat} {c : VC} {w : VR} {j0 : Nat} {t : VTx} {v : VSp} (hj : j0 < 6) (ho : ∀ j, j < 6 → j ≠ j0 → spC cy ad t v j = spC cy ad c.2.2.2.2.2.1 c.2.2.2.2.2.2 j) : ∀ i, i < 121 → va_up (cellA cy ad (c, w)) j0 (spC cy ad t v j0) i = cellA cy ad (sSp (sTx c t) v, w) i := by
  intro i hi
  by_cases e : i = j0
  · rw [e, va_up_self, at_sp hj]; rfl
  · rw [va_up_ne _ _ e]
    unfold cellA
    by_cases a1 : i < 6
    · rw [if_pos a1, if_pos a1]; exact (ho i a1 e).symm
    · rw [if_neg a1, if_neg a1]; rfl
theorem up_mo {cy : Nat → ClassId} {ad : Nat → Nat} {c : VC} {w w' : VR} {j0 : Nat} (ho : ∀ j, j < 7 → j ≠ j0 → moC cy ad w' j = moC cy ad w j) : ∀ i, i < 121 → va_up (cellA cy ad (c, w)) (114 + j0) (moC cy ad w' j0) i = cellA cy ad (c, w') i := by
  intro i hi
  by_cases e : i = 114 + j0
  · rw [e, va_up_self, at_mo]
  · rw [va_up_ne _ _ e]
    unfold cellA
    by_cases a1 : i < 6
    · rw [if_pos a1, if_pos a1]
    · rw [if_neg a1, if_neg a1]
      by_cases a2 : i < 22
      · rw [if_pos a2, if_pos a2]
      · rw [if_neg a2, if_neg a2]
        by_cases a3 : i < 78
        · rw [if_pos a3, if_pos a3]
        · rw [if_neg a3, if_neg a3]
          by_cases a4 : i < 96
          · rw [if_pos a4, if_pos a4]
          · rw [if_neg a4, if_neg a4]
            by_cases a5 : i < 114
            · rw [if_pos a5, if_pos a5]
            · rw [if_neg a5, if_neg a5]; exact (ho _ (by omega) (by omega)).symm
end
section
-- ===== the walk's context =====
abbrev GG : Type := va_G × (Nat → ClassId) × (Nat → Nat)
abbrev WX : Type := Program × Launch × Env × Room × State × MethodId × Array Value × List Frame × Method × Code × Nat × Nat
abbrev xp (X : WX) : Program := X.1
abbrev xl (X : WX) : Launch := X.2.1
abbrev xe (X : WX) : Env := X.2.2.1
abbrev xR (X : WX) : Room := X.2.2.2.1
abbrev xs (X : WX) : State := X.2.2.2.2.1
abbrev xm (X : WX) : MethodId := X.2.2.2.2.2.1
abbrev xa (X : WX) : Array Value := X.2.2.2.2.2.2.1
abbrev xb (X : WX) : List Frame := X.2.2.2.2.2.2.2.1
abbrev xM (X : WX) : Method := X.2.2.2.2.2.2.2.2.1
abbrev xc (X : WX) : Code := X.2.2.2.2.2.2.2.2.2.1
abbrev xk (X : WX) : Nat := X.2.2.2.2.2.2.2.2.2.2.1
abbrev xz (X : WX) : Nat := X.2.2.2.2.2.2.2.2.2.2.2
abbrev xW (X : WX) (H : Heap) (locs : List Loc) (Q : State → Prop) (g : JFrame) : Prop := W (xp X) (xl X) (xe X) (xR X) (xs X) (xm X) (xa X) (xb X) (xM X) (xc X) H locs (xk X) (xz X) Q g
def wld (G : GG) (V : VA) : va_W := (List.range 121).map (fun i => (G.2.2 i, cellA G.2.1 G.2.2 V i))
def tysG (G : GG) : List (ClassId × FieldType) := [(G.2.1 0, .int), (G.2.1 1, .boolean), (G.2.1 2, .object "StickPairs$State"), (G.2.1 3, .long)]
def Gok (G : GG) : Prop := ∀ i j, i < 121 → j < 121 → G.2.2 i = G.2.2 j → i = j
def AA (G : GG) (sz : Nat) : Nat → Prop := fun q => (∃ i, i < 121 ∧ q = G.2.2 i) ∨ sz ≤ q
def nestW : List Cond := (tables_1.filter (fun w => match w with
  | .methodLinkNest .. => true
  | .fieldLinkNest .. => true
  | _ => false))
def WK (G : GG) (U : State) : Prop := va_K G.1 vwCl (tysG G) U ∧ ∀ w ∈ nestW, va_Nw w U
theorem nestW_warm {w : Cond} (h : w ∈ nestW) {s U : State} (hW : s.WarmedH U.vm) (hZ : va_Nw w s) : va_Nw w U := by
  have h2 := (List.mem_filter.mp h).2
  cases w <;> first | (simp at h2; done) | exact hZ.warmM hW | exact hZ.warmF hW
theorem nestW_tab {w : Cond} (h : w ∈ nestW) : w.onTables = true := by
  have h2 := (List.mem_filter.mp h).2
  cases w <;> first | (simp at h2; done) | rfl
theorem WK.warm {G : GG} {s U : State} (hW : s.WarmedH U.vm) (h : WK G s) : WK G U := ⟨va_K.moved hW.alike h.1, fun w hw => nestW_warm hw hW (h.2 w hw)⟩
theorem WK.call {G : GG} {U : State} (g : JFrame) (mk : MethodId) (a : Array Value) (h : WK G U) : WK G (U.calling g mk a) := ⟨va_K.moved (u := U) (U := U.calling g mk a) (Vm.Alike.refl U.vm) h.1, fun w hw => va_Nw.same (u := U) (U := U.calling g mk a) (nestW_tab hw) rfl (h.2 w hw)⟩
def Cx (G : GG) (nL : Nat) (X : WX) (own : String) (cc : ByteArray) (d : Nat) : Prop :=
  (xp X).tables.exec = Jvm.exec ∧ (xc X).code = cc ∧ (xc X).maxLocals = nL ∧ (xs X).vm.findClass own = some (xm X).cls ∧ (∀ w ∈ gw, w.before (xa X) (xs X) = true) ∧ WK G (xs X) ∧ Gok G ∧ (xM X).locks = false ∧ d ≤ (xR X).frames ∧ 31 * d ≤ (xR X).locals ∧ xk X ≤ (xR X).cells ∧ xz X ≤ (xR X).slots
theorem wld_at (G : GG) (V : VA) {i : Nat} (h : i < 121) : (wld G V)[i]? = some (G.2.2 i, cellA G.2.1 G.2.2 V i) := by
  unfold wld
  rw [List.getElem?_map, List.getElem?_range h]; rfl
theorem wld_len (G : GG) (V : VA) : (wld G V).length = 121 := by unfold wld; rw [List.length_map, List.length_range]
theorem wld_lt {G : GG} {V : VA} {i : Nat} {q : Nat × va_E} (h : (wld G V)[i]? = some q) : i < 121 := by
  have := (List.getElem?_eq_some_iff.mp h).1
  rw [wld_len] at this
  exact this
theorem wld_fst {G : GG} {V : VA} {i : Nat} {q : Nat × va_E} (h : (wld G V)[i]? = some q) : q = (G.2.2 i, cellA G.2.1 G.2.2 V i) := by
  rw [wld_at G V (wld_lt h)] at h
  exact (Option.some.inj h).symm
theorem wld_D {G : GG} (hG : Gok G) (V : VA) (sz : Nat) : va_D (AA G sz) (wld G V) :=
  ⟨fun i j p q hi hj e => by
    have h1 := wld_fst hi
    have h2 := wld_fst hj
    subst h1; subst h2
    exact hG i j (wld_lt hi) (wld_lt hj) e,
   fun k q h => by
    have h1 := wld_fst h
    subst h1
    exact Or.inl ⟨k, wld_lt h, rfl⟩⟩
theorem wld_set {G : GG} {V V' : VA} {i : Nat} {x : va_E} (hi : i < 121) (h : ∀ j, j < 121 → va_up (cellA G.2.1 G.2.2 V) i x j = cellA G.2.1 G.2.2 V' j) : (wld G V).set i (G.2.2 i, x) = wld G V' := by
  apply List.ext_getElem?
  intro j
  rw [List.getElem?_set]
  by_cases hj : j < 121
  · rw [wld_at G V' hj, ← h j hj]
    by_cases e : i = j
    · subst e
      rw [if_pos rfl, if_pos (by rw [wld_len]; exact hi), va_up_self]
    · rw [if_neg e, wld_at G V hj, va_up_ne _ _ (fun z => e z.symm)]
  · have h1 : (wld G V')[j]? = none := List.getElem?_eq_none (by rw [wld_len]; omega)
    have h2 : (wld G V)[j]? = none := List.getElem?_eq_none (by rw [wld_len]; omega)
    rw [h1, if_neg (by omega), h2]
-- ===== the judgement: from here on the machine comes to Q, for the result that the program's picture sp has (none: nothing is said) =====
def J (G : GG) (nL : Nat) (X : WX) (Q : State → Prop) (V : VA) (pc : Nat) (L : List (Nat × Value)) (st : List Value) : Prop :=
  ∀ (H : Heap) (locs : List Loc) (ls : Array Slot), va_P G.1 vwCl (wld G V) H → va_S (AA G (xs X).heap.size) (xs X).heap H locs → lv_has ls nL L → xW X H locs Q (F0 (xm X) pc ls st)
def JS {ρ : Type} (G : GG) (nL : Nat) (X : WX) (Q : ρ → State → Prop) (sp : Option ρ) (V : VA) (pc : Nat) (L : List (Nat × Value)) (st : List Value) : Prop :=
  ∀ x, sp = some x → J G nL X (Q x) V pc L st
def ard (n : Nat) (f : Nat → Int32) (i : Int32) : Option Int32 := if i < 0 ∨ n ≤ i.toNatClampNeg then none else some (f i.toNatClampNeg)
def aup (n : Nat) (f : Nat → Int32) (i x : Int32) : Option (Nat → Int32) := if i < 0 ∨ n ≤ i.toNatClampNeg then none else some (upd f i.toNatClampNeg x)
def aupz (n : Nat) (f : Nat → Int32) (i x : Int32) : Option (Nat → Int32) := if i < 0 ∨ n ≤ i.toNatClampNeg then none else some (upd f i.toNatClampNeg (vp_nar .boolean x))
def acp (n0 n1 : Nat) (f g : Nat → Int32) (sp dp n : Int32) : Option (Nat → Int32) :=
  if sp < 0 ∨ dp < 0 ∨ n < 0 ∨ n0 < sp.toNatClampNeg + n.toNatClampNeg ∨ n1 < dp.toNatClampNeg + n.toNatClampNeg then none else some (va_cpy f g sp.toNatClampNeg dp.toNatClampNeg n.toNatClampNeg)
def rdp (n : Nat) (f : Nat → Nat) (i : Int32) : Option Nat := if i < 0 ∨ n ≤ i.toNatClampNeg then none else if f i.toNatClampNeg < 8 then some (f i.toNatClampNeg) else none
def wrp (n : Nat) (f : Nat → Nat) (i : Int32) (x : Nat) : Option (Nat → Nat) := if i < 0 ∨ n ≤ i.toNatClampNeg then none else some (va_up f i.toNatClampNeg x)
def bck (x : Int32) : Option Int32 := if x = 0 ∨ x = 1 then some x else none
def dck (x : UInt64) : Option UInt64 := if x &&& 0x7fffffffffffffff ≤ 0x7ff0000000000000 then some x else none
def fck (x : UInt32) : Option UInt32 := if x &&& 0x7fffffff ≤ 0x7f800000 then some x else none
theorem ard_in {n : Nat} {f : Nat → Int32} {i x : Int32} (h : ard n f i = some x) : vp_in i n ∧ x = f i.toNatClampNeg := by
  unfold ard at h
  split at h
  · cases h
  · next q => cases h; exact ⟨q, rfl⟩
theorem aup_in {n : Nat} {f g : Nat → Int32} {i x : Int32} (h : aup n f i x = some g) : vp_in i n ∧ g = upd f i.toNatClampNeg x := by
  unfold aup at h
  split at h
  · cases h
  · next q => cases h; exact ⟨q, rfl⟩
theorem aupz_in {n : Nat} {f g : Nat → Int32} {i x : Int32} (h : aupz n f i x = some g) : vp_in i n ∧ g = upd f i.toNatClampNeg (vp_nar .boolean x) := by
  unfold aupz at h
  split at h
  · cases h
  · next q => cases h; exact ⟨q, rfl⟩
theorem rdp_in {n : Nat} {f : Nat → Nat} {i : Int32} {x : Nat} (h : rdp n f i = some x) : vp_in i n ∧ x = f i.toNatClampNeg ∧ x < 8 := by
  unfold rdp at h
  split at h
  · cases h
  · next q =>
    split at h
    · next q2 => cases h; exact ⟨q, rfl, q2⟩
    · cases h
theorem wrp_in {n : Nat} {f g : Nat → Nat} {i : Int32} {x : Nat} (h : wrp n f i x = some g) : vp_in i n ∧ g = va_up f i.toNatClampNeg x := by
  unfold wrp at h
  split at h
  · cases h
  · next q => cases h; exact ⟨q, rfl⟩
section
variable {ρ : Type} {G : GG} {nL : Nat} {X : WX} {Q : ρ → State → Prop} {sp : Option ρ} {V : VA} {L : List (Nat × Value)} {st : List Value} {own : String} {cc : ByteArray} {d : Nat}
theorem j_none {pc : Nat} : JS G nL X Q none V pc L st := fun _ h => by cases h
theorem j_bind {α : Type} {f : Option α} {k : α → Option ρ} {pc : Nat} (h : ∀ a, f = some a → JS G nL X Q (k a) V pc L st) : JS G nL X Q (f.bind k) V pc L st := by
  intro x hx
  cases e : f with
  | none => rw [e] at hx; cases hx
  | some a => rw [e] at hx; exact h a e x hx
theorem j_V {V' : VA} {pc : Nat} (h : V = V') (k : JS G nL X Q sp V' pc L st) : JS G nL X Q sp V pc L st := h ▸ k
theorem j_L {L' : List (Nat × Value)} {pc : Nat} (ks : List Nat) (hl : lv_pick L ks = L') (k : JS G nL X Q sp V pc L' st) : JS G nL X Q sp V pc L st := fun x0 h0 H locs ls hP hS h => k x0 h0 H locs ls hP hS (lv_sub h ks hl)
theorem j_iconst (C : Cx G nL X own cc d) {n : Int} {v : Int32} (pc : Nat) (hd : decode cc pc = .ok (.iconst n, 1)) (hv : Int32.ofInt n = v)
    (k : JS G nL X Q sp V (pc + 1) L (.int v :: st)) : JS G nL X Q sp V pc L st :=
  fun x0 h0 H locs ls hP hS hl => lv_iconst C.1 C.2.1 hd hv (k x0 h0 H locs ls hP hS hl)
theorem j_bipush (C : Cx G nL X own cc d) {n : Int} {v : Int32} (pc : Nat) (hd : decode cc pc = .ok (.bipush n, 2)) (hv : (Int8.ofInt n).toInt32 = v)
    (k : JS G nL X Q sp V (pc + 2) L (.int v :: st)) : JS G nL X Q sp V pc L st :=
  fun x0 h0 H locs ls hP hS hl => lv_bipush C.1 C.2.1 hd hv (k x0 h0 H locs ls hP hS hl)
theorem j_sipush (C : Cx G nL X own cc d) {n : Int} {v : Int32} (pc : Nat) (hd : decode cc pc = .ok (.sipush n, 3)) (hv : (Int16.ofInt n).toInt32 = v)
    (k : JS G nL X Q sp V (pc + 3) L (.int v :: st)) : JS G nL X Q sp V pc L st :=
  fun x0 h0 H locs ls hP hS hl => lv_sipush C.1 C.2.1 hd hv (k x0 h0 H locs ls hP hS hl)
theorem j_lconst (C : Cx G nL X own cc d) {n : Fin 2} {v : Int64} (pc : Nat) (hd : decode cc pc = .ok (.lconst n, 1)) (hv : Int64.ofNat (n : Nat) = v)
    (k : JS G nL X Q sp V (pc + 1) L (.long v :: st)) : JS G nL X Q sp V pc L st :=
  fun x0 h0 H locs ls hP hS hl => lv_lconst C.1 C.2.1 hd hv (k x0 h0 H locs ls hP hS hl)
theorem j_iload_n (C : Cx G nL X own cc d) {n : Fin 4} {x : Int32} (pc : Nat) (q : Nat) (hq : L[q]? = some ((n : Nat), .int x)) (hd : decode cc pc = .ok (.iload_n n, 1))
    (k : JS G nL X Q sp V (pc + 1) L (.int x :: st)) : JS G nL X Q sp V pc L st :=
  fun x0 h0 H locs ls hP hS hl => lv_iload_n C.1 C.2.1 hd rfl (lv_at hl q hq) (k x0 h0 H locs ls hP hS hl)
theorem j_iload (C : Cx G nL X own cc d) {n : Nat} {x : Int32} (pc : Nat) (q : Nat) (hq : L[q]? = some (n, .int x)) (hd : decode cc pc = .ok (.iload n, 2))
    (k : JS G nL X Q sp V (pc + 2) L (.int x :: st)) : JS G nL X Q sp V pc L st :=
  fun x0 h0 H locs ls hP hS hl => lv_iload C.1 C.2.1 hd (lv_at hl q hq) (k x0 h0 H locs ls hP hS hl)
theorem j_lload_n (C : Cx G nL X own cc d) {n : Fin 4} {x : Int64} (pc : Nat) (q : Nat) (hq : L[q]? = some ((n : Nat), .long x)) (hd : decode cc pc = .ok (.lload_n n, 1))
    (k : JS G nL X Q sp V (pc + 1) L (.long x :: st)) : JS G nL X Q sp V pc L st :=
  fun x0 h0 H locs ls hP hS hl => lv_lload_n C.1 C.2.1 hd rfl (lv_at hl q hq) (k x0 h0 H locs ls hP hS hl)
theorem j_lload (C : Cx G nL X own cc d) {n : Nat} {x : Int64} (pc : Nat) (q : Nat) (hq : L[q]? = some (n, .long x)) (hd : decode cc pc = .ok (.lload n, 2))
    (k : JS G nL X Q sp V (pc + 2) L (.long x :: st)) : JS G nL X Q sp V pc L st :=
  fun x0 h0 H locs ls hP hS hl => lv_lload C.1 C.2.1 hd (lv_at hl q hq) (k x0 h0 H locs ls hP hS hl)
theorem j_fload_n (C : Cx G nL X own cc d) {n : Fin 4} {x : UInt32} (pc : Nat) (q : Nat) (hq : L[q]? = some ((n : Nat), .float x)) (hd : decode cc pc = .ok (.fload_n n, 1))
    (k : JS G nL X Q sp V (pc + 1) L (.float x :: st)) : JS G nL X Q sp V pc L st :=
  fun x0 h0 H locs ls hP hS hl => lv_fload_n C.1 C.2.1 hd rfl (lv_at hl q hq) (k x0 h0 H locs ls hP hS hl)
theorem j_fload (C : Cx G nL X own cc d) {n : Nat} {x : UInt32} (pc : Nat) (q : Nat) (hq : L[q]? = some (n, .float x)) (hd : decode cc pc = .ok (.fload n, 2))
    (k : JS G nL X Q sp V (pc + 2) L (.float x :: st)) : JS G nL X Q sp V pc L st :=
  fun x0 h0 H locs ls hP hS hl => lv_fload C.1 C.2.1 hd (lv_at hl q hq) (k x0 h0 H locs ls hP hS hl)
theorem j_dload_n (C : Cx G nL X own cc d) {n : Fin 4} {x : UInt64} (pc : Nat) (q : Nat) (hq : L[q]? = some ((n : Nat), .double x)) (hd : decode cc pc = .ok (.dload_n n, 1))
    (k : JS G nL X Q sp V (pc + 1) L (.double x :: st)) : JS G nL X Q sp V pc L st :=
  fun x0 h0 H locs ls hP hS hl => lv_dload_n C.1 C.2.1 hd rfl (lv_at hl q hq) (k x0 h0 H locs ls hP hS hl)
theorem j_dload (C : Cx G nL X own cc d) {n : Nat} {x : UInt64} (pc : Nat) (q : Nat) (hq : L[q]? = some (n, .double x)) (hd : decode cc pc = .ok (.dload n, 2))
    (k : JS G nL X Q sp V (pc + 2) L (.double x :: st)) : JS G nL X Q sp V pc L st :=
  fun x0 h0 H locs ls hP hS hl => lv_dload C.1 C.2.1 hd (lv_at hl q hq) (k x0 h0 H locs ls hP hS hl)
theorem j_aload_n (C : Cx G nL X own cc d) {n : Fin 4} {x : Nat} (pc : Nat) (q : Nat) (hq : L[q]? = some ((n : Nat), .ref x)) (hd : decode cc pc = .ok (.aload_n n, 1))
    (k : JS G nL X Q sp V (pc + 1) L (.ref x :: st)) : JS G nL X Q sp V pc L st :=
  fun x0 h0 H locs ls hP hS hl => lv_aload_n C.1 C.2.1 hd rfl (lv_at hl q hq) (k x0 h0 H locs ls hP hS hl)
theorem j_aload (C : Cx G nL X own cc d) {n : Nat} {x : Nat} (pc : Nat) (q : Nat) (hq : L[q]? = some (n, .ref x)) (hd : decode cc pc = .ok (.aload n, 2))
    (k : JS G nL X Q sp V (pc + 2) L (.ref x :: st)) : JS G nL X Q sp V pc L st :=
  fun x0 h0 H locs ls hP hS hl => lv_aload C.1 C.2.1 hd (lv_at hl q hq) (k x0 h0 H locs ls hP hS hl)
theorem j_istore_n (C : Cx G nL X own cc d) {n : Fin 4} {i : Nat} {x : Int32} {L1 : List (Nat × Value)} (pc : Nat) (hi : (n : Nat) = i) (hd : decode cc pc = .ok (.istore_n n, 1)) (hn : i < nL) (hl : (i, Value.int x) :: L.filter (fun q => !(q.1 == i) && !(q.1 + 1 == i && q.2.category == 2)) = L1)
    (k : JS G nL X Q sp V (pc + 1) L1 st) : JS G nL X Q sp V pc L (.int x :: st) :=
  fun x0 h0 H locs ls hP hS h => lv_istore_n C.1 C.2.1 hd hi h hn hl (fun ls1 h1 => k x0 h0 H locs ls1 hP hS h1)
theorem j_istore (C : Cx G nL X own cc d) {i : Nat} {x : Int32} {L1 : List (Nat × Value)} (pc : Nat) (hd : decode cc pc = .ok (.istore i, 2)) (hn : i < nL) (hl : (i, Value.int x) :: L.filter (fun q => !(q.1 == i) && !(q.1 + 1 == i && q.2.category == 2)) = L1)
    (k : JS G nL X Q sp V (pc + 2) L1 st) : JS G nL X Q sp V pc L (.int x :: st) :=
  fun x0 h0 H locs ls hP hS h => lv_istore C.1 C.2.1 hd h hn hl (fun ls1 h1 => k x0 h0 H locs ls1 hP hS h1)
theorem j_fstore_n (C : Cx G nL X own cc d) {n : Fin 4} {i : Nat} {x : UInt32} {L1 : List (Nat × Value)} (pc : Nat) (hi : (n : Nat) = i) (hd : decode cc pc = .ok (.fstore_n n, 1)) (hn : i < nL) (hl : (i, Value.float x) :: L.filter (fun q => !(q.1 == i) && !(q.1 + 1 == i && q.2.category == 2)) = L1)
    (k : JS G nL X Q sp V (pc + 1) L1 st) : JS G nL X Q sp V pc L (.float x :: st) :=
  fun x0 h0 H locs ls hP hS h => lv_fstore_n C.1 C.2.1 hd hi h hn hl (fun ls1 h1 => k x0 h0 H locs ls1 hP hS h1)
theorem j_fstore (C : Cx G nL X own cc d) {i : Nat} {x : UInt32} {L1 : List (Nat × Value)} (pc : Nat) (hd : decode cc pc = .ok (.fstore i, 2)) (hn : i < nL) (hl : (i, Value.float x) :: L.filter (fun q => !(q.1 == i) && !(q.1 + 1 == i && q.2.category == 2)) = L1)
    (k : JS G nL X Q sp V (pc + 2) L1 st) : JS G nL X Q sp V pc L (.float x :: st) :=
  fun x0 h0 H locs ls hP hS h => lv_fstore C.1 C.2.1 hd h hn hl (fun ls1 h1 => k x0 h0 H locs ls1 hP hS h1)
theorem j_astore_n (C : Cx G nL X own cc d) {n : Fin 4} {i : Nat} {x : Nat} {L1 : List (Nat × Value)} (pc : Nat) (hi : (n : Nat) = i) (hd : decode cc pc = .ok (.astore_n n, 1)) (hn : i < nL) (hl : (i, Value.ref x) :: L.filter (fun q => !(q.1 == i) && !(q.1 + 1 == i && q.2.category == 2)) = L1)
    (k : JS G nL X Q sp V (pc + 1) L1 st) : JS G nL X Q sp V pc L (.ref x :: st) :=
  fun x0 h0 H locs ls hP hS h => lv_astore_n C.1 C.2.1 hd hi h hn hl (fun ls1 h1 => k x0 h0 H locs ls1 hP hS h1)
theorem j_astore (C : Cx G nL X own cc d) {i : Nat} {x : Nat} {L1 : List (Nat × Value)} (pc : Nat) (hd : decode cc pc = .ok (.astore i, 2)) (hn : i < nL) (hl : (i, Value.ref x) :: L.filter (fun q => !(q.1 == i) && !(q.1 + 1 == i && q.2.category == 2)) = L1)
    (k : JS G nL X Q sp V (pc + 2) L1 st) : JS G nL X Q sp V pc L (.ref x :: st) :=
  fun x0 h0 H locs ls hP hS h => lv_astore C.1 C.2.1 hd h hn hl (fun ls1 h1 => k x0 h0 H locs ls1 hP hS h1)
theorem j_lstore_n (C : Cx G nL X own cc d) {n : Fin 4} {i : Nat} {x : Int64} {L1 : List (Nat × Value)} (pc : Nat) (hi : (n : Nat) = i) (hd : decode cc pc = .ok (.lstore_n n, 1)) (hn : i + 1 < nL) (hl : (i, Value.long x) :: L.filter (fun q => !(q.1 == i) && (!(q.1 == i + 1) && !(q.1 + 1 == i && q.2.category == 2))) = L1)
    (k : JS G nL X Q sp V (pc + 1) L1 st) : JS G nL X Q sp V pc L (.long x :: st) :=
  fun x0 h0 H locs ls hP hS h => lv_lstore_n C.1 C.2.1 hd hi h hn hl (fun ls1 h1 => k x0 h0 H locs ls1 hP hS h1)
theorem j_lstore (C : Cx G nL X own cc d) {i : Nat} {x : Int64} {L1 : List (Nat × Value)} (pc : Nat) (hd : decode cc pc = .ok (.lstore i, 2)) (hn : i + 1 < nL) (hl : (i, Value.long x) :: L.filter (fun q => !(q.1 == i) && (!(q.1 == i + 1) && !(q.1 + 1 == i && q.2.category == 2))) = L1)
    (k : JS G nL X Q sp V (pc + 2) L1 st) : JS G nL X Q sp V pc L (.long x :: st) :=
  fun x0 h0 H locs ls hP hS h => lv_lstore C.1 C.2.1 hd h hn hl (fun ls1 h1 => k x0 h0 H locs ls1 hP hS h1)
theorem j_dstore_n (C : Cx G nL X own cc d) {n : Fin 4} {i : Nat} {x : UInt64} {L1 : List (Nat × Value)} (pc : Nat) (hi : (n : Nat) = i) (hd : decode cc pc = .ok (.dstore_n n, 1)) (hn : i + 1 < nL) (hl : (i, Value.double x) :: L.filter (fun q => !(q.1 == i) && (!(q.1 == i + 1) && !(q.1 + 1 == i && q.2.category == 2))) = L1)
    (k : JS G nL X Q sp V (pc + 1) L1 st) : JS G nL X Q sp V pc L (.double x :: st) :=
  fun x0 h0 H locs ls hP hS h => lv_dstore_n C.1 C.2.1 hd hi h hn hl (fun ls1 h1 => k x0 h0 H locs ls1 hP hS h1)
theorem j_dstore (C : Cx G nL X own cc d) {i : Nat} {x : UInt64} {L1 : List (Nat × Value)} (pc : Nat) (hd : decode cc pc = .ok (.dstore i, 2)) (hn : i + 1 < nL) (hl : (i, Value.double x) :: L.filter (fun q => !(q.1 == i) && (!(q.1 == i + 1) && !(q.1 + 1 == i && q.2.category == 2))) = L1)
    (k : JS G nL X Q sp V (pc + 2) L1 st) : JS G nL X Q sp V pc L (.double x :: st) :=
  fun x0 h0 H locs ls hP hS h => lv_dstore C.1 C.2.1 hd h hn hl (fun ls1 h1 => k x0 h0 H locs ls1 hP hS h1)
theorem j_iinc (C : Cx G nL X own cc d) {i : Nat} {n : Int} {x v : Int32} {L1 : List (Nat × Value)} (pc : Nat) (q : Nat) (hq : L[q]? = some (i, .int x)) (hd : decode cc pc = .ok (.iinc i n, 3)) (hv : x + Int32.ofInt n = v) (hn : i < nL) (hl : (i, Value.int v) :: L.filter (fun q => !(q.1 == i) && !(q.1 + 1 == i && q.2.category == 2)) = L1)
    (k : JS G nL X Q sp V (pc + 3) L1 st) : JS G nL X Q sp V pc L st :=
  fun x0 h0 H locs ls hP hS h => lv_iinc C.1 C.2.1 hd h hq hv hn hl (fun ls1 h1 => k x0 h0 H locs ls1 hP hS h1)
theorem j_iadd (C : Cx G nL X own cc d) {x y : Int32} (pc : Nat) (hd : decode cc pc = .ok (.iadd, 1)) 
    (k : JS G nL X Q sp V (pc + 1) L (.int (x + y) :: st)) : JS G nL X Q sp V pc L (.int y :: .int x :: st) :=
  fun x0 h0 H locs ls hP hS hl => lv_iadd C.1 C.2.1 hd  (k x0 h0 H locs ls hP hS hl)
theorem j_isub (C : Cx G nL X own cc d) {x y : Int32} (pc : Nat) (hd : decode cc pc = .ok (.isub, 1)) 
    (k : JS G nL X Q sp V (pc + 1) L (.int (x - y) :: st)) : JS G nL X Q sp V pc L (.int y :: .int x :: st) :=
  fun x0 h0 H locs ls hP hS hl => lv_isub C.1 C.2.1 hd  (k x0 h0 H locs ls hP hS hl)
theorem j_imul (C : Cx G nL X own cc d) {x y : Int32} (pc : Nat) (hd : decode cc pc = .ok (.imul, 1)) 
    (k : JS G nL X Q sp V (pc + 1) L (.int (x * y) :: st)) : JS G nL X Q sp V pc L (.int y :: .int x :: st) :=
  fun x0 h0 H locs ls hP hS hl => lv_imul C.1 C.2.1 hd  (k x0 h0 H locs ls hP hS hl)
theorem j_iand (C : Cx G nL X own cc d) {x y : Int32} (pc : Nat) (hd : decode cc pc = .ok (.iand, 1)) 
    (k : JS G nL X Q sp V (pc + 1) L (.int (x &&& y) :: st)) : JS G nL X Q sp V pc L (.int y :: .int x :: st) :=
  fun x0 h0 H locs ls hP hS hl => lv_iand C.1 C.2.1 hd  (k x0 h0 H locs ls hP hS hl)
theorem j_idiv (C : Cx G nL X own cc d) {x y : Int32} (pc : Nat) (hd : decode cc pc = .ok (.idiv, 1)) (hn : ¬ y = 0)
    (k : JS G nL X Q sp V (pc + 1) L (.int (x / y) :: st)) : JS G nL X Q sp V pc L (.int y :: .int x :: st) :=
  fun x0 h0 H locs ls hP hS hl => lv_idiv C.1 C.2.1 hd hn (k x0 h0 H locs ls hP hS hl)
theorem j_irem (C : Cx G nL X own cc d) {x y : Int32} (pc : Nat) (hd : decode cc pc = .ok (.irem, 1)) (hn : ¬ y = 0)
    (k : JS G nL X Q sp V (pc + 1) L (.int (x - x / y * y) :: st)) : JS G nL X Q sp V pc L (.int y :: .int x :: st) :=
  fun x0 h0 H locs ls hP hS hl => lv_irem C.1 C.2.1 hd hn (k x0 h0 H locs ls hP hS hl)
theorem j_ladd (C : Cx G nL X own cc d) {x y : Int64} (pc : Nat) (hd : decode cc pc = .ok (.ladd, 1)) 
    (k : JS G nL X Q sp V (pc + 1) L (.long (x + y) :: st)) : JS G nL X Q sp V pc L (.long y :: .long x :: st) :=
  fun x0 h0 H locs ls hP hS hl => lv_ladd C.1 C.2.1 hd  (k x0 h0 H locs ls hP hS hl)
theorem j_lmul (C : Cx G nL X own cc d) {x y : Int64} (pc : Nat) (hd : decode cc pc = .ok (.lmul, 1)) 
    (k : JS G nL X Q sp V (pc + 1) L (.long (x * y) :: st)) : JS G nL X Q sp V pc L (.long y :: .long x :: st) :=
  fun x0 h0 H locs ls hP hS hl => lv_lmul C.1 C.2.1 hd  (k x0 h0 H locs ls hP hS hl)
theorem j_lshl (C : Cx G nL X own cc d) {x : Int64} {y : Int32} (pc : Nat) (hd : decode cc pc = .ok (.lshl, 1)) 
    (k : JS G nL X Q sp V (pc + 1) L (.long (x <<< (y.toInt64 &&& 63)) :: st)) : JS G nL X Q sp V pc L (.int y :: .long x :: st) :=
  fun x0 h0 H locs ls hP hS hl => lv_lshl C.1 C.2.1 hd rfl (k x0 h0 H locs ls hP hS hl)
theorem j_i2l (C : Cx G nL X own cc d) {x : Int32} (pc : Nat) (hd : decode cc pc = .ok (.i2l, 1)) 
    (k : JS G nL X Q sp V (pc + 1) L (.long x.toInt64 :: st)) : JS G nL X Q sp V pc L (.int x :: st) :=
  fun x0 h0 H locs ls hP hS hl => lv_i2l C.1 C.2.1 hd rfl (k x0 h0 H locs ls hP hS hl)
theorem j_i2f (C : Cx G nL X own cc d) {x : Int32} (pc : Nat) (hd : decode cc pc = .ok (.i2f, 1)) 
    (k : JS G nL X Q sp V (pc + 1) L (.float (FP.i2f x) :: st)) : JS G nL X Q sp V pc L (.int x :: st) :=
  fun x0 h0 H locs ls hP hS hl => lv_i2f C.1 C.2.1 hd  (k x0 h0 H locs ls hP hS hl)
theorem j_i2d (C : Cx G nL X own cc d) {x : Int32} (pc : Nat) (hd : decode cc pc = .ok (.i2d, 1)) 
    (k : JS G nL X Q sp V (pc + 1) L (.double (FP.i2d x) :: st)) : JS G nL X Q sp V pc L (.int x :: st) :=
  fun x0 h0 H locs ls hP hS hl => lv_i2d C.1 C.2.1 hd  (k x0 h0 H locs ls hP hS hl)
theorem j_d2l (C : Cx G nL X own cc d) {x : UInt64} (pc : Nat) (hd : decode cc pc = .ok (.d2l, 1)) 
    (k : JS G nL X Q sp V (pc + 1) L (.long (FP.d2l x) :: st)) : JS G nL X Q sp V pc L (.double x :: st) :=
  fun x0 h0 H locs ls hP hS hl => lv_d2l C.1 C.2.1 hd  (k x0 h0 H locs ls hP hS hl)
theorem j_dconst0 (C : Cx G nL X own cc d) (pc : Nat) (hd : decode cc pc = .ok (.dconst 0, 1)) 
    (k : JS G nL X Q sp V (pc + 1) L (.double FP.dconst0 :: st)) : JS G nL X Q sp V pc L st :=
  fun x0 h0 H locs ls hP hS hl => lv_dconst0 C.1 C.2.1 hd  (k x0 h0 H locs ls hP hS hl)
theorem j_dconst1 (C : Cx G nL X own cc d) (pc : Nat) (hd : decode cc pc = .ok (.dconst 1, 1)) 
    (k : JS G nL X Q sp V (pc + 1) L (.double FP.dconst1 :: st)) : JS G nL X Q sp V pc L st :=
  fun x0 h0 H locs ls hP hS hl => lv_dconst1 C.1 C.2.1 hd  (k x0 h0 H locs ls hP hS hl)
theorem j_fconst0 (C : Cx G nL X own cc d) (pc : Nat) (hd : decode cc pc = .ok (.fconst 0, 1)) 
    (k : JS G nL X Q sp V (pc + 1) L (.float FP.fconst0 :: st)) : JS G nL X Q sp V pc L st :=
  fun x0 h0 H locs ls hP hS hl => lv_fconst0 C.1 C.2.1 hd  (k x0 h0 H locs ls hP hS hl)
theorem j_dcmp (C : Cx G nL X own cc d) {x y : UInt64} {op : CmpOp} (pc : Nat) (hd : decode cc pc = .ok (.dcmp op, 1)) 
    (k : JS G nL X Q sp V (pc + 1) L (.int (Op.cmpValue (FP.dcmp x y) op) :: st)) : JS G nL X Q sp V pc L (.double y :: .double x :: st) :=
  fun x0 h0 H locs ls hP hS hl => lv_dcmp C.1 C.2.1 hd  (k x0 h0 H locs ls hP hS hl)
theorem j_dup (C : Cx G nL X own cc d) {a : Value} (pc : Nat) (hd : decode cc pc = .ok (.dup, 1)) (ha : a.category = 1)
    (k : JS G nL X Q sp V (pc + 1) L (a :: a :: st)) : JS G nL X Q sp V pc L (a :: st) :=
  fun x0 h0 H locs ls hP hS hl => lv_dup C.1 C.2.1 hd ha (k x0 h0 H locs ls hP hS hl)
theorem j_pop (C : Cx G nL X own cc d) {a : Value} (pc : Nat) (hd : decode cc pc = .ok (.pop, 1)) (ha : a.category = 1)
    (k : JS G nL X Q sp V (pc + 1) L st) : JS G nL X Q sp V pc L (a :: st) :=
  fun x0 h0 H locs ls hP hS hl => lv_pop C.1 C.2.1 hd ha (k x0 h0 H locs ls hP hS hl)
theorem j_dup2 (C : Cx G nL X own cc d) {a b : Value} (pc : Nat) (hd : decode cc pc = .ok (.dup2, 1)) (ha : a.category = 1) (hb : b.category = 1)
    (k : JS G nL X Q sp V (pc + 1) L (a :: b :: a :: b :: st)) : JS G nL X Q sp V pc L (a :: b :: st) :=
  fun x0 h0 H locs ls hP hS hl => lv_dup2_11 C.1 C.2.1 hd ha hb (k x0 h0 H locs ls hP hS hl)
theorem dck_in {x y : UInt64} (h : dck x = some y) : vf_n64 x ∧ y = x := by
  unfold dck at h
  split at h
  · next q => cases h; exact ⟨q, rfl⟩
  · cases h
theorem fck_in {x y : UInt32} (h : fck x = some y) : vf_n32 x ∧ y = x := by
  unfold fck at h
  split at h
  · next q => cases h; exact ⟨q, rfl⟩
  · cases h
theorem j_dadd (C : Cx G nL X own cc d) {x y r : UInt64} (pc : Nat) (hr : dck (FP.dadd x y) = some r) (hd : decode cc pc = .ok (.dadd, 1))
    (k : JS G nL X Q sp V (pc + 1) L (.double r :: st)) : JS G nL X Q sp V pc L (.double y :: .double x :: st) :=
  fun x0 h0 H locs ls hP hS hl => lv_dadd C.1 C.2.1 hd (dck_in hr).1 (by rw [← (dck_in hr).2]; exact k x0 h0 H locs ls hP hS hl)
theorem j_dsub (C : Cx G nL X own cc d) {x y r : UInt64} (pc : Nat) (hr : dck (FP.dsub x y) = some r) (hd : decode cc pc = .ok (.dsub, 1))
    (k : JS G nL X Q sp V (pc + 1) L (.double r :: st)) : JS G nL X Q sp V pc L (.double y :: .double x :: st) :=
  fun x0 h0 H locs ls hP hS hl => lv_dsub C.1 C.2.1 hd (dck_in hr).1 (by rw [← (dck_in hr).2]; exact k x0 h0 H locs ls hP hS hl)
theorem j_dmul (C : Cx G nL X own cc d) {x y r : UInt64} (pc : Nat) (hr : dck (FP.dmul x y) = some r) (hd : decode cc pc = .ok (.dmul, 1))
    (k : JS G nL X Q sp V (pc + 1) L (.double r :: st)) : JS G nL X Q sp V pc L (.double y :: .double x :: st) :=
  fun x0 h0 H locs ls hP hS hl => lv_dmul C.1 C.2.1 hd (dck_in hr).1 (by rw [← (dck_in hr).2]; exact k x0 h0 H locs ls hP hS hl)
theorem j_ddiv (C : Cx G nL X own cc d) {x y r : UInt64} (pc : Nat) (hr : dck (FP.ddiv x y) = some r) (hd : decode cc pc = .ok (.ddiv, 1))
    (k : JS G nL X Q sp V (pc + 1) L (.double r :: st)) : JS G nL X Q sp V pc L (.double y :: .double x :: st) :=
  fun x0 h0 H locs ls hP hS hl => lv_ddiv C.1 C.2.1 hd (dck_in hr).1 (by rw [← (dck_in hr).2]; exact k x0 h0 H locs ls hP hS hl)
theorem j_fdiv (C : Cx G nL X own cc d) {x y r : UInt32} (pc : Nat) (hr : fck (FP.fdiv x y) = some r) (hd : decode cc pc = .ok (.fdiv, 1))
    (k : JS G nL X Q sp V (pc + 1) L (.float r :: st)) : JS G nL X Q sp V pc L (.float y :: .float x :: st) :=
  fun x0 h0 H locs ls hP hS hl => lv_fdiv C.1 C.2.1 hd (fck_in hr).1 (by rw [← (fck_in hr).2]; exact k x0 h0 H locs ls hP hS hl)
theorem j_f2d (C : Cx G nL X own cc d) {x : UInt32} {r : UInt64} (pc : Nat) (hr : dck (FP.f2d x) = some r) (hd : decode cc pc = .ok (.f2d, 1))
    (k : JS G nL X Q sp V (pc + 1) L (.double r :: st)) : JS G nL X Q sp V pc L (.float x :: st) :=
  fun x0 h0 H locs ls hP hS hl => lv_f2d C.1 C.2.1 hd (dck_in hr).1 (by rw [← (dck_in hr).2]; exact k x0 h0 H locs ls hP hS hl)
theorem j_ldc2 (C : Cx G nL X own cc d) {n : Nat} {v : Int64} (pc : Nat) (hd : decode cc pc = .ok (.ldc2_w n, 3)) (hw : Cond.constantLong own n v ∈ gw)
    (k : JS G nL X Q sp V (pc + 3) L (.long v :: st)) : JS G nL X Q sp V pc L st :=
  fun x0 h0 H locs ls hP hS hl => lv_ldc2 C.1 C.2.1 C.2.2.2.1 (C.2.2.2.2.1 _ hw) hd (k x0 h0 H locs ls hP hS hl)
theorem j_ldc2d (C : Cx G nL X own cc d) {n : Nat} {v : UInt64} (pc : Nat) (hd : decode cc pc = .ok (.ldc2_w n, 3)) (hw : Cond.constantDouble own n v ∈ gw)
    (k : JS G nL X Q sp V (pc + 3) L (.double v :: st)) : JS G nL X Q sp V pc L st :=
  fun x0 h0 H locs ls hP hS hl => lv_ldc2d C.1 C.2.1 C.2.2.2.1 (C.2.2.2.2.1 _ hw) hd (k x0 h0 H locs ls hP hS hl)
theorem j_ldc (C : Cx G nL X own cc d) {n : Nat} {v : Int32} (pc : Nat) (hd : decode cc pc = .ok (.ldc n, 2)) (hw : Cond.constant own n v ∈ gw)
    (k : JS G nL X Q sp V (pc + 2) L (.int v :: st)) : JS G nL X Q sp V pc L st :=
  fun x0 h0 H locs ls hP hS hl => lv_ldc C.1 C.2.1 C.2.2.2.1 (C.2.2.2.2.1 _ hw) hd (k x0 h0 H locs ls hP hS hl)
theorem j_icmp_lt (C : Cx G nL X own cc d) {x y : Int32} {off : Int} {A B : Option ρ} (pc : Nat) (tgt : Nat) (hd : decode cc pc = .ok (.if_icmp .lt off, 3)) (ht : (pc : Int) + off = (tgt : Int))
    (kA : x < y → JS G nL X Q A V tgt L st) (kB : ¬ x < y → JS G nL X Q B V (pc + 3) L st) : JS G nL X Q (if x < y then A else B) V pc L (.int y :: .int x :: st) := by
  intro x0 h0 H locs ls hP hS hl
  by_cases hc : x < y
  · rw [if_pos hc] at h0
    exact lv_icmp_lt C.1 C.2.1 hd ht (fun z => kA hc x0 h0 H locs ls hP hS hl) (fun z => absurd hc z)
  · rw [if_neg hc] at h0
    exact lv_icmp_lt C.1 C.2.1 hd ht (fun z => absurd z hc) (fun z => kB hc x0 h0 H locs ls hP hS hl)
theorem j_icmp_gt (C : Cx G nL X own cc d) {x y : Int32} {off : Int} {A B : Option ρ} (pc : Nat) (tgt : Nat) (hd : decode cc pc = .ok (.if_icmp .gt off, 3)) (ht : (pc : Int) + off = (tgt : Int))
    (kA : y < x → JS G nL X Q A V tgt L st) (kB : ¬ y < x → JS G nL X Q B V (pc + 3) L st) : JS G nL X Q (if y < x then A else B) V pc L (.int y :: .int x :: st) := by
  intro x0 h0 H locs ls hP hS hl
  by_cases hc : y < x
  · rw [if_pos hc] at h0
    exact lv_icmp_gt C.1 C.2.1 hd ht (fun z => kA hc x0 h0 H locs ls hP hS hl) (fun z => absurd hc z)
  · rw [if_neg hc] at h0
    exact lv_icmp_gt C.1 C.2.1 hd ht (fun z => absurd z hc) (fun z => kB hc x0 h0 H locs ls hP hS hl)
theorem j_icmp_eq (C : Cx G nL X own cc d) {x y : Int32} {off : Int} {A B : Option ρ} (pc : Nat) (tgt : Nat) (hd : decode cc pc = .ok (.if_icmp .eq off, 3)) (ht : (pc : Int) + off = (tgt : Int))
    (kA : x = y → JS G nL X Q A V tgt L st) (kB : ¬ x = y → JS G nL X Q B V (pc + 3) L st) : JS G nL X Q (if x = y then A else B) V pc L (.int y :: .int x :: st) := by
  intro x0 h0 H locs ls hP hS hl
  by_cases hc : x = y
  · rw [if_pos hc] at h0
    exact lv_icmp_eq C.1 C.2.1 hd ht (fun z => kA hc x0 h0 H locs ls hP hS hl) (fun z => absurd hc z)
  · rw [if_neg hc] at h0
    exact lv_icmp_eq C.1 C.2.1 hd ht (fun z => absurd z hc) (fun z => kB hc x0 h0 H locs ls hP hS hl)
theorem j_icmp_ge (C : Cx G nL X own cc d) {x y : Int32} {off : Int} {A B : Option ρ} (pc : Nat) (tgt : Nat) (hd : decode cc pc = .ok (.if_icmp .ge off, 3)) (ht : (pc : Int) + off = (tgt : Int))
    (kA : x < y → JS G nL X Q A V (pc + 3) L st) (kB : ¬ x < y → JS G nL X Q B V tgt L st) : JS G nL X Q (if x < y then A else B) V pc L (.int y :: .int x :: st) := by
  intro x0 h0 H locs ls hP hS hl
  by_cases hc : x < y
  · rw [if_pos hc] at h0
    exact lv_icmp_ge C.1 C.2.1 hd ht (fun z => absurd z (Int32.not_le.mpr hc)) (fun z => kA hc x0 h0 H locs ls hP hS hl)
  · rw [if_neg hc] at h0
    exact lv_icmp_ge C.1 C.2.1 hd ht (fun z => kB hc x0 h0 H locs ls hP hS hl) (fun z => absurd (Int32.not_le.mp z) hc)
theorem j_icmp_le (C : Cx G nL X own cc d) {x y : Int32} {off : Int} {A B : Option ρ} (pc : Nat) (tgt : Nat) (hd : decode cc pc = .ok (.if_icmp .le off, 3)) (ht : (pc : Int) + off = (tgt : Int))
    (kA : y < x → JS G nL X Q A V (pc + 3) L st) (kB : ¬ y < x → JS G nL X Q B V tgt L st) : JS G nL X Q (if y < x then A else B) V pc L (.int y :: .int x :: st) := by
  intro x0 h0 H locs ls hP hS hl
  by_cases hc : y < x
  · rw [if_pos hc] at h0
    exact lv_icmp_le C.1 C.2.1 hd ht (fun z => absurd z (Int32.not_le.mpr hc)) (fun z => kA hc x0 h0 H locs ls hP hS hl)
  · rw [if_neg hc] at h0
    exact lv_icmp_le C.1 C.2.1 hd ht (fun z => kB hc x0 h0 H locs ls hP hS hl) (fun z => absurd (Int32.not_le.mp z) hc)
theorem j_icmp_ne (C : Cx G nL X own cc d) {x y : Int32} {off : Int} {A B : Option ρ} (pc : Nat) (tgt : Nat) (hd : decode cc pc = .ok (.if_icmp .ne off, 3)) (ht : (pc : Int) + off = (tgt : Int))
    (kA : x = y → JS G nL X Q A V (pc + 3) L st) (kB : ¬ x = y → JS G nL X Q B V tgt L st) : JS G nL X Q (if x = y then A else B) V pc L (.int y :: .int x :: st) := by
  intro x0 h0 H locs ls hP hS hl
  by_cases hc : x = y
  · rw [if_pos hc] at h0
    exact lv_icmp_ne C.1 C.2.1 hd ht (fun z => absurd z (fun w => w hc)) (fun z => kA hc x0 h0 H locs ls hP hS hl)
  · rw [if_neg hc] at h0
    exact lv_icmp_ne C.1 C.2.1 hd ht (fun z => kB hc x0 h0 H locs ls hP hS hl) (fun z => absurd z hc)
theorem j_if_eq (C : Cx G nL X own cc d) {x : Int32} {off : Int} {A B : Option ρ} (pc : Nat) (tgt : Nat) (hd : decode cc pc = .ok (.ifCond .eq off, 3)) (ht : (pc : Int) + off = (tgt : Int))
    (kA : x = 0 → JS G nL X Q A V tgt L st) (kB : ¬ x = 0 → JS G nL X Q B V (pc + 3) L st) : JS G nL X Q (if x = 0 then A else B) V pc L (.int x :: st) := by
  intro x0 h0 H locs ls hP hS hl
  by_cases hc : x = 0
  · rw [if_pos hc] at h0
    exact lv_if_eq C.1 C.2.1 hd ht (fun z => kA hc x0 h0 H locs ls hP hS hl) (fun z => absurd hc z)
  · rw [if_neg hc] at h0
    exact lv_if_eq C.1 C.2.1 hd ht (fun z => absurd z hc) (fun z => kB hc x0 h0 H locs ls hP hS hl)
theorem j_if_lt (C : Cx G nL X own cc d) {x : Int32} {off : Int} {A B : Option ρ} (pc : Nat) (tgt : Nat) (hd : decode cc pc = .ok (.ifCond .lt off, 3)) (ht : (pc : Int) + off = (tgt : Int))
    (kA : x < 0 → JS G nL X Q A V tgt L st) (kB : ¬ x < 0 → JS G nL X Q B V (pc + 3) L st) : JS G nL X Q (if x < 0 then A else B) V pc L (.int x :: st) := by
  intro x0 h0 H locs ls hP hS hl
  by_cases hc : x < 0
  · rw [if_pos hc] at h0
    exact lv_if_lt C.1 C.2.1 hd ht (fun z => kA hc x0 h0 H locs ls hP hS hl) (fun z => absurd hc z)
  · rw [if_neg hc] at h0
    exact lv_if_lt C.1 C.2.1 hd ht (fun z => absurd z hc) (fun z => kB hc x0 h0 H locs ls hP hS hl)
theorem j_if_gt (C : Cx G nL X own cc d) {x : Int32} {off : Int} {A B : Option ρ} (pc : Nat) (tgt : Nat) (hd : decode cc pc = .ok (.ifCond .gt off, 3)) (ht : (pc : Int) + off = (tgt : Int))
    (kA : 0 < x → JS G nL X Q A V tgt L st) (kB : ¬ 0 < x → JS G nL X Q B V (pc + 3) L st) : JS G nL X Q (if 0 < x then A else B) V pc L (.int x :: st) := by
  intro x0 h0 H locs ls hP hS hl
  by_cases hc : 0 < x
  · rw [if_pos hc] at h0
    exact lv_if_gt C.1 C.2.1 hd ht (fun z => kA hc x0 h0 H locs ls hP hS hl) (fun z => absurd hc z)
  · rw [if_neg hc] at h0
    exact lv_if_gt C.1 C.2.1 hd ht (fun z => absurd z hc) (fun z => kB hc x0 h0 H locs ls hP hS hl)
theorem j_if_ne (C : Cx G nL X own cc d) {x : Int32} {off : Int} {A B : Option ρ} (pc : Nat) (tgt : Nat) (hd : decode cc pc = .ok (.ifCond .ne off, 3)) (ht : (pc : Int) + off = (tgt : Int))
    (kA : x = 0 → JS G nL X Q A V (pc + 3) L st) (kB : ¬ x = 0 → JS G nL X Q B V tgt L st) : JS G nL X Q (if x = 0 then A else B) V pc L (.int x :: st) := by
  intro x0 h0 H locs ls hP hS hl
  by_cases hc : x = 0
  · rw [if_pos hc] at h0
    exact lv_if_ne C.1 C.2.1 hd ht (fun z => absurd z (fun w => w hc)) (fun z => kA hc x0 h0 H locs ls hP hS hl)
  · rw [if_neg hc] at h0
    exact lv_if_ne C.1 C.2.1 hd ht (fun z => kB hc x0 h0 H locs ls hP hS hl) (fun z => absurd z hc)
theorem j_if_ge (C : Cx G nL X own cc d) {x : Int32} {off : Int} {A B : Option ρ} (pc : Nat) (tgt : Nat) (hd : decode cc pc = .ok (.ifCond .ge off, 3)) (ht : (pc : Int) + off = (tgt : Int))
    (kA : x < 0 → JS G nL X Q A V (pc + 3) L st) (kB : ¬ x < 0 → JS G nL X Q B V tgt L st) : JS G nL X Q (if x < 0 then A else B) V pc L (.int x :: st) := by
  intro x0 h0 H locs ls hP hS hl
  by_cases hc : x < 0
  · rw [if_pos hc] at h0
    exact lv_if_ge C.1 C.2.1 hd ht (fun z => absurd z (Int32.not_le.mpr hc)) (fun z => kA hc x0 h0 H locs ls hP hS hl)
  · rw [if_neg hc] at h0
    exact lv_if_ge C.1 C.2.1 hd ht (fun z => kB hc x0 h0 H locs ls hP hS hl) (fun z => absurd (Int32.not_le.mp z) hc)
theorem j_if_le (C : Cx G nL X own cc d) {x : Int32} {off : Int} {A B : Option ρ} (pc : Nat) (tgt : Nat) (hd : decode cc pc = .ok (.ifCond .le off, 3)) (ht : (pc : Int) + off = (tgt : Int))
    (kA : 0 < x → JS G nL X Q A V (pc + 3) L st) (kB : ¬ 0 < x → JS G nL X Q B V tgt L st) : JS G nL X Q (if 0 < x then A else B) V pc L (.int x :: st) := by
  intro x0 h0 H locs ls hP hS hl
  by_cases hc : 0 < x
  · rw [if_pos hc] at h0
    exact lv_if_le C.1 C.2.1 hd ht (fun z => absurd z (Int32.not_le.mpr hc)) (fun z => kA hc x0 h0 H locs ls hP hS hl)
  · rw [if_neg hc] at h0
    exact lv_if_le C.1 C.2.1 hd ht (fun z => kB hc x0 h0 H locs ls hP hS hl) (fun z => absurd (Int32.not_le.mp z) hc)
theorem j_goto (C : Cx G nL X own cc d) {off : Int} (pc tgt : Nat) (hd : decode cc pc = .ok (.goto off, 3)) (ht : (pc : Int) + off = (tgt : Int)) (k : JS G nL X Q sp V tgt L st) : JS G nL X Q sp V pc L st :=
  fun x0 h0 H locs ls hP hS hl => lv_goto C.1 C.2.1 hd ht (k x0 h0 H locs ls hP hS hl)
theorem j_ifnull (C : Cx G nL X own cc d) {off : Int} {x : Nat} (pc : Nat) (hd : decode cc pc = .ok (.ifnull off, 3)) (k : JS G nL X Q sp V (pc + 3) L st) : JS G nL X Q sp V pc L (.ref x :: st) :=
  fun x0 h0 H locs ls hP hS hl => lv_ifnull C.1 C.2.1 hd (k x0 h0 H locs ls hP hS hl)
theorem j_iald (C : Cx G nL X own cc d) {n : Nat} {f : Nat → Int32} {i x : Int32} {a : Nat} (pc q : Nat) (hq : q < 121) (ha : a = G.2.2 q) (hc : cellA G.2.1 G.2.2 V q = cI (G.2.1 0) n f) (hr : ard n f i = some x) (hd : decode cc pc = .ok (.iaload, 1))
    (k : JS G nL X Q sp V (pc + 1) L (.int x :: st)) : JS G nL X Q sp V pc L (.int i :: .ref a :: st) := by
  intro x0 h0 H locs ls hP hS hl
  obtain ⟨hin, rfl⟩ := ard_in hr
  subst ha
  exact va_iald C.1 C.2.1 C.2.2.2.2.2.1.1 hP q 0 (by rw [wld_at G V hq, hc]) rfl hin hd (k x0 h0 H locs ls hP hS hl)
theorem j_zald (C : Cx G nL X own cc d) {n : Nat} {f : Nat → Int32} {i x : Int32} {a : Nat} (pc q : Nat) (hq : q < 121) (ha : a = G.2.2 q) (hc : cellA G.2.1 G.2.2 V q = cI (G.2.1 1) n f) (hr : ard n f i = some x) (hd : decode cc pc = .ok (.baload, 1))
    (k : JS G nL X Q sp V (pc + 1) L (.int x :: st)) : JS G nL X Q sp V pc L (.int i :: .ref a :: st) := by
  intro x0 h0 H locs ls hP hS hl
  obtain ⟨hin, rfl⟩ := ard_in hr
  subst ha
  exact va_zald C.1 C.2.1 C.2.2.2.2.2.1.1 hP q 1 (by rw [wld_at G V hq, hc]) rfl hin hd (k x0 h0 H locs ls hP hS hl)
theorem j_aald (C : Cx G nL X own cc d) {v : VSp} {i : Int32} {a x : Nat} (pc : Nat) (ha : a = G.2.2 1) (hc : cellA G.2.1 G.2.2 V 1 = cSv G.2.1 G.2.2 v) (hr : rdp 6 v.2.2 i = some x) (hd : decode cc pc = .ok (.aaload, 1))
    (k : JS G nL X Q sp V (pc + 1) L (.ref (G.2.2 (6 + 2 * x)) :: st)) : JS G nL X Q sp V pc L (.int i :: .ref a :: st) := by
  intro x0 h0 H locs ls hP hS hl
  obtain ⟨hin, rfl, -⟩ := rdp_in hr
  subst ha
  exact va_aldq (f := fun i => some (G.2.2 (6 + 2 * v.2.2 i))) C.1 C.2.1 C.2.2.2.2.2.1.1 hP 1 2 (by rw [wld_at G V (by omega), hc]; rfl) rfl hin hd (k x0 h0 H locs ls hP hS hl)
theorem j_iast (C : Cx G nL X own cc d) {n : Nat} {f g : Nat → Int32} {i x : Int32} {a : Nat} {V1 : VA} (pc q : Nat) (hq : q < 121) (ha : a = G.2.2 q) (hc : cellA G.2.1 G.2.2 V q = cI (G.2.1 0) n f) (hr : aup n f i x = some g) (hu : ∀ j, j < 121 → va_up (cellA G.2.1 G.2.2 V) q (cI (G.2.1 0) n g) j = cellA G.2.1 G.2.2 V1 j) (hd : decode cc pc = .ok (.iastore, 1))
    (k : JS G nL X Q sp V1 (pc + 1) L st) : JS G nL X Q sp V pc L (.int x :: .int i :: .ref a :: st) := by
  intro x0 h0 H locs ls hP hS hl
  obtain ⟨hin, rfl⟩ := aup_in hr
  subst ha
  exact va_iast C.1 C.2.1 C.2.2.2.2.2.1.1 hP (wld_D C.2.2.2.2.2.2.1 V _) hS q 0 (by rw [wld_at G V hq, hc]) rfl hin hd (fun H1 locs1 hP1 _ hS1 => k x0 h0 H1 locs1 ls (by rw [← wld_set hq hu]; exact hP1) hS1 hl)
theorem j_zast (C : Cx G nL X own cc d) {n : Nat} {f g : Nat → Int32} {i x : Int32} {a : Nat} {V1 : VA} (pc q : Nat) (hq : q < 121) (ha : a = G.2.2 q) (hc : cellA G.2.1 G.2.2 V q = cI (G.2.1 1) n f) (hr : aupz n f i x = some g) (hu : ∀ j, j < 121 → va_up (cellA G.2.1 G.2.2 V) q (cI (G.2.1 1) n g) j = cellA G.2.1 G.2.2 V1 j) (hd : decode cc pc = .ok (.bastore, 1))
    (k : JS G nL X Q sp V1 (pc + 1) L st) : JS G nL X Q sp V pc L (.int x :: .int i :: .ref a :: st) := by
  intro x0 h0 H locs ls hP hS hl
  obtain ⟨hin, rfl⟩ := aupz_in hr
  subst ha
  exact va_zast C.1 C.2.1 C.2.2.2.2.2.1.1 hP (wld_D C.2.2.2.2.2.2.1 V _) hS q 1 (by rw [wld_at G V hq, hc]) rfl hin hd (fun H1 locs1 hP1 _ hS1 => k x0 h0 H1 locs1 ls (by rw [← wld_set hq hu]; exact hP1) hS1 hl)
theorem j_alen (C : Cx G nL X own cc d) {n : Nat} {f : Nat → Int32} {a : Nat} {v : Int32} (pc q : Nat) (hq : q < 121) (ha : a = G.2.2 q) (hc : cellA G.2.1 G.2.2 V q = cI (G.2.1 0) n f) (hv : Int32.ofNat n = v) (hd : decode cc pc = .ok (.arraylength, 1))
    (k : JS G nL X Q sp V (pc + 1) L (.int v :: st)) : JS G nL X Q sp V pc L (.ref a :: st) := by
  intro x0 h0 H locs ls hP hS hl
  subst ha
  exact va_alen C.1 C.2.1 C.2.2.2.2.2.1.1 hP q 0 (by rw [wld_at G V hq, hc]) rfl hv hd (k x0 h0 H locs ls hP hS hl)
/-- a field is read: by the class's number, its place there -/
theorem j_get (C : Cx G nL X own cc d) {ci n N index a : Nat} {CN ref : String} {T : u_T} {fs : List Value} {v : Value} (pc q : Nat) (hq : q < 121) (ha : a = G.2.2 q) (hc : cellA G.2.1 G.2.2 V q = .inr (ci, fs)) (hcl : vwCl[ci]? = some (CN, T, N)) (hin : ∀ w ∈ u_ws CN T N, w ∈ gw) (hk : n < N) (hlink : Cond.fieldLink own index CN (T n).2.1 (T n).2.2.1 ∈ gw) (hT : (T n).1 = CN) (hv : fs[n]? = some v) (hd : decode cc pc = .ok (.getfield index, 3))
    (k : JS G nL X Q sp V (pc + 3) L (v :: st)) : JS G nL X Q sp V pc L (.ref a :: st) := by
  intro x0 h0 H locs ls hP hS hl
  subst ha
  exact va_get C.1 C.2.1 C.2.2.2.2.1 hin C.2.2.2.1 C.2.2.2.2.2.1.1 hP q (by rw [wld_at G V hq, hc]) hcl n hk (C.2.2.2.2.1 _ hlink) (fun x h => by rw [hT] at h; exact h) hv hd (k x0 h0 H locs ls hP hS hl)
theorem j_getN (C : Cx G nL X own cc d) {ci n N index a : Nat} {CN ref host : String} {T : u_T} {fs : List Value} {v : Value} (pc q : Nat) (hq : q < 121) (ha : a = G.2.2 q) (hc : cellA G.2.1 G.2.2 V q = .inr (ci, fs)) (hcl : vwCl[ci]? = some (CN, T, N)) (hin : ∀ w ∈ u_ws CN T N, w ∈ gw) (hk : n < N) (hlink : Cond.fieldLinkNest own index CN (T n).2.1 (T n).2.2.1 host ∈ nestW) (hT : (T n).1 = CN) (hv : fs[n]? = some v) (hd : decode cc pc = .ok (.getfield index, 3))
    (k : JS G nL X Q sp V (pc + 3) L (v :: st)) : JS G nL X Q sp V pc L (.ref a :: st) := by
  intro x0 h0 H locs ls hP hS hl
  subst ha
  exact va_getN C.1 C.2.1 C.2.2.2.2.1 hin C.2.2.2.1 C.2.2.2.2.2.1.1 hP q (by rw [wld_at G V hq, hc]) hcl n hk ((C.2.2.2.2.2.1.2 _ hlink).use rfl) (fun x h => by rw [hT] at h; exact h) hv hd (k x0 h0 H locs ls hP hS hl)
theorem j_put (C : Cx G nL X own cc d) {ci n N index a : Nat} {CN : String} {T : u_T} {ty0 : Nat → FieldType} {ty : FieldType} {fs : List Value} {v : Value} {V1 : VA} (pc q : Nat) (hq : q < 121) (ha : a = G.2.2 q) (hc : cellA G.2.1 G.2.2 V q = .inr (ci, fs)) (hcl : vwCl[ci]? = some (CN, T, N)) (hin : ∀ w ∈ u_ws CN T N, w ∈ gw) (hty : ∀ k, k < N → parseFieldDescriptor (T k).2.2.1 = some (ty0 k)) (hnm : ∀ a, a < N → ∀ b, b < N → a ≠ b → (T a).2.1 ≠ (T b).2.1)
    (hk : n < N) (hlink : Cond.fieldLink own index CN (T n).2.1 (T n).2.2.1 ∈ gw) (hT : (T n).1 = CN) (hfin : (T n).2.2.2 = false) (htd : ty0 n = ty) (hnv : narrow ty v = v) (hfit : fits ty v = true) (hl0 : n < fs.length) (hu : ∀ j, j < 121 → va_up (cellA G.2.1 G.2.2 V) q (.inr (ci, fs.set n v)) j = cellA G.2.1 G.2.2 V1 j) (hd : decode cc pc = .ok (.putfield index, 3))
    (k : JS G nL X Q sp V1 (pc + 3) L st) : JS G nL X Q sp V pc L (v :: .ref a :: st) := by
  intro x0 h0 H locs ls hP hS hl
  subst ha
  exact va_put C.1 C.2.1 C.2.2.2.2.1 hin ty0 hty hnm C.2.2.2.1 C.2.2.2.2.2.1.1 hP (wld_D C.2.2.2.2.2.2.1 V _) hS q (by rw [wld_at G V hq, hc]) hcl n hk (C.2.2.2.2.1 _ hlink) (fun x h => by rw [hT] at h; exact h) hfin (by rw [hty n hk, htd]) hnv hfit hl0 hd (fun H1 locs1 hP1 _ hS1 => k x0 h0 H1 locs1 ls (by rw [← wld_set hq hu]; exact hP1) hS1 hl)
end
-- ===== contracts =====
abbrev RM (d : Nat) : Room := { frames := d, cells := 0, slots := 0, locals := 31 * d }
def PcW (G : GG) (V : VA) (sz : Nat) : State → Prop := fun U => U.heap.size = sz ∧ va_P G.1 vwCl (wld G V) U.heap ∧ WK G U
def QR (G : GG) (sz : Nat) (rv : Option Value) (V : VA) : Array Value → State → Outcome → State → Prop := fun _ st oc t => (oc = .returned rv ∧ va_P G.1 vwCl (wld G V) t.heap) ∧ va_F (AA G sz) st t
def Ct (l : Launch) (y : MethodName) (cc : ByteArray) (nL : Nat) (ret : Option FieldType) (d : Nat) (as : List Value) (G : GG) (V : VA) (rv : Option Value) (V1 : VA) : Prop :=
  ∀ sz, Met l y (gws y cc nL ret) (RM d) (va_Pc as (PcW G V sz)) (QR G sz rv V1) 0 0 (AA G sz)
def QM {ρ : Type} (G : GG) (X : WX) (rv : ρ → Option Value) (fin : ρ → VA) (x : ρ) : State → Prop := MQ (xb X) (QR G (xs X).heap.size (rv x) (fin x)) (xa X) (xs X) (xk X) (xz X) (AA G (xs X).heap.size)
theorem ct_of {ρ : Type} {l : Launch} {y : MethodName} {cc : ByteArray} {nL : Nat} {ret : Option FieldType} {d : Nat} {as : List Value} {G : GG} {V : VA} {rv : ρ → Option Value} {fin : ρ → VA} {sp : Option ρ} {own : String}
    (hG : Gok G) (hy : plainName y.cls = true) (hown : y.cls = own) (hsl : (lg_sl as).length ≤ nL)
    (body : ∀ X : WX, Cx G nL X own cc d → (xM X).sig.returnType = ret → xl X = l → JS G nL X (QM G X rv fin) sp V 0 (lv_args 0 as) []) {x : ρ} (hx : sp = some x) : Ct l y cc nL ret d as G V (rv x) (fin x) := by
  intro sz
  refine Met.ofW (cc := cc) (maxL := nL) (ret := ret) hy rfl ?_
  intro p e s m args below meth c s₁ B hml hv
  obtain ⟨rfl, hsz, hP, hK⟩ := hv
  have hts := atoms_spec (ws := gws y cc nL ret) B.pre
  have hown2 : s.vm.findClass own = some m.cls := hown ▸ findClass_of_methodNamed B.named
  have C : Cx G nL (p, l, e, RM d, s, m, as.toArray, below, meth, c, 0, 0) own cc d := ⟨B.exec, B.bytes, hml, hown2, fun w h => hts w (List.mem_cons_of_mem _ h), hK, hG, B.notSynchronized, Nat.le_refl _, Nat.le_refl _, Nat.le_refl _, Nat.le_refl _⟩
  have hl := lv_entry as hsl
  subst hsz
  have K := body _ C B.returns rfl x hx s.heap [] _ hP va_S.rf hl
  rw [lg_entry_eq]
  exact K
section
variable {ρ : Type} {G : GG} {nL : Nat} {X : WX} {rv : ρ → Option Value} {fin : ρ → VA} {x : ρ} {V : VA} {L : List (Nat × Value)} {st : List Value} {own : String} {cc : ByteArray} {d : Nat}
theorem q_end {H : Heap} {locs : List Loc} {r : Option Value} (hrv : rv x = r) (hf : fin x = V) (hP : va_P G.1 vwCl (wld G V) H) (hS : va_S (AA G (xs X).heap.size) (xs X).heap H locs) : ∀ t : State, t.heap = H → (xs X).WarmedH t.vm → QR G (xs X).heap.size (rv x) (fin x) (xa X) (xs X) (.returned r) t :=
  fun t ht _ => ⟨⟨by rw [hrv], by rw [hf, ht]; exact hP⟩, hS.F ht⟩
theorem j_iret (C : Cx G nL X own cc d) {v : Int32} (pc : Nat) (hr : (xM X).sig.returnType = some .int) (hrv : rv x = some (.int v)) (hf : fin x = V) (hd : decode cc pc = .ok (.ireturn, 1)) : JS G nL X (QM G X rv fin) (some x) V pc L [.int v] := by
  intro x0 h0 H locs ls hP hS hl
  cases h0
  exact W.iret C.1 C.2.1 hr (q_end hrv hf hP hS) hS.2.2 hd C.2.2.2.2.2.2.2.1
theorem j_zret (C : Cx G nL X own cc d) {v : Int32} (pc : Nat) (hr : (xM X).sig.returnType = some .boolean) (hn : narrow .boolean (.int v) = .int v) (hrv : rv x = some (.int v)) (hf : fin x = V) (hd : decode cc pc = .ok (.ireturn, 1)) : JS G nL X (QM G X rv fin) (some x) V pc L [.int v] := by
  intro x0 h0 H locs ls hP hS hl
  cases h0
  exact W.zret C.1 C.2.1 hr hn (q_end hrv hf hP hS) hS.2.2 hd C.2.2.2.2.2.2.2.1
theorem j_lret (C : Cx G nL X own cc d) {v : Int64} (pc : Nat) (hr : (xM X).sig.returnType = some .long) (hrv : rv x = some (.long v)) (hf : fin x = V) (hd : decode cc pc = .ok (.lreturn, 1)) : JS G nL X (QM G X rv fin) (some x) V pc L [.long v] := by
  intro x0 h0 H locs ls hP hS hl
  cases h0
  exact W.lret C.1 C.2.1 hr (q_end hrv hf hP hS) hS.2.2 hd C.2.2.2.2.2.2.2.1
theorem j_fret (C : Cx G nL X own cc d) {v : UInt32} (pc : Nat) (hr : (xM X).sig.returnType = some .float) (hrv : rv x = some (.float v)) (hf : fin x = V) (hd : decode cc pc = .ok (.freturn, 1)) : JS G nL X (QM G X rv fin) (some x) V pc L [.float v] := by
  intro x0 h0 H locs ls hP hS hl
  cases h0
  exact W.fret C.1 C.2.1 hr (q_end hrv hf hP hS) hS.2.2 hd C.2.2.2.2.2.2.2.1
theorem j_dret (C : Cx G nL X own cc d) {v : UInt64} (pc : Nat) (hr : (xM X).sig.returnType = some .double) (hrv : rv x = some (.double v)) (hf : fin x = V) (hd : decode cc pc = .ok (.dreturn, 1)) : JS G nL X (QM G X rv fin) (some x) V pc L [.double v] := by
  intro x0 h0 H locs ls hP hS hl
  cases h0
  exact W.dret C.1 C.2.1 hr (q_end hrv hf hP hS) hS.2.2 hd C.2.2.2.2.2.2.2.1
theorem j_vret (C : Cx G nL X own cc d) (pc : Nat) (hr : (xM X).sig.returnType = none) (hrv : rv x = none) (hf : fin x = V) (hd : decode cc pc = .ok (.return_, 1)) : JS G nL X (QM G X rv fin) (some x) V pc L [] := by
  intro x0 h0 H locs ls hP hS hl
  cases h0
  exact W.vret C.1 C.2.1 hr (q_end hrv hf hP hS) hS.2.2 hd C.2.2.2.2.2.2.2.1
theorem bck_in {x y : Int32} (h : bck x = some y) : narrow .boolean (.int y) = .int y ∧ y = x := by
  unfold bck at h
  split at h
  · next q => cases h; rcases q with q | q <;> (subst q; exact ⟨rfl, rfl⟩)
  · cases h
end
-- ===== calls =====
section
variable {ρ : Type} {G : GG} {nL : Nat} {X : WX} {Q : ρ → State → Prop} {sp : Option ρ} {V V1 V2 : VA} {L : List (Nat × Value)} {st : List Value} {own : String} {cc : ByteArray} {d d1 : Nat}
variable {y : MethodName} {bytes : ByteArray} {maxL index n : Nat} {ret : Option FieldType} {As : List Value} {rv : Option Value}
/-- what a callee's own words are, and its name's plainness -/
def KY (y : MethodName) (bytes : ByteArray) (maxL : Nat) (ret : Option FieldType) (n : Nat) : Prop :=
  Cond.code y bytes maxL ret ∈ gw ∧ Cond.initialized y.cls ∈ gw ∧ maxL ≤ 12 ∧ (y.cls ≠ "java/lang/invoke/MethodHandle" ∧ y.cls ≠ "java/lang/invoke/VarHandle" ∧ (parseMethodDescriptor y.desc).map (fun d => d.parameters.length) = some n)
theorem fb_PcW (as : List Value) (sz : Nat) : FrameBlind (va_Pc as (PcW G V sz)) := fun a U g mk q => ⟨q.1, q.2.1, q.2.2.1, q.2.2.2.call g mk a⟩
theorem pc_at {H : Heap} (C : Cx G nL X own cc d) (hP : va_P G.1 vwCl (wld G V) H) : ∀ U : State, U.heap = H → (xs X).WarmedH U.vm → (va_Pc As (PcW G V H.size)) As.toArray U :=
  fun U hU hW => ⟨rfl, by rw [hU], by rw [hU]; exact hP, C.2.2.2.2.2.1.warm hW⟩
theorem j_go {H : Heap} {locs : List Loc} {ls : Array Slot} {pc : Nat} {st0 : List Value} {as : Array Value} {x0 : ρ}
    (hr : va_Run (xp X) (xl X) (xe X) (xR X) (xs X) (xm X) (xa X) (xb X) (xM X) (xc X) H locs (xk X) (xz X) 0 0 (F0 (xm X) pc ls st0) st (QR G H.size rv V1 as) (AA G H.size))
    (hS : va_S (AA G (xs X).heap.size) (xs X).heap H locs) (hV : V1 = V2) (h0 : sp = some x0) (hl : lv_has ls nL L)
    (k : JS G nL X Q sp V2 (pc + 3) L (rv.toList ++ st)) : xW X H locs (Q x0) (F0 (xm X) pc ls st0) := by
  subst hV
  intro T hT X9
  obtain ⟨v, st₀, t, T', L9, hh, X', hL, e1, e2, ⟨⟨hv, hp⟩, hz, hk⟩, st9⟩ := hr T hT X9
  cases hv
  rw [hh] at hz hk
  have hA : ∀ q, AA G H.size q → AA G (xs X).heap.size q := fun q h => h.elim Or.inl (fun h => Or.inr (Nat.le_trans hS.1 h))
  obtain ⟨t2, a1, b1⟩ := k x0 h0 t.heap (locs ++ L9) ls hp ⟨Nat.le_trans hS.1 hz, fun q h1 h2 => (hk q (Nat.lt_of_lt_of_le h1 hS.1) (fun z => h2 (hA q z))).trans (hS.2.1 q h1 h2), fun q hq => by
      rcases List.mem_append.mp hq with h | h
      · exact hS.2.2 q h
      · exact hA _ (hL q h)⟩ hl T' e1 X'
  exact ⟨t2, st9 t2 a1, b1⟩
theorem kb_of (C : Cx G nL X own cc d) (hK : KY y bytes maxL ret n) (hlink : Cond.methodLink own index y ∈ gw) (hd : d1 + 1 ≤ d) : CallB (xR X) (xs X) (xa X) own index y bytes maxL ret (gws y bytes maxL ret) (RM d1) 0 0 n := by
  refine callB_of n C.2.2.2.2.1 (gws_in hK.1) rfl rfl rfl (C.2.2.2.2.1 _ hK.2.1) (C.2.2.2.2.1 _ hlink) hK.2.2.2 ⟨?_, ?_⟩
  · have := C.2.2.2.2.2.2.2.2.1
    show d1 + 1 ≤ _
    omega
  · have h1 := C.2.2.2.2.2.2.2.2.2.1
    have h2 := hK.2.2.1
    show 8 + (maxL + 11) + 31 * d1 ≤ _
    omega
theorem j_callV (C : Cx G nL X own cc d) (hK : KY y bytes maxL ret n) {b q ci : Nat} {cd : String × u_T × Nat} {fs : List Value} (pc : Nat) (hct : Ct (xl X) y bytes maxL ret d1 (.ref b :: As) G V rv V1) (hV : V1 = V2) (hq : q < 121) (hb : b = G.2.2 q) (hc : cellA G.2.1 G.2.2 V q = .inr (ci, fs)) (hcl : vwCl[ci]? = some cd) (hcn : cd.1 = y.cls)
    (hlink : Cond.methodLink own index y ∈ gw) (hi : Cond.instanceMethod y ∈ gw) (hs : Cond.selects y.cls y y ∈ gw) (hdd : d1 + 1 ≤ d) (hn : As.length = n) (hst : (st.map fun v => v.category).sum ≤ 8) (hd : decode cc pc = .ok (.invokevirtual index, 3))
    (k : JS G nL X Q sp V2 (pc + 3) L (rv.toList ++ st)) {st0 : List Value} (h0 : st0 = As.reverse ++ .ref b :: st) : JS G nL X Q sp V pc L st0 := by
  subst h0
  intro x0 h0 H locs ls hP hS hl
  have hc2 : (wld G V)[q]? = some (b, .inr (ci, fs)) := by rw [wld_at G V hq, hc, hb]
  exact j_go (va_runV ⟨C.1, C.2.1, C.2.2.1, C.2.2.2.1, C.2.2.2.2.1⟩ (hct H.size) ⟨kb_of C hK hlink hdd, C.2.2.2.2.1 _ hi, C.2.2.2.2.1 _ hs⟩ ⟨fb_PcW _ _, hcn ▸ va_recv C.2.2.2.2.2.1.1 hP hcl hc2, pc_at C hP⟩ rfl hn hl.1 rfl (lv_room hst) hd ⟨C.2.2.2.2.2.2.2.2.2.2.1, C.2.2.2.2.2.2.2.2.2.2.2⟩) hS hV h0 hl k
theorem j_callS (C : Cx G nL X own cc d) (hK : KY y bytes maxL ret n) (pc : Nat) (hct : Ct (xl X) y bytes maxL ret d1 As G V rv V1) (hV : V1 = V2) (hlink : Cond.methodLink own index y ∈ gw) (hi : Cond.static y ∈ gw) (hdd : d1 + 1 ≤ d) (hn : As.length = n) (hst : (st.map fun v => v.category).sum ≤ 8) (hd : decode cc pc = .ok (.invokestatic index, 3))
    (k : JS G nL X Q sp V2 (pc + 3) L (rv.toList ++ st)) {st0 : List Value} (h0 : st0 = As.reverse ++ st) : JS G nL X Q sp V pc L st0 := by
  subst h0
  intro x0 h0 H locs ls hP hS hl
  exact j_go (va_runS ⟨C.1, C.2.1, C.2.2.1, C.2.2.2.1, C.2.2.2.2.1⟩ (hct H.size) ⟨kb_of C hK hlink hdd, C.2.2.2.2.1 _ hi⟩ ⟨fb_PcW _ _, pc_at C hP⟩ rfl hn hl.1 rfl (lv_room hst) hd ⟨C.2.2.2.2.2.2.2.2.2.2.1, C.2.2.2.2.2.2.2.2.2.2.2⟩) hS hV h0 hl k
theorem j_callSN (C : Cx G nL X own cc d) (hK : KY y bytes maxL ret n) {host : String} (pc : Nat) (hct : Ct (xl X) y bytes maxL ret d1 As G V rv V1) (hV : V1 = V2) (hlink : Cond.methodLinkNest own index y host ∈ nestW) (hi : Cond.static y ∈ gw) (hdd : d1 + 1 ≤ d) (hn : As.length = n) (hst : (st.map fun v => v.category).sum ≤ 8) (hd : decode cc pc = .ok (.invokestatic index, 3))
    (k : JS G nL X Q sp V2 (pc + 3) L (rv.toList ++ st)) {st0 : List Value} (h0 : st0 = As.reverse ++ st) : JS G nL X Q sp V pc L st0 := by
  subst h0
  intro x0 h0 H locs ls hP hS hl
  have hcn : va_CN (xR X) (xs X) (xa X) own index y host bytes maxL ret (gws y bytes maxL ret) (RM d1) 0 0 n := by
    refine va_cnB n C.2.2.2.2.1 (gws_in hK.1) rfl rfl rfl (C.2.2.2.2.2.1.2 _ hlink) (C.2.2.2.2.1 _ hK.2.1) hK.2.2.2 ⟨?_, ?_⟩
    · have := C.2.2.2.2.2.2.2.2.1
      show d1 + 1 ≤ _
      omega
    · have h1 := C.2.2.2.2.2.2.2.2.2.1
      have h2 := hK.2.2.1
      show 8 + (maxL + 11) + 31 * d1 ≤ _
      omega
  exact j_go (va_runSN ⟨C.1, C.2.1, C.2.2.1, C.2.2.2.1, C.2.2.2.2.1⟩ (hct H.size) ⟨hcn, C.2.2.2.2.1 _ hi, trivial⟩ ⟨fb_PcW _ _, pc_at C hP⟩ rfl hn hl.1 rfl (lv_room hst) hd ⟨C.2.2.2.2.2.2.2.2.2.2.1, C.2.2.2.2.2.2.2.2.2.2.2⟩) hS hV h0 hl k
end
end
