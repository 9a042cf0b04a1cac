section
-- ===== PART A: goes FIRST, ahead of the names: the tables' words, and 'selects' of the private methods out of them =====
/-- a private method of a class that the tables say can be made, by its rows of tables_1 -/
def lw_okq (q : MethodName × Nat) : Prop := (q.1.cls ≠ "java/lang/invoke/MethodHandle" ∧ q.1.cls ≠ "java/lang/invoke/VarHandle") ∧ Cond.instantiable q.1.cls q.2 ∈ tables_1 ∧ Cond.privateMethod q.1 ∈ tables_1 ∧ Cond.instanceMethod q.1 ∈ tables_1
theorem lw_p0 : lw_okq (⟨"DonkeyBridge$Text", "readHead", "(LDonkeyBridge$Law;)I"⟩, 2) := ⟨⟨by decide +kernel, by decide +kernel⟩, List.mem_of_getElem? (i := 50) (by decide +kernel), List.mem_of_getElem? (i := 390) (by decide +kernel), List.mem_of_getElem? (i := 391) (by decide +kernel)⟩
theorem lw_p1 : lw_okq (⟨"DonkeyBridge$Text", "readWord", "()I"⟩, 2) := ⟨⟨by decide +kernel, by decide +kernel⟩, List.mem_of_getElem? (i := 50) (by decide +kernel), List.mem_of_getElem? (i := 394) (by decide +kernel), List.mem_of_getElem? (i := 395) (by decide +kernel)⟩
theorem lw_p2 : lw_okq (⟨"DonkeyBridge$Text", "next", "(C)Z"⟩, 2) := ⟨⟨by decide +kernel, by decide +kernel⟩, List.mem_of_getElem? (i := 50) (by decide +kernel), List.mem_of_getElem? (i := 461) (by decide +kernel), List.mem_of_getElem? (i := 462) (by decide +kernel)⟩
theorem lw_p3 : lw_okq (⟨"DonkeyBridge$Text", "readNumber", "()I"⟩, 2) := ⟨⟨by decide +kernel, by decide +kernel⟩, List.mem_of_getElem? (i := 50) (by decide +kernel), List.mem_of_getElem? (i := 465) (by decide +kernel), List.mem_of_getElem? (i := 466) (by decide +kernel)⟩
theorem lw_p4 : lw_okq (⟨"DonkeyBridge$Text", "readEither", "(LDonkeyBridge$Law;I)Z"⟩, 2) := ⟨⟨by decide +kernel, by decide +kernel⟩, List.mem_of_getElem? (i := 50) (by decide +kernel), List.mem_of_getElem? (i := 473) (by decide +kernel), List.mem_of_getElem? (i := 474) (by decide +kernel)⟩
theorem lw_p5 : lw_okq (⟨"DonkeyBridge$Text", "readBoth", "(LDonkeyBridge$Law;I)Z"⟩, 2) := ⟨⟨by decide +kernel, by decide +kernel⟩, List.mem_of_getElem? (i := 50) (by decide +kernel), List.mem_of_getElem? (i := 477) (by decide +kernel), List.mem_of_getElem? (i := 478) (by decide +kernel)⟩
theorem lw_p6 : lw_okq (⟨"DonkeyBridge$Text", "readSingle", "(LDonkeyBridge$Law;I)Z"⟩, 2) := ⟨⟨by decide +kernel, by decide +kernel⟩, List.mem_of_getElem? (i := 50) (by decide +kernel), List.mem_of_getElem? (i := 481) (by decide +kernel), List.mem_of_getElem? (i := 482) (by decide +kernel)⟩
theorem lw_p7 : lw_okq (⟨"DonkeyBridge$Text", "readTest", "(LDonkeyBridge$Law;)Z"⟩, 2) := ⟨⟨by decide +kernel, by decide +kernel⟩, List.mem_of_getElem? (i := 50) (by decide +kernel), List.mem_of_getElem? (i := 485) (by decide +kernel), List.mem_of_getElem? (i := 486) (by decide +kernel)⟩
theorem lw_p8 : lw_okq (⟨"DonkeyBridge$Text", "placeIn", "(Ljava/lang/String;)I"⟩, 2) := ⟨⟨by decide +kernel, by decide +kernel⟩, List.mem_of_getElem? (i := 50) (by decide +kernel), List.mem_of_getElem? (i := 490) (by decide +kernel), List.mem_of_getElem? (i := 491) (by decide +kernel)⟩
theorem lw_p9 : lw_okq (⟨"DonkeyBridge", "isOver", "()Z"⟩, 12) := ⟨⟨by decide +kernel, by decide +kernel⟩, List.mem_of_getElem? (i := 22) (by decide +kernel), List.mem_of_getElem? (i := 584) (by decide +kernel), List.mem_of_getElem? (i := 585) (by decide +kernel)⟩
theorem lw_p10 : lw_okq (⟨"DonkeyBridge$Walk", "lookAround", "(LDonkeyBridge$Donkey;)V"⟩, 4) := ⟨⟨by decide +kernel, by decide +kernel⟩, List.mem_of_getElem? (i := 105) (by decide +kernel), List.mem_of_getElem? (i := 598) (by decide +kernel), List.mem_of_getElem? (i := 599) (by decide +kernel)⟩
theorem lw_p11 : lw_okq (⟨"DonkeyBridge$Law", "isTrue", "(I[I)Z"⟩, 6) := ⟨⟨by decide +kernel, by decide +kernel⟩, List.mem_of_getElem? (i := 80) (by decide +kernel), List.mem_of_getElem? (i := 612) (by decide +kernel), List.mem_of_getElem? (i := 613) (by decide +kernel)⟩
theorem lw_p12 : lw_okq (⟨"DonkeyBridge$Walk", "fearThatCounts", "(LDonkeyBridge$Donkey;I)I"⟩, 4) := ⟨⟨by decide +kernel, by decide +kernel⟩, List.mem_of_getElem? (i := 105) (by decide +kernel), List.mem_of_getElem? (i := 629) (by decide +kernel), List.mem_of_getElem? (i := 630) (by decide +kernel)⟩
theorem lw_p13 : lw_okq (⟨"DonkeyBridge$Walk", "moreBy", "(LDonkeyBridge$Donkey;I)I"⟩, 4) := ⟨⟨by decide +kernel, by decide +kernel⟩, List.mem_of_getElem? (i := 105) (by decide +kernel), List.mem_of_getElem? (i := 639) (by decide +kernel), List.mem_of_getElem? (i := 640) (by decide +kernel)⟩
theorem lw_p14 : lw_okq (⟨"DonkeyBridge$Walk", "follow", "(LDonkeyBridge$Donkey;III)V"⟩, 4) := ⟨⟨by decide +kernel, by decide +kernel⟩, List.mem_of_getElem? (i := 105) (by decide +kernel), List.mem_of_getElem? (i := 676) (by decide +kernel), List.mem_of_getElem? (i := 677) (by decide +kernel)⟩
theorem lw_p15 : lw_okq (⟨"DonkeyBridge$Trial", "begin", "()LDonkeyBridge$Donkey;"⟩, 9) := ⟨⟨by decide +kernel, by decide +kernel⟩, List.mem_of_getElem? (i := 179) (by decide +kernel), List.mem_of_getElem? (i := 702) (by decide +kernel), List.mem_of_getElem? (i := 703) (by decide +kernel)⟩
def lw_privs_1 : List (MethodName × Nat) := [(⟨"DonkeyBridge$Text", "readHead", "(LDonkeyBridge$Law;)I"⟩, 2), (⟨"DonkeyBridge$Text", "readWord", "()I"⟩, 2), (⟨"DonkeyBridge$Text", "next", "(C)Z"⟩, 2), (⟨"DonkeyBridge$Text", "readNumber", "()I"⟩, 2), (⟨"DonkeyBridge$Text", "readEither", "(LDonkeyBridge$Law;I)Z"⟩, 2), (⟨"DonkeyBridge$Text", "readBoth", "(LDonkeyBridge$Law;I)Z"⟩, 2), (⟨"DonkeyBridge$Text", "readSingle", "(LDonkeyBridge$Law;I)Z"⟩, 2), (⟨"DonkeyBridge$Text", "readTest", "(LDonkeyBridge$Law;)Z"⟩, 2), (⟨"DonkeyBridge$Text", "placeIn", "(Ljava/lang/String;)I"⟩, 2), (⟨"DonkeyBridge", "isOver", "()Z"⟩, 12), (⟨"DonkeyBridge$Walk", "lookAround", "(LDonkeyBridge$Donkey;)V"⟩, 4), (⟨"DonkeyBridge$Law", "isTrue", "(I[I)Z"⟩, 6), (⟨"DonkeyBridge$Walk", "fearThatCounts", "(LDonkeyBridge$Donkey;I)I"⟩, 4), (⟨"DonkeyBridge$Walk", "moreBy", "(LDonkeyBridge$Donkey;I)I"⟩, 4), (⟨"DonkeyBridge$Walk", "follow", "(LDonkeyBridge$Donkey;III)V"⟩, 4), (⟨"DonkeyBridge$Trial", "begin", "()LDonkeyBridge$Donkey;"⟩, 9)]
theorem lw_r1 : ∀ q ∈ lw_privs_1, lw_okq q := List.forall_mem_cons.mpr ⟨lw_p0, List.forall_mem_cons.mpr ⟨lw_p1, List.forall_mem_cons.mpr ⟨lw_p2, List.forall_mem_cons.mpr ⟨lw_p3, List.forall_mem_cons.mpr ⟨lw_p4, List.forall_mem_cons.mpr ⟨lw_p5, List.forall_mem_cons.mpr ⟨lw_p6, List.forall_mem_cons.mpr ⟨lw_p7, List.forall_mem_cons.mpr ⟨lw_p8, List.forall_mem_cons.mpr ⟨lw_p9, List.forall_mem_cons.mpr ⟨lw_p10, List.forall_mem_cons.mpr ⟨lw_p11, List.forall_mem_cons.mpr ⟨lw_p12, List.forall_mem_cons.mpr ⟨lw_p13, List.forall_mem_cons.mpr ⟨lw_p14, List.forall_mem_cons.mpr ⟨lw_p15, fun _ h => absurd h List.not_mem_nil⟩⟩⟩⟩⟩⟩⟩⟩⟩⟩⟩⟩⟩⟩⟩⟩
theorem lw_p16 : lw_okq (⟨"DonkeyBridge$Trial", "stage", "(I)LDonkeyBridge$Donkey;"⟩, 9) := ⟨⟨by decide +kernel, by decide +kernel⟩, List.mem_of_getElem? (i := 179) (by decide +kernel), List.mem_of_getElem? (i := 706) (by decide +kernel), List.mem_of_getElem? (i := 707) (by decide +kernel)⟩
theorem lw_p17 : lw_okq (⟨"DonkeyBridge$Trial", "doRow", "(LDonkeyBridge$Donkey;I)V"⟩, 9) := ⟨⟨by decide +kernel, by decide +kernel⟩, List.mem_of_getElem? (i := 179) (by decide +kernel), List.mem_of_getElem? (i := 718) (by decide +kernel), List.mem_of_getElem? (i := 719) (by decide +kernel)⟩
theorem lw_p18 : lw_okq (⟨"DonkeyBridge$Trial", "trySooner", "(I)V"⟩, 9) := ⟨⟨by decide +kernel, by decide +kernel⟩, List.mem_of_getElem? (i := 179) (by decide +kernel), List.mem_of_getElem? (i := 733) (by decide +kernel), List.mem_of_getElem? (i := 734) (by decide +kernel)⟩
theorem lw_p19 : lw_okq (⟨"DonkeyBridge$Trial", "trySoonerWith", "(II)V"⟩, 9) := ⟨⟨by decide +kernel, by decide +kernel⟩, List.mem_of_getElem? (i := 179) (by decide +kernel), List.mem_of_getElem? (i := 737) (by decide +kernel), List.mem_of_getElem? (i := 738) (by decide +kernel)⟩
theorem lw_p20 : lw_okq (⟨"DonkeyBridge$Trial", "stageAfter", "(I)LDonkeyBridge$Donkey;"⟩, 9) := ⟨⟨by decide +kernel, by decide +kernel⟩, List.mem_of_getElem? (i := 179) (by decide +kernel), List.mem_of_getElem? (i := 741) (by decide +kernel), List.mem_of_getElem? (i := 742) (by decide +kernel)⟩
theorem lw_p21 : lw_okq (⟨"DonkeyBridge$Trial", "keepTried", "(I)V"⟩, 9) := ⟨⟨by decide +kernel, by decide +kernel⟩, List.mem_of_getElem? (i := 179) (by decide +kernel), List.mem_of_getElem? (i := 745) (by decide +kernel), List.mem_of_getElem? (i := 746) (by decide +kernel)⟩
theorem lw_p22 : lw_okq (⟨"DonkeyBridge$Trial", "tryGentler", "(II)V"⟩, 9) := ⟨⟨by decide +kernel, by decide +kernel⟩, List.mem_of_getElem? (i := 179) (by decide +kernel), List.mem_of_getElem? (i := 762) (by decide +kernel), List.mem_of_getElem? (i := 763) (by decide +kernel)⟩
theorem lw_p23 : lw_okq (⟨"DonkeyBridge$Trial", "keepGentler", "(LDonkeyBridge$Donkey;I)V"⟩, 9) := ⟨⟨by decide +kernel, by decide +kernel⟩, List.mem_of_getElem? (i := 179) (by decide +kernel), List.mem_of_getElem? (i := 766) (by decide +kernel), List.mem_of_getElem? (i := 767) (by decide +kernel)⟩
theorem lw_p24 : lw_okq (⟨"DonkeyBridge$Trial", "tryGentlerWith", "(III)V"⟩, 9) := ⟨⟨by decide +kernel, by decide +kernel⟩, List.mem_of_getElem? (i := 179) (by decide +kernel), List.mem_of_getElem? (i := 771) (by decide +kernel), List.mem_of_getElem? (i := 772) (by decide +kernel)⟩
theorem lw_p25 : lw_okq (⟨"DonkeyBridge$Trial", "hurtWith", "(I)I"⟩, 9) := ⟨⟨by decide +kernel, by decide +kernel⟩, List.mem_of_getElem? (i := 179) (by decide +kernel), List.mem_of_getElem? (i := 803) (by decide +kernel), List.mem_of_getElem? (i := 804) (by decide +kernel)⟩
theorem lw_p26 : lw_okq (⟨"DonkeyBridge$Trial", "waysFrom", "(II)J"⟩, 9) := ⟨⟨by decide +kernel, by decide +kernel⟩, List.mem_of_getElem? (i := 179) (by decide +kernel), List.mem_of_getElem? (i := 822) (by decide +kernel), List.mem_of_getElem? (i := 823) (by decide +kernel)⟩
theorem lw_p27 : lw_okq (⟨"DonkeyBridge$Trial", "waysWith", "(III)J"⟩, 9) := ⟨⟨by decide +kernel, by decide +kernel⟩, List.mem_of_getElem? (i := 179) (by decide +kernel), List.mem_of_getElem? (i := 826) (by decide +kernel), List.mem_of_getElem? (i := 827) (by decide +kernel)⟩
theorem lw_p28 : lw_okq (⟨"DonkeyBridge", "tapeOf", "(I)LDonkeyBridge$Tape;"⟩, 12) := ⟨⟨by decide +kernel, by decide +kernel⟩, List.mem_of_getElem? (i := 22) (by decide +kernel), List.mem_of_getElem? (i := 877) (by decide +kernel), List.mem_of_getElem? (i := 878) (by decide +kernel)⟩
theorem lw_p29 : lw_okq (⟨"DonkeyBridge", "heldLaw", "()LDonkeyBridge$Law;"⟩, 12) := ⟨⟨by decide +kernel, by decide +kernel⟩, List.mem_of_getElem? (i := 22) (by decide +kernel), List.mem_of_getElem? (i := 922) (by decide +kernel), List.mem_of_getElem? (i := 923) (by decide +kernel)⟩
theorem lw_p30 : lw_okq (⟨"DonkeyBridge$Bodies", "run", "(IIII)I"⟩, 6) := ⟨⟨by decide +kernel, by decide +kernel⟩, List.mem_of_getElem? (i := 216) (by decide +kernel), List.mem_of_getElem? (i := 938) (by decide +kernel), List.mem_of_getElem? (i := 939) (by decide +kernel)⟩
theorem lw_p31 : lw_okq (⟨"DonkeyBridge$Bodies", "answer", "(III)I"⟩, 6) := ⟨⟨by decide +kernel, by decide +kernel⟩, List.mem_of_getElem? (i := 216) (by decide +kernel), List.mem_of_getElem? (i := 953) (by decide +kernel), List.mem_of_getElem? (i := 954) (by decide +kernel)⟩
def lw_privs_2 : List (MethodName × Nat) := [(⟨"DonkeyBridge$Trial", "stage", "(I)LDonkeyBridge$Donkey;"⟩, 9), (⟨"DonkeyBridge$Trial", "doRow", "(LDonkeyBridge$Donkey;I)V"⟩, 9), (⟨"DonkeyBridge$Trial", "trySooner", "(I)V"⟩, 9), (⟨"DonkeyBridge$Trial", "trySoonerWith", "(II)V"⟩, 9), (⟨"DonkeyBridge$Trial", "stageAfter", "(I)LDonkeyBridge$Donkey;"⟩, 9), (⟨"DonkeyBridge$Trial", "keepTried", "(I)V"⟩, 9), (⟨"DonkeyBridge$Trial", "tryGentler", "(II)V"⟩, 9), (⟨"DonkeyBridge$Trial", "keepGentler", "(LDonkeyBridge$Donkey;I)V"⟩, 9), (⟨"DonkeyBridge$Trial", "tryGentlerWith", "(III)V"⟩, 9), (⟨"DonkeyBridge$Trial", "hurtWith", "(I)I"⟩, 9), (⟨"DonkeyBridge$Trial", "waysFrom", "(II)J"⟩, 9), (⟨"DonkeyBridge$Trial", "waysWith", "(III)J"⟩, 9), (⟨"DonkeyBridge", "tapeOf", "(I)LDonkeyBridge$Tape;"⟩, 12), (⟨"DonkeyBridge", "heldLaw", "()LDonkeyBridge$Law;"⟩, 12), (⟨"DonkeyBridge$Bodies", "run", "(IIII)I"⟩, 6), (⟨"DonkeyBridge$Bodies", "answer", "(III)I"⟩, 6)]
theorem lw_r2 : ∀ q ∈ lw_privs_2, lw_okq q := List.forall_mem_cons.mpr ⟨lw_p16, List.forall_mem_cons.mpr ⟨lw_p17, List.forall_mem_cons.mpr ⟨lw_p18, List.forall_mem_cons.mpr ⟨lw_p19, List.forall_mem_cons.mpr ⟨lw_p20, List.forall_mem_cons.mpr ⟨lw_p21, List.forall_mem_cons.mpr ⟨lw_p22, List.forall_mem_cons.mpr ⟨lw_p23, List.forall_mem_cons.mpr ⟨lw_p24, List.forall_mem_cons.mpr ⟨lw_p25, List.forall_mem_cons.mpr ⟨lw_p26, List.forall_mem_cons.mpr ⟨lw_p27, List.forall_mem_cons.mpr ⟨lw_p28, List.forall_mem_cons.mpr ⟨lw_p29, List.forall_mem_cons.mpr ⟨lw_p30, List.forall_mem_cons.mpr ⟨lw_p31, fun _ h => absurd h List.not_mem_nil⟩⟩⟩⟩⟩⟩⟩⟩⟩⟩⟩⟩⟩⟩⟩⟩
theorem lw_p32 : lw_okq (⟨"DonkeyBridge$Tape", "cut", "(J)J"⟩, 3) := ⟨⟨by decide +kernel, by decide +kernel⟩, List.mem_of_getElem? (i := 244) (by decide +kernel), List.mem_of_getElem? (i := 1004) (by decide +kernel), List.mem_of_getElem? (i := 1005) (by decide +kernel)⟩
theorem lw_p33 : lw_okq (⟨"DonkeyBridgeModel", "isPlace", "(I)Z"⟩, 51) := ⟨⟨by decide +kernel, by decide +kernel⟩, List.mem_of_getElem? (i := 1027) (by decide +kernel), List.mem_of_getElem? (i := 1198) (by decide +kernel), List.mem_of_getElem? (i := 1199) (by decide +kernel)⟩
theorem lw_p34 : lw_okq (⟨"DonkeyBridgeModel", "mostOf", "(I)I"⟩, 51) := ⟨⟨by decide +kernel, by decide +kernel⟩, List.mem_of_getElem? (i := 1027) (by decide +kernel), List.mem_of_getElem? (i := 1206) (by decide +kernel), List.mem_of_getElem? (i := 1207) (by decide +kernel)⟩
theorem lw_p35 : lw_okq (⟨"DonkeyBridgeModel", "nowOf", "(I)I"⟩, 51) := ⟨⟨by decide +kernel, by decide +kernel⟩, List.mem_of_getElem? (i := 1027) (by decide +kernel), List.mem_of_getElem? (i := 1214) (by decide +kernel), List.mem_of_getElem? (i := 1215) (by decide +kernel)⟩
theorem lw_p36 : lw_okq (⟨"DonkeyBridgeModel", "learnt", "()I"⟩, 51) := ⟨⟨by decide +kernel, by decide +kernel⟩, List.mem_of_getElem? (i := 1027) (by decide +kernel), List.mem_of_getElem? (i := 1218) (by decide +kernel), List.mem_of_getElem? (i := 1219) (by decide +kernel)⟩
theorem lw_p37 : lw_okq (⟨"DonkeyBridgeModel", "clause", "()V"⟩, 51) := ⟨⟨by decide +kernel, by decide +kernel⟩, List.mem_of_getElem? (i := 1027) (by decide +kernel), List.mem_of_getElem? (i := 1230) (by decide +kernel), List.mem_of_getElem? (i := 1231) (by decide +kernel)⟩
theorem lw_p38 : lw_okq (⟨"DonkeyBridgeModel", "readWord", "()I"⟩, 51) := ⟨⟨by decide +kernel, by decide +kernel⟩, List.mem_of_getElem? (i := 1027) (by decide +kernel), List.mem_of_getElem? (i := 1234) (by decide +kernel), List.mem_of_getElem? (i := 1235) (by decide +kernel)⟩
theorem lw_p39 : lw_okq (⟨"DonkeyBridgeModel", "faulty", "()V"⟩, 51) := ⟨⟨by decide +kernel, by decide +kernel⟩, List.mem_of_getElem? (i := 1027) (by decide +kernel), List.mem_of_getElem? (i := 1238) (by decide +kernel), List.mem_of_getElem? (i := 1239) (by decide +kernel)⟩
theorem lw_p40 : lw_okq (⟨"DonkeyBridgeModel", "readNumber", "()I"⟩, 51) := ⟨⟨by decide +kernel, by decide +kernel⟩, List.mem_of_getElem? (i := 1027) (by decide +kernel), List.mem_of_getElem? (i := 1242) (by decide +kernel), List.mem_of_getElem? (i := 1243) (by decide +kernel)⟩
theorem lw_p41 : lw_okq (⟨"DonkeyBridgeModel", "isDigit", "()Z"⟩, 51) := ⟨⟨by decide +kernel, by decide +kernel⟩, List.mem_of_getElem? (i := 1027) (by decide +kernel), List.mem_of_getElem? (i := 1246) (by decide +kernel), List.mem_of_getElem? (i := 1247) (by decide +kernel)⟩
theorem lw_p42 : lw_okq (⟨"DonkeyBridgeModel", "takes", "(I)V"⟩, 51) := ⟨⟨by decide +kernel, by decide +kernel⟩, List.mem_of_getElem? (i := 1027) (by decide +kernel), List.mem_of_getElem? (i := 1250) (by decide +kernel), List.mem_of_getElem? (i := 1251) (by decide +kernel)⟩
theorem lw_p43 : lw_okq (⟨"DonkeyBridgeModel", "isHere", "(I)Z"⟩, 51) := ⟨⟨by decide +kernel, by decide +kernel⟩, List.mem_of_getElem? (i := 1027) (by decide +kernel), List.mem_of_getElem? (i := 1254) (by decide +kernel), List.mem_of_getElem? (i := 1255) (by decide +kernel)⟩
theorem lw_p44 : lw_okq (⟨"DonkeyBridgeModel", "either", "(I)V"⟩, 51) := ⟨⟨by decide +kernel, by decide +kernel⟩, List.mem_of_getElem? (i := 1027) (by decide +kernel), List.mem_of_getElem? (i := 1258) (by decide +kernel), List.mem_of_getElem? (i := 1259) (by decide +kernel)⟩
theorem lw_p45 : lw_okq (⟨"DonkeyBridgeModel", "both", "(I)V"⟩, 51) := ⟨⟨by decide +kernel, by decide +kernel⟩, List.mem_of_getElem? (i := 1027) (by decide +kernel), List.mem_of_getElem? (i := 1262) (by decide +kernel), List.mem_of_getElem? (i := 1263) (by decide +kernel)⟩
theorem lw_p46 : lw_okq (⟨"DonkeyBridgeModel", "one", "(I)V"⟩, 51) := ⟨⟨by decide +kernel, by decide +kernel⟩, List.mem_of_getElem? (i := 1027) (by decide +kernel), List.mem_of_getElem? (i := 1266) (by decide +kernel), List.mem_of_getElem? (i := 1267) (by decide +kernel)⟩
theorem lw_p47 : lw_okq (⟨"DonkeyBridgeModel", "lay", "(I)V"⟩, 51) := ⟨⟨by decide +kernel, by decide +kernel⟩, List.mem_of_getElem? (i := 1027) (by decide +kernel), List.mem_of_getElem? (i := 1270) (by decide +kernel), List.mem_of_getElem? (i := 1271) (by decide +kernel)⟩
def lw_privs_3 : List (MethodName × Nat) := [(⟨"DonkeyBridge$Tape", "cut", "(J)J"⟩, 3), (⟨"DonkeyBridgeModel", "isPlace", "(I)Z"⟩, 51), (⟨"DonkeyBridgeModel", "mostOf", "(I)I"⟩, 51), (⟨"DonkeyBridgeModel", "nowOf", "(I)I"⟩, 51), (⟨"DonkeyBridgeModel", "learnt", "()I"⟩, 51), (⟨"DonkeyBridgeModel", "clause", "()V"⟩, 51), (⟨"DonkeyBridgeModel", "readWord", "()I"⟩, 51), (⟨"DonkeyBridgeModel", "faulty", "()V"⟩, 51), (⟨"DonkeyBridgeModel", "readNumber", "()I"⟩, 51), (⟨"DonkeyBridgeModel", "isDigit", "()Z"⟩, 51), (⟨"DonkeyBridgeModel", "takes", "(I)V"⟩, 51), (⟨"DonkeyBridgeModel", "isHere", "(I)Z"⟩, 51), (⟨"DonkeyBridgeModel", "either", "(I)V"⟩, 51), (⟨"DonkeyBridgeModel", "both", "(I)V"⟩, 51), (⟨"DonkeyBridgeModel", "one", "(I)V"⟩, 51), (⟨"DonkeyBridgeModel", "lay", "(I)V"⟩, 51)]
theorem lw_r3 : ∀ q ∈ lw_privs_3, lw_okq q := List.forall_mem_cons.mpr ⟨lw_p32, List.forall_mem_cons.mpr ⟨lw_p33, List.forall_mem_cons.mpr ⟨lw_p34, List.forall_mem_cons.mpr ⟨lw_p35, List.forall_mem_cons.mpr ⟨lw_p36, List.forall_mem_cons.mpr ⟨lw_p37, List.forall_mem_cons.mpr ⟨lw_p38, List.forall_mem_cons.mpr ⟨lw_p39, List.forall_mem_cons.mpr ⟨lw_p40, List.forall_mem_cons.mpr ⟨lw_p41, List.forall_mem_cons.mpr ⟨lw_p42, List.forall_mem_cons.mpr ⟨lw_p43, List.forall_mem_cons.mpr ⟨lw_p44, List.forall_mem_cons.mpr ⟨lw_p45, List.forall_mem_cons.mpr ⟨lw_p46, List.forall_mem_cons.mpr ⟨lw_p47, fun _ h => absurd h List.not_mem_nil⟩⟩⟩⟩⟩⟩⟩⟩⟩⟩⟩⟩⟩⟩⟩⟩
theorem lw_p48 : lw_okq (⟨"DonkeyBridgeModel", "isLetter", "()Z"⟩, 51) := ⟨⟨by decide +kernel, by decide +kernel⟩, List.mem_of_getElem? (i := 1027) (by decide +kernel), List.mem_of_getElem? (i := 1274) (by decide +kernel), List.mem_of_getElem? (i := 1275) (by decide +kernel)⟩
theorem lw_p49 : lw_okq (⟨"DonkeyBridgeModel", "lastOf", "(I)I"⟩, 51) := ⟨⟨by decide +kernel, by decide +kernel⟩, List.mem_of_getElem? (i := 1027) (by decide +kernel), List.mem_of_getElem? (i := 1282) (by decide +kernel), List.mem_of_getElem? (i := 1283) (by decide +kernel)⟩
theorem lw_p50 : lw_okq (⟨"DonkeyBridgeModel", "isOver", "()Z"⟩, 51) := ⟨⟨by decide +kernel, by decide +kernel⟩, List.mem_of_getElem? (i := 1027) (by decide +kernel), List.mem_of_getElem? (i := 1286) (by decide +kernel), List.mem_of_getElem? (i := 1287) (by decide +kernel)⟩
theorem lw_p51 : lw_okq (⟨"DonkeyBridgeModel", "sumOf", "(I)I"⟩, 51) := ⟨⟨by decide +kernel, by decide +kernel⟩, List.mem_of_getElem? (i := 1027) (by decide +kernel), List.mem_of_getElem? (i := 1290) (by decide +kernel), List.mem_of_getElem? (i := 1291) (by decide +kernel)⟩
theorem lw_p52 : lw_okq (⟨"DonkeyBridgeModel", "isSo", "(I)Z"⟩, 51) := ⟨⟨by decide +kernel, by decide +kernel⟩, List.mem_of_getElem? (i := 1027) (by decide +kernel), List.mem_of_getElem? (i := 1294) (by decide +kernel), List.mem_of_getElem? (i := 1295) (by decide +kernel)⟩
theorem lw_p53 : lw_okq (⟨"DonkeyBridgeModel", "factOf", "(I)I"⟩, 51) := ⟨⟨by decide +kernel, by decide +kernel⟩, List.mem_of_getElem? (i := 1027) (by decide +kernel), List.mem_of_getElem? (i := 1298) (by decide +kernel), List.mem_of_getElem? (i := 1299) (by decide +kernel)⟩
theorem lw_p54 : lw_okq (⟨"DonkeyBridgeModel", "driveBy", "(I)I"⟩, 51) := ⟨⟨by decide +kernel, by decide +kernel⟩, List.mem_of_getElem? (i := 1027) (by decide +kernel), List.mem_of_getElem? (i := 1320) (by decide +kernel), List.mem_of_getElem? (i := 1321) (by decide +kernel)⟩
theorem lw_p55 : lw_okq (⟨"DonkeyBridgeModel", "lessBy", "(II)I"⟩, 51) := ⟨⟨by decide +kernel, by decide +kernel⟩, List.mem_of_getElem? (i := 1027) (by decide +kernel), List.mem_of_getElem? (i := 1324) (by decide +kernel), List.mem_of_getElem? (i := 1325) (by decide +kernel)⟩
theorem lw_p56 : lw_okq (⟨"DonkeyBridgeModel", "fearAs", "(I)I"⟩, 51) := ⟨⟨by decide +kernel, by decide +kernel⟩, List.mem_of_getElem? (i := 1027) (by decide +kernel), List.mem_of_getElem? (i := 1328) (by decide +kernel), List.mem_of_getElem? (i := 1329) (by decide +kernel)⟩
theorem lw_p57 : lw_okq (⟨"DonkeyBridgeModel", "wouldBy", "(I)I"⟩, 51) := ⟨⟨by decide +kernel, by decide +kernel⟩, List.mem_of_getElem? (i := 1027) (by decide +kernel), List.mem_of_getElem? (i := 1336) (by decide +kernel), List.mem_of_getElem? (i := 1337) (by decide +kernel)⟩
theorem lw_p58 : lw_okq (⟨"DonkeyBridgeModel", "fordHalves", "()I"⟩, 51) := ⟨⟨by decide +kernel, by decide +kernel⟩, List.mem_of_getElem? (i := 1027) (by decide +kernel), List.mem_of_getElem? (i := 1344) (by decide +kernel), List.mem_of_getElem? (i := 1345) (by decide +kernel)⟩
theorem lw_p59 : lw_okq (⟨"DonkeyBridgeModel", "does", "(I)I"⟩, 51) := ⟨⟨by decide +kernel, by decide +kernel⟩, List.mem_of_getElem? (i := 1027) (by decide +kernel), List.mem_of_getElem? (i := 1348) (by decide +kernel), List.mem_of_getElem? (i := 1349) (by decide +kernel)⟩
theorem lw_p60 : lw_okq (⟨"DonkeyBridgeModel", "more", "(II)V"⟩, 51) := ⟨⟨by decide +kernel, by decide +kernel⟩, List.mem_of_getElem? (i := 1027) (by decide +kernel), List.mem_of_getElem? (i := 1352) (by decide +kernel), List.mem_of_getElem? (i := 1353) (by decide +kernel)⟩
theorem lw_p61 : lw_okq (⟨"DonkeyBridgeModel", "driven", "(IZI)V"⟩, 51) := ⟨⟨by decide +kernel, by decide +kernel⟩, List.mem_of_getElem? (i := 1027) (by decide +kernel), List.mem_of_getElem? (i := 1356) (by decide +kernel), List.mem_of_getElem? (i := 1357) (by decide +kernel)⟩
theorem lw_p62 : lw_okq (⟨"DonkeyBridgeModel", "keepNow", "()V"⟩, 51) := ⟨⟨by decide +kernel, by decide +kernel⟩, List.mem_of_getElem? (i := 1027) (by decide +kernel), List.mem_of_getElem? (i := 1368) (by decide +kernel), List.mem_of_getElem? (i := 1369) (by decide +kernel)⟩
theorem lw_p63 : lw_okq (⟨"DonkeyBridgeModel", "layBack", "()V"⟩, 51) := ⟨⟨by decide +kernel, by decide +kernel⟩, List.mem_of_getElem? (i := 1027) (by decide +kernel), List.mem_of_getElem? (i := 1372) (by decide +kernel), List.mem_of_getElem? (i := 1373) (by decide +kernel)⟩
def lw_privs_4 : List (MethodName × Nat) := [(⟨"DonkeyBridgeModel", "isLetter", "()Z"⟩, 51), (⟨"DonkeyBridgeModel", "lastOf", "(I)I"⟩, 51), (⟨"DonkeyBridgeModel", "isOver", "()Z"⟩, 51), (⟨"DonkeyBridgeModel", "sumOf", "(I)I"⟩, 51), (⟨"DonkeyBridgeModel", "isSo", "(I)Z"⟩, 51), (⟨"DonkeyBridgeModel", "factOf", "(I)I"⟩, 51), (⟨"DonkeyBridgeModel", "driveBy", "(I)I"⟩, 51), (⟨"DonkeyBridgeModel", "lessBy", "(II)I"⟩, 51), (⟨"DonkeyBridgeModel", "fearAs", "(I)I"⟩, 51), (⟨"DonkeyBridgeModel", "wouldBy", "(I)I"⟩, 51), (⟨"DonkeyBridgeModel", "fordHalves", "()I"⟩, 51), (⟨"DonkeyBridgeModel", "does", "(I)I"⟩, 51), (⟨"DonkeyBridgeModel", "more", "(II)V"⟩, 51), (⟨"DonkeyBridgeModel", "driven", "(IZI)V"⟩, 51), (⟨"DonkeyBridgeModel", "keepNow", "()V"⟩, 51), (⟨"DonkeyBridgeModel", "layBack", "()V"⟩, 51)]
theorem lw_r4 : ∀ q ∈ lw_privs_4, lw_okq q := List.forall_mem_cons.mpr ⟨lw_p48, List.forall_mem_cons.mpr ⟨lw_p49, List.forall_mem_cons.mpr ⟨lw_p50, List.forall_mem_cons.mpr ⟨lw_p51, List.forall_mem_cons.mpr ⟨lw_p52, List.forall_mem_cons.mpr ⟨lw_p53, List.forall_mem_cons.mpr ⟨lw_p54, List.forall_mem_cons.mpr ⟨lw_p55, List.forall_mem_cons.mpr ⟨lw_p56, List.forall_mem_cons.mpr ⟨lw_p57, List.forall_mem_cons.mpr ⟨lw_p58, List.forall_mem_cons.mpr ⟨lw_p59, List.forall_mem_cons.mpr ⟨lw_p60, List.forall_mem_cons.mpr ⟨lw_p61, List.forall_mem_cons.mpr ⟨lw_p62, List.forall_mem_cons.mpr ⟨lw_p63, fun _ h => absurd h List.not_mem_nil⟩⟩⟩⟩⟩⟩⟩⟩⟩⟩⟩⟩⟩⟩⟩⟩
theorem lw_p64 : lw_okq (⟨"DonkeyBridgeModel", "atBehind", "(II)I"⟩, 51) := ⟨⟨by decide +kernel, by decide +kernel⟩, List.mem_of_getElem? (i := 1027) (by decide +kernel), List.mem_of_getElem? (i := 1383) (by decide +kernel), List.mem_of_getElem? (i := 1384) (by decide +kernel)⟩
theorem lw_p65 : lw_okq (⟨"DonkeyBridgeModel", "waitsFor", "()I"⟩, 51) := ⟨⟨by decide +kernel, by decide +kernel⟩, List.mem_of_getElem? (i := 1027) (by decide +kernel), List.mem_of_getElem? (i := 1402) (by decide +kernel), List.mem_of_getElem? (i := 1403) (by decide +kernel)⟩
theorem lw_p66 : lw_okq (⟨"DonkeyBridgeModel", "holding", "(II)I"⟩, 51) := ⟨⟨by decide +kernel, by decide +kernel⟩, List.mem_of_getElem? (i := 1027) (by decide +kernel), List.mem_of_getElem? (i := 1466) (by decide +kernel), List.mem_of_getElem? (i := 1467) (by decide +kernel)⟩
theorem lw_p67 : lw_okq (⟨"DonkeyBridgeModel", "ran", "(I)V"⟩, 51) := ⟨⟨by decide +kernel, by decide +kernel⟩, List.mem_of_getElem? (i := 1027) (by decide +kernel), List.mem_of_getElem? (i := 1470) (by decide +kernel), List.mem_of_getElem? (i := 1471) (by decide +kernel)⟩
theorem lw_p68 : lw_okq (⟨"DonkeyBridgeModel", "plainHolds", "(II)I"⟩, 51) := ⟨⟨by decide +kernel, by decide +kernel⟩, List.mem_of_getElem? (i := 1027) (by decide +kernel), List.mem_of_getElem? (i := 1474) (by decide +kernel), List.mem_of_getElem? (i := 1475) (by decide +kernel)⟩
theorem lw_p69 : lw_okq (⟨"DonkeyBridgeModel", "chooses", "(II)I"⟩, 51) := ⟨⟨by decide +kernel, by decide +kernel⟩, List.mem_of_getElem? (i := 1027) (by decide +kernel), List.mem_of_getElem? (i := 1478) (by decide +kernel), List.mem_of_getElem? (i := 1479) (by decide +kernel)⟩
theorem lw_p70 : lw_okq (⟨"DonkeyBridgeModel", "fearedChooses", "(II)I"⟩, 51) := ⟨⟨by decide +kernel, by decide +kernel⟩, List.mem_of_getElem? (i := 1027) (by decide +kernel), List.mem_of_getElem? (i := 1482) (by decide +kernel), List.mem_of_getElem? (i := 1483) (by decide +kernel)⟩
theorem lw_p71 : lw_okq (⟨"DonkeyBridgeModel", "plainChooses", "(II)I"⟩, 51) := ⟨⟨by decide +kernel, by decide +kernel⟩, List.mem_of_getElem? (i := 1027) (by decide +kernel), List.mem_of_getElem? (i := 1486) (by decide +kernel), List.mem_of_getElem? (i := 1487) (by decide +kernel)⟩
theorem lw_p72 : lw_okq (⟨"DonkeyBridgeModel", "calledChooses", "(II)I"⟩, 51) := ⟨⟨by decide +kernel, by decide +kernel⟩, List.mem_of_getElem? (i := 1027) (by decide +kernel), List.mem_of_getElem? (i := 1490) (by decide +kernel), List.mem_of_getElem? (i := 1491) (by decide +kernel)⟩
theorem lw_p73 : lw_okq (⟨"DonkeyBridgeModel", "telling", "(II)I"⟩, 51) := ⟨⟨by decide +kernel, by decide +kernel⟩, List.mem_of_getElem? (i := 1027) (by decide +kernel), List.mem_of_getElem? (i := 1494) (by decide +kernel), List.mem_of_getElem? (i := 1495) (by decide +kernel)⟩
theorem lw_p74 : lw_okq (⟨"DonkeyBridgeModel", "plainTells", "(II)I"⟩, 51) := ⟨⟨by decide +kernel, by decide +kernel⟩, List.mem_of_getElem? (i := 1027) (by decide +kernel), List.mem_of_getElem? (i := 1498) (by decide +kernel), List.mem_of_getElem? (i := 1499) (by decide +kernel)⟩
theorem lw_p75 : lw_okq (⟨"DonkeyBridgeModel", "spoiltTells", "(II)I"⟩, 51) := ⟨⟨by decide +kernel, by decide +kernel⟩, List.mem_of_getElem? (i := 1027) (by decide +kernel), List.mem_of_getElem? (i := 1502) (by decide +kernel), List.mem_of_getElem? (i := 1503) (by decide +kernel)⟩
def lw_privs_5 : List (MethodName × Nat) := [(⟨"DonkeyBridgeModel", "atBehind", "(II)I"⟩, 51), (⟨"DonkeyBridgeModel", "waitsFor", "()I"⟩, 51), (⟨"DonkeyBridgeModel", "holding", "(II)I"⟩, 51), (⟨"DonkeyBridgeModel", "ran", "(I)V"⟩, 51), (⟨"DonkeyBridgeModel", "plainHolds", "(II)I"⟩, 51), (⟨"DonkeyBridgeModel", "chooses", "(II)I"⟩, 51), (⟨"DonkeyBridgeModel", "fearedChooses", "(II)I"⟩, 51), (⟨"DonkeyBridgeModel", "plainChooses", "(II)I"⟩, 51), (⟨"DonkeyBridgeModel", "calledChooses", "(II)I"⟩, 51), (⟨"DonkeyBridgeModel", "telling", "(II)I"⟩, 51), (⟨"DonkeyBridgeModel", "plainTells", "(II)I"⟩, 51), (⟨"DonkeyBridgeModel", "spoiltTells", "(II)I"⟩, 51)]
theorem lw_r5 : ∀ q ∈ lw_privs_5, lw_okq q := List.forall_mem_cons.mpr ⟨lw_p64, List.forall_mem_cons.mpr ⟨lw_p65, List.forall_mem_cons.mpr ⟨lw_p66, List.forall_mem_cons.mpr ⟨lw_p67, List.forall_mem_cons.mpr ⟨lw_p68, List.forall_mem_cons.mpr ⟨lw_p69, List.forall_mem_cons.mpr ⟨lw_p70, List.forall_mem_cons.mpr ⟨lw_p71, List.forall_mem_cons.mpr ⟨lw_p72, List.forall_mem_cons.mpr ⟨lw_p73, List.forall_mem_cons.mpr ⟨lw_p74, List.forall_mem_cons.mpr ⟨lw_p75, fun _ h => absurd h List.not_mem_nil⟩⟩⟩⟩⟩⟩⟩⟩⟩⟩⟩⟩
def lw_privs : List (MethodName × Nat) := lw_privs_1 ++ (lw_privs_2 ++ (lw_privs_3 ++ (lw_privs_4 ++ (lw_privs_5))))
def lw_tbl : List Cond := k2_sels lw_privs ++ tables_1
theorem lw_privs_ok : ∀ q ∈ lw_privs, lw_okq q := by
  show ∀ q ∈ lw_privs_1 ++ (lw_privs_2 ++ (lw_privs_3 ++ (lw_privs_4 ++ (lw_privs_5)))), lw_okq q
  exact List.forall_mem_append.mpr ⟨lw_r1, List.forall_mem_append.mpr ⟨lw_r2, List.forall_mem_append.mpr ⟨lw_r3, List.forall_mem_append.mpr ⟨lw_r4, lw_r5⟩⟩⟩⟩
-- ===== end of PART A; then your names; then what follows =====
end
section
def RX0 : String := "DonkeyBridge$Bodies"
def TX0 : u_T := fun k => match k with
  | 0 => ("DonkeyBridge$Bodies", "road", "LDonkeyBridge$Road;", true)
  | 1 => ("DonkeyBridge$Bodies", "numbers", "LDonkeyBridge$Strip;", true)
  | 2 => ("DonkeyBridge$Bodies", "ran", "I", false)
  | 3 => ("DonkeyBridge$Bodies", "kind", "I", false)
  | 4 => ("DonkeyBridge$Bodies", "v", "I", false)
  | _ => ("DonkeyBridge$Bodies", "number", "I", false)
def tyX0 : Nat → FieldType := fun k => match k with
  | 0 => .object "DonkeyBridge$Road"
  | 1 => .object "DonkeyBridge$Strip"
  | 2 => .int
  | 3 => .int
  | 4 => .int
  | _ => .int
theorem nmX0 : ∀ a, a < 6 → ∀ b, b < 6 → a ≠ b → (TX0 a).2.1 ≠ (TX0 b).2.1 := by decide +kernel
theorem tyX0_ok : ∀ k, k < 6 → parseFieldDescriptor (TX0 k).2.2.1 = some (tyX0 k) := by decide +kernel
abbrev cX0_init : ByteArray := prog_2_method_1_code
def yX0_init : MethodName := ⟨RX0, "<init>", "(LDonkeyBridge$Road;)V"⟩
abbrev cX0_ran : ByteArray := prog_2_method_2_code
def yX0_ran : MethodName := ⟨RX0, "ran", "()I"⟩
abbrev cX0_kept : ByteArray := prog_2_method_3_code
def yX0_kept : MethodName := ⟨RX0, "kept", "(I)I"⟩
abbrev cX0_ask : ByteArray := prog_2_method_4_code
def yX0_ask : MethodName := ⟨RX0, "ask", "(III)I"⟩
abbrev cX0_bodyOf : ByteArray := prog_2_method_5_code
def yX0_bodyOf : MethodName := ⟨RX0, "bodyOf", "(II)I"⟩
abbrev cX0_run : ByteArray := prog_2_method_6_code
def yX0_run : MethodName := ⟨RX0, "run", "(IIII)I"⟩
abbrev cX0_answer : ByteArray := prog_2_method_7_code
def yX0_answer : MethodName := ⟨RX0, "answer", "(III)I"⟩
def RX1 : String := "DonkeyBridge$Donkey"
def TX1 : u_T := fun k => match k with
  | _ => ("DonkeyBridge$Donkey", "numbers", "[I", true)
def tyX1 : Nat → FieldType := fun k => match k with
  | _ => .array .int
theorem nmX1 : ∀ a, a < 1 → ∀ b, b < 1 → a ≠ b → (TX1 a).2.1 ≠ (TX1 b).2.1 := by decide +kernel
theorem tyX1_ok : ∀ k, k < 1 → parseFieldDescriptor (TX1 k).2.2.1 = some (tyX1 k) := by decide +kernel
abbrev cX1_init : ByteArray := prog_3_method_1_code
def yX1_init : MethodName := ⟨RX1, "<init>", "()V"⟩
abbrev cX1_mostOf : ByteArray := prog_3_method_2_code
def yX1_mostOf : MethodName := ⟨RX1, "mostOf", "(I)I"⟩
abbrev cX1_get : ByteArray := prog_3_method_3_code
def yX1_get : MethodName := ⟨RX1, "get", "(I)I"⟩
abbrev cX1_tell : ByteArray := prog_3_method_4_code
def yX1_tell : MethodName := ⟨RX1, "tell", "(I)I"⟩
abbrev cX1_put : ByteArray := prog_3_method_5_code
def yX1_put : MethodName := ⟨RX1, "put", "(II)V"⟩
abbrev cX1_addTo : ByteArray := prog_3_method_6_code
def yX1_addTo : MethodName := ⟨RX1, "addTo", "(II)V"⟩
abbrev cX1_sits : ByteArray := prog_3_method_7_code
def yX1_sits : MethodName := ⟨RX1, "sits", "()Z"⟩
abbrev cX1_learnt : ByteArray := prog_3_method_8_code
def yX1_learnt : MethodName := ⟨RX1, "learnt", "()I"⟩
abbrev cX1_become : ByteArray := prog_3_method_9_code
def yX1_become : MethodName := ⟨RX1, "become", "(LDonkeyBridge$Donkey;)V"⟩
def RX2 : String := "DonkeyBridge$Law"
def TX2 : u_T := fun k => match k with
  | 0 => ("DonkeyBridge$Law", "words", "[I", true)
  | 1 => ("DonkeyBridge$Law", "amounts", "[I", true)
  | 2 => ("DonkeyBridge$Law", "starts", "[I", true)
  | 3 => ("DonkeyBridge$Law", "clauses", "I", false)
  | 4 => ("DonkeyBridge$Law", "codes", "[I", true)
  | _ => ("DonkeyBridge$Law", "codeCount", "I", false)
def tyX2 : Nat → FieldType := fun k => match k with
  | 0 => .array .int
  | 1 => .array .int
  | 2 => .array .int
  | 3 => .int
  | 4 => .array .int
  | _ => .int
theorem nmX2 : ∀ a, a < 6 → ∀ b, b < 6 → a ≠ b → (TX2 a).2.1 ≠ (TX2 b).2.1 := by decide +kernel
theorem tyX2_ok : ∀ k, k < 6 → parseFieldDescriptor (TX2 k).2.2.1 = some (tyX2 k) := by decide +kernel
abbrev cX2_init : ByteArray := prog_4_method_1_code
def yX2_init : MethodName := ⟨RX2, "<init>", "()V"⟩
abbrev cX2_clear : ByteArray := prog_4_method_2_code
def yX2_clear : MethodName := ⟨RX2, "clear", "()V"⟩
abbrev cX2_beginClause : ByteArray := prog_4_method_3_code
def yX2_beginClause : MethodName := ⟨RX2, "beginClause", "(II)V"⟩
abbrev cX2_addCode : ByteArray := prog_4_method_4_code
def yX2_addCode : MethodName := ⟨RX2, "addCode", "(I)V"⟩
abbrev cX2_codeOf : ByteArray := prog_4_method_5_code
def yX2_codeOf : MethodName := ⟨RX2, "codeOf", "(III)I"⟩
abbrev cX2_together : ByteArray := prog_4_method_6_code
def yX2_together : MethodName := ⟨RX2, "together", "(I[I)I"⟩
abbrev cX2_last : ByteArray := prog_4_method_7_code
def yX2_last : MethodName := ⟨RX2, "last", "(I)I"⟩
abbrev cX2_isTrue : ByteArray := prog_4_method_8_code
def yX2_isTrue : MethodName := ⟨RX2, "isTrue", "(I[I)Z"⟩
def RX3 : String := "DonkeyBridge$Moment"
def TX3 : u_T := fun k => match k with
  | 0 => ("DonkeyBridge$Moment", "donkey", "LDonkeyBridge$Donkey;", true)
  | 1 => ("DonkeyBridge$Moment", "acts", "LDonkeyBridge$Strip;", true)
  | 2 => ("DonkeyBridge$Moment", "seen", "LDonkeyBridge$Strip;", true)
  | 3 => ("DonkeyBridge$Moment", "beasts", "LDonkeyBridge$Strip;", true)
  | 4 => ("DonkeyBridge$Moment", "odds", "I", false)
  | _ => ("DonkeyBridge$Moment", "held", "I", false)
def tyX3 : Nat → FieldType := fun k => match k with
  | 0 => .object "DonkeyBridge$Donkey"
  | 1 => .object "DonkeyBridge$Strip"
  | 2 => .object "DonkeyBridge$Strip"
  | 3 => .object "DonkeyBridge$Strip"
  | 4 => .int
  | _ => .int
theorem nmX3 : ∀ a, a < 6 → ∀ b, b < 6 → a ≠ b → (TX3 a).2.1 ≠ (TX3 b).2.1 := by decide +kernel
theorem tyX3_ok : ∀ k, k < 6 → parseFieldDescriptor (TX3 k).2.2.1 = some (tyX3 k) := by decide +kernel
abbrev cX3_init : ByteArray := prog_5_method_1_code
def yX3_init : MethodName := ⟨RX3, "<init>", "()V"⟩
abbrev cX3_become : ByteArray := prog_5_method_2_code
def yX3_become : MethodName := ⟨RX3, "become", "(LDonkeyBridge$Moment;)V"⟩
def RX4 : String := "DonkeyBridge$Road"
def TX4 : u_T := fun k => match k with
  | 0 => ("DonkeyBridge$Road", "kinds", "[I", true)
  | 1 => ("DonkeyBridge$Road", "numbers", "[I", true)
  | 2 => ("DonkeyBridge$Road", "things", "[I", true)
  | _ => ("DonkeyBridge$Road", "size", "I", false)
def tyX4 : Nat → FieldType := fun k => match k with
  | 0 => .array .int
  | 1 => .array .int
  | 2 => .array .int
  | _ => .int
theorem nmX4 : ∀ a, a < 4 → ∀ b, b < 4 → a ≠ b → (TX4 a).2.1 ≠ (TX4 b).2.1 := by decide +kernel
theorem tyX4_ok : ∀ k, k < 4 → parseFieldDescriptor (TX4 k).2.2.1 = some (tyX4 k) := by decide +kernel
abbrev cX4_init : ByteArray := prog_6_method_1_code
def yX4_init : MethodName := ⟨RX4, "<init>", "()V"⟩
abbrev cX4_size : ByteArray := prog_6_method_2_code
def yX4_size : MethodName := ⟨RX4, "size", "()I"⟩
abbrev cX4_has : ByteArray := prog_6_method_3_code
def yX4_has : MethodName := ⟨RX4, "has", "(I)Z"⟩
abbrev cX4_kindOf : ByteArray := prog_6_method_4_code
def yX4_kindOf : MethodName := ⟨RX4, "kindOf", "(I)I"⟩
abbrev cX4_numberOf : ByteArray := prog_6_method_5_code
def yX4_numberOf : MethodName := ⟨RX4, "numberOf", "(I)I"⟩
abbrev cX4_thingOf : ByteArray := prog_6_method_6_code
def yX4_thingOf : MethodName := ⟨RX4, "thingOf", "(I)I"⟩
abbrev cX4_add : ByteArray := prog_6_method_7_code
def yX4_add : MethodName := ⟨RX4, "add", "(III)I"⟩
abbrev cX4_aboveOf : ByteArray := prog_6_method_8_code
def yX4_aboveOf : MethodName := ⟨RX4, "aboveOf", "(I)I"⟩
abbrev cX4_isUnder : ByteArray := prog_6_method_9_code
def yX4_isUnder : MethodName := ⟨RX4, "isUnder", "(II)Z"⟩
def RX5 : String := "DonkeyBridge$Strip"
def TX5 : u_T := fun k => match k with
  | 0 => ("DonkeyBridge$Strip", "items", "[I", true)
  | _ => ("DonkeyBridge$Strip", "size", "I", false)
def tyX5 : Nat → FieldType := fun k => match k with
  | 0 => .array .int
  | _ => .int
theorem nmX5 : ∀ a, a < 2 → ∀ b, b < 2 → a ≠ b → (TX5 a).2.1 ≠ (TX5 b).2.1 := by decide +kernel
theorem tyX5_ok : ∀ k, k < 2 → parseFieldDescriptor (TX5 k).2.2.1 = some (tyX5 k) := by decide +kernel
abbrev cX5_init : ByteArray := prog_7_method_1_code
def yX5_init : MethodName := ⟨RX5, "<init>", "(I)V"⟩
abbrev cX5_size : ByteArray := prog_7_method_2_code
def yX5_size : MethodName := ⟨RX5, "size", "()I"⟩
abbrev cX5_get : ByteArray := prog_7_method_3_code
def yX5_get : MethodName := ⟨RX5, "get", "(I)I"⟩
abbrev cX5_add : ByteArray := prog_7_method_4_code
def yX5_add : MethodName := ⟨RX5, "add", "(I)Z"⟩
abbrev cX5_clear : ByteArray := prog_7_method_5_code
def yX5_clear : MethodName := ⟨RX5, "clear", "()V"⟩
abbrev cX5_placeOfLeast : ByteArray := prog_7_method_6_code
def yX5_placeOfLeast : MethodName := ⟨RX5, "placeOfLeast", "()I"⟩
abbrev cX5_become : ByteArray := prog_7_method_7_code
def yX5_become : MethodName := ⟨RX5, "become", "(LDonkeyBridge$Strip;)V"⟩
def RX6 : String := "DonkeyBridge$Tape"
def TX6 : u_T := fun k => match k with
  | 0 => ("DonkeyBridge$Tape", "items", "[J", true)
  | 1 => ("DonkeyBridge$Tape", "sort", "I", false)
  | _ => ("DonkeyBridge$Tape", "size", "I", false)
def tyX6 : Nat → FieldType := fun k => match k with
  | 0 => .array .long
  | 1 => .int
  | _ => .int
theorem nmX6 : ∀ a, a < 3 → ∀ b, b < 3 → a ≠ b → (TX6 a).2.1 ≠ (TX6 b).2.1 := by decide +kernel
theorem tyX6_ok : ∀ k, k < 3 → parseFieldDescriptor (TX6 k).2.2.1 = some (tyX6 k) := by decide +kernel
abbrev cX6_init : ByteArray := prog_8_method_1_code
def yX6_init : MethodName := ⟨RX6, "<init>", "()V"⟩
abbrev cX6_sort : ByteArray := prog_8_method_2_code
def yX6_sort : MethodName := ⟨RX6, "sort", "()I"⟩
abbrev cX6_holdsSomething : ByteArray := prog_8_method_3_code
def yX6_holdsSomething : MethodName := ⟨RX6, "holdsSomething", "()Z"⟩
abbrev cX6_renew : ByteArray := prog_8_method_4_code
def yX6_renew : MethodName := ⟨RX6, "renew", "(II)V"⟩
abbrev cX6_has : ByteArray := prog_8_method_5_code
def yX6_has : MethodName := ⟨RX6, "has", "(I)Z"⟩
abbrev cX6_spans : ByteArray := prog_8_method_6_code
def yX6_spans : MethodName := ⟨RX6, "spans", "(II)Z"⟩
abbrev cX6_get : ByteArray := prog_8_method_7_code
def yX6_get : MethodName := ⟨RX6, "get", "(I)J"⟩
abbrev cX6_put : ByteArray := prog_8_method_8_code
def yX6_put : MethodName := ⟨RX6, "put", "(IJ)V"⟩
abbrev cX6_cut : ByteArray := prog_8_method_9_code
def yX6_cut : MethodName := ⟨RX6, "cut", "(J)J"⟩
abbrev cX6_copyIn : ByteArray := prog_8_method_10_code
def yX6_copyIn : MethodName := ⟨RX6, "copyIn", "(ILDonkeyBridge$Tape;II)V"⟩
def RX7 : String := "DonkeyBridge$Text"
def TX7 : u_T := fun k => match k with
  | 0 => ("DonkeyBridge$Text", "signs", "LDonkeyBridge$Strip;", true)
  | _ => ("DonkeyBridge$Text", "pos", "I", false)
def tyX7 : Nat → FieldType := fun k => match k with
  | 0 => .object "DonkeyBridge$Strip"
  | _ => .int
theorem nmX7 : ∀ a, a < 2 → ∀ b, b < 2 → a ≠ b → (TX7 a).2.1 ≠ (TX7 b).2.1 := by decide +kernel
theorem tyX7_ok : ∀ k, k < 2 → parseFieldDescriptor (TX7 k).2.2.1 = some (tyX7 k) := by decide +kernel
abbrev cX7_init : ByteArray := prog_9_method_1_code
def yX7_init : MethodName := ⟨RX7, "<init>", "()V"⟩
abbrev cX7_size : ByteArray := prog_9_method_2_code
def yX7_size : MethodName := ⟨RX7, "size", "()I"⟩
abbrev cX7_add : ByteArray := prog_9_method_3_code
def yX7_add : MethodName := ⟨RX7, "add", "(I)Z"⟩
abbrev cX7_clear : ByteArray := prog_9_method_4_code
def yX7_clear : MethodName := ⟨RX7, "clear", "()V"⟩
abbrev cX7_readLaw : ByteArray := prog_9_method_5_code
def yX7_readLaw : MethodName := ⟨RX7, "readLaw", "(LDonkeyBridge$Law;)I"⟩
abbrev cX7_next : ByteArray := prog_9_method_6_code
def yX7_next : MethodName := ⟨RX7, "next", "(C)Z"⟩
abbrev cX7_readHead : ByteArray := prog_9_method_7_code
def yX7_readHead : MethodName := ⟨RX7, "readHead", "(LDonkeyBridge$Law;)I"⟩
abbrev cX7_readWord : ByteArray := prog_9_method_8_code
def yX7_readWord : MethodName := ⟨RX7, "readWord", "()I"⟩
abbrev cX7_wordOf : ByteArray := prog_9_method_9_code
def yX7_wordOf : MethodName := ⟨RX7, "wordOf", "(I)Ljava/lang/String;"⟩
abbrev cX7_readNumber : ByteArray := prog_9_method_10_code
def yX7_readNumber : MethodName := ⟨RX7, "readNumber", "()I"⟩
abbrev cX7_readEither : ByteArray := prog_9_method_11_code
def yX7_readEither : MethodName := ⟨RX7, "readEither", "(LDonkeyBridge$Law;I)Z"⟩
abbrev cX7_readBoth : ByteArray := prog_9_method_12_code
def yX7_readBoth : MethodName := ⟨RX7, "readBoth", "(LDonkeyBridge$Law;I)Z"⟩
abbrev cX7_readSingle : ByteArray := prog_9_method_13_code
def yX7_readSingle : MethodName := ⟨RX7, "readSingle", "(LDonkeyBridge$Law;I)Z"⟩
abbrev cX7_readTest : ByteArray := prog_9_method_14_code
def yX7_readTest : MethodName := ⟨RX7, "readTest", "(LDonkeyBridge$Law;)Z"⟩
abbrev cX7_placeIn : ByteArray := prog_9_method_15_code
def yX7_placeIn : MethodName := ⟨RX7, "placeIn", "(Ljava/lang/String;)I"⟩
def RX8 : String := "DonkeyBridge$Trial"
def TX8 : u_T := fun k => match k with
  | 0 => ("DonkeyBridge$Trial", "walk", "LDonkeyBridge$Walk;", true)
  | 1 => ("DonkeyBridge$Trial", "present", "LDonkeyBridge$Moment;", true)
  | 2 => ("DonkeyBridge$Trial", "stages", "[LDonkeyBridge$Donkey;", true)
  | 3 => ("DonkeyBridge$Trial", "spare", "LDonkeyBridge$Donkey;", true)
  | 4 => ("DonkeyBridge$Trial", "tried", "[I", true)
  | 5 => ("DonkeyBridge$Trial", "best", "[I", true)
  | 6 => ("DonkeyBridge$Trial", "bestSize", "I", false)
  | 7 => ("DonkeyBridge$Trial", "bestLearnt", "I", false)
  | _ => ("DonkeyBridge$Trial", "goal", "I", false)
def tyX8 : Nat → FieldType := fun k => match k with
  | 0 => .object "DonkeyBridge$Walk"
  | 1 => .object "DonkeyBridge$Moment"
  | 2 => .array (.object "DonkeyBridge$Donkey")
  | 3 => .object "DonkeyBridge$Donkey"
  | 4 => .array .int
  | 5 => .array .int
  | 6 => .int
  | 7 => .int
  | _ => .int
theorem nmX8 : ∀ a, a < 9 → ∀ b, b < 9 → a ≠ b → (TX8 a).2.1 ≠ (TX8 b).2.1 := by decide +kernel
theorem tyX8_ok : ∀ k, k < 9 → parseFieldDescriptor (TX8 k).2.2.1 = some (tyX8 k) := by decide +kernel
abbrev cX8_init : ByteArray := prog_10_method_1_code
def yX8_init : MethodName := ⟨RX8, "<init>", "(LDonkeyBridge$Walk;LDonkeyBridge$Moment;)V"⟩
abbrev cX8_stage : ByteArray := prog_10_method_2_code
def yX8_stage : MethodName := ⟨RX8, "stage", "(I)LDonkeyBridge$Donkey;"⟩
abbrev cX8_stageAfter : ByteArray := prog_10_method_3_code
def yX8_stageAfter : MethodName := ⟨RX8, "stageAfter", "(I)LDonkeyBridge$Donkey;"⟩
abbrev cX8_begin : ByteArray := prog_10_method_4_code
def yX8_begin : MethodName := ⟨RX8, "begin", "()LDonkeyBridge$Donkey;"⟩
abbrev cX8_byHand : ByteArray := prog_10_method_5_code
def yX8_byHand : MethodName := ⟨RX8, "byHand", "(I)LDonkeyBridge$Donkey;"⟩
abbrev cX8_doRow : ByteArray := prog_10_method_6_code
def yX8_doRow : MethodName := ⟨RX8, "doRow", "(LDonkeyBridge$Donkey;I)V"⟩
abbrev cX8_afterDays : ByteArray := prog_10_method_7_code
def yX8_afterDays : MethodName := ⟨RX8, "afterDays", "(I)LDonkeyBridge$Donkey;"⟩
abbrev cX8_waiting : ByteArray := prog_10_method_8_code
def yX8_waiting : MethodName := ⟨RX8, "waiting", "()I"⟩
abbrev cX8_bestShift : ByteArray := prog_10_method_9_code
def yX8_bestShift : MethodName := ⟨RX8, "bestShift", "()I"⟩
abbrev cX8_hurtWith : ByteArray := prog_10_method_10_code
def yX8_hurtWith : MethodName := ⟨RX8, "hurtWith", "(I)I"⟩
abbrev cX8_firstOtherwise : ByteArray := prog_10_method_11_code
def yX8_firstOtherwise : MethodName := ⟨RX8, "firstOtherwise", "()I"⟩
abbrev cX8_firstMistold : ByteArray := prog_10_method_12_code
def yX8_firstMistold : MethodName := ⟨RX8, "firstMistold", "(LDonkeyBridge$Tape;I)I"⟩
abbrev cX8_findSoonest : ByteArray := prog_10_method_13_code
def yX8_findSoonest : MethodName := ⟨RX8, "findSoonest", "(I)I"⟩
abbrev cX8_findGentlest : ByteArray := prog_10_method_14_code
def yX8_findGentlest : MethodName := ⟨RX8, "findGentlest", "(I)I"⟩
abbrev cX8_found : ByteArray := prog_10_method_15_code
def yX8_found : MethodName := ⟨RX8, "found", "(I)I"⟩
abbrev cX8_trySooner : ByteArray := prog_10_method_16_code
def yX8_trySooner : MethodName := ⟨RX8, "trySooner", "(I)V"⟩
abbrev cX8_trySoonerWith : ByteArray := prog_10_method_17_code
def yX8_trySoonerWith : MethodName := ⟨RX8, "trySoonerWith", "(II)V"⟩
abbrev cX8_tryGentler : ByteArray := prog_10_method_18_code
def yX8_tryGentler : MethodName := ⟨RX8, "tryGentler", "(II)V"⟩
abbrev cX8_tryGentlerWith : ByteArray := prog_10_method_19_code
def yX8_tryGentlerWith : MethodName := ⟨RX8, "tryGentlerWith", "(III)V"⟩
abbrev cX8_keepGentler : ByteArray := prog_10_method_20_code
def yX8_keepGentler : MethodName := ⟨RX8, "keepGentler", "(LDonkeyBridge$Donkey;I)V"⟩
abbrev cX8_keepTried : ByteArray := prog_10_method_21_code
def yX8_keepTried : MethodName := ⟨RX8, "keepTried", "(I)V"⟩
abbrev cX8_chanceOf : ByteArray := prog_10_method_22_code
def yX8_chanceOf : MethodName := ⟨RX8, "chanceOf", "(II)J"⟩
abbrev cX8_waysFrom : ByteArray := prog_10_method_23_code
def yX8_waysFrom : MethodName := ⟨RX8, "waysFrom", "(II)J"⟩
abbrev cX8_waysWith : ByteArray := prog_10_method_24_code
def yX8_waysWith : MethodName := ⟨RX8, "waysWith", "(III)J"⟩
def RX9 : String := "DonkeyBridge$Walk"
def TX9 : u_T := fun k => match k with
  | 0 => ("DonkeyBridge$Walk", "road", "LDonkeyBridge$Road;", true)
  | 1 => ("DonkeyBridge$Walk", "law", "LDonkeyBridge$Law;", false)
  | 2 => ("DonkeyBridge$Walk", "facts", "[I", true)
  | _ => ("DonkeyBridge$Walk", "less", "[I", true)
def tyX9 : Nat → FieldType := fun k => match k with
  | 0 => .object "DonkeyBridge$Road"
  | 1 => .object "DonkeyBridge$Law"
  | 2 => .array .int
  | _ => .array .int
theorem nmX9 : ∀ a, a < 4 → ∀ b, b < 4 → a ≠ b → (TX9 a).2.1 ≠ (TX9 b).2.1 := by decide +kernel
theorem tyX9_ok : ∀ k, k < 4 → parseFieldDescriptor (TX9 k).2.2.1 = some (tyX9 k) := by decide +kernel
abbrev cX9_init : ByteArray := prog_11_method_1_code
def yX9_init : MethodName := ⟨RX9, "<init>", "(LDonkeyBridge$Road;LDonkeyBridge$Law;)V"⟩
abbrev cX9_obey : ByteArray := prog_11_method_2_code
def yX9_obey : MethodName := ⟨RX9, "obey", "(LDonkeyBridge$Law;)V"⟩
abbrev cX9_isOver : ByteArray := prog_11_method_3_code
def yX9_isOver : MethodName := ⟨RX9, "isOver", "(LDonkeyBridge$Donkey;)Z"⟩
abbrev cX9_fearThere : ByteArray := prog_11_method_4_code
def yX9_fearThere : MethodName := ⟨RX9, "fearThere", "(LDonkeyBridge$Donkey;)I"⟩
abbrev cX9_lastOf : ByteArray := prog_11_method_5_code
def yX9_lastOf : MethodName := ⟨RX9, "lastOf", "(I)I"⟩
abbrev cX9_halfMinutesOf : ByteArray := prog_11_method_6_code
def yX9_halfMinutesOf : MethodName := ⟨RX9, "halfMinutesOf", "(I)I"⟩
abbrev cX9_togetherOf : ByteArray := prog_11_method_7_code
def yX9_togetherOf : MethodName := ⟨RX9, "togetherOf", "(LDonkeyBridge$Donkey;I)I"⟩
abbrev cX9_lookAround : ByteArray := prog_11_method_8_code
def yX9_lookAround : MethodName := ⟨RX9, "lookAround", "(LDonkeyBridge$Donkey;)V"⟩
abbrev cX9_weigh : ByteArray := prog_11_method_9_code
def yX9_weigh : MethodName := ⟨RX9, "weigh", "(LDonkeyBridge$Donkey;I)I"⟩
abbrev cX9_moreBy : ByteArray := prog_11_method_10_code
def yX9_moreBy : MethodName := ⟨RX9, "moreBy", "(LDonkeyBridge$Donkey;I)I"⟩
abbrev cX9_fearThatCounts : ByteArray := prog_11_method_11_code
def yX9_fearThatCounts : MethodName := ⟨RX9, "fearThatCounts", "(LDonkeyBridge$Donkey;I)I"⟩
abbrev cX9_mostAgainst : ByteArray := prog_11_method_12_code
def yX9_mostAgainst : MethodName := ⟨RX9, "mostAgainst", "(LDonkeyBridge$Donkey;)I"⟩
abbrev cX9_doing : ByteArray := prog_11_method_13_code
def yX9_doing : MethodName := ⟨RX9, "doing", "(LDonkeyBridge$Donkey;I)I"⟩
abbrev cX9_doneBy : ByteArray := prog_11_method_14_code
def yX9_doneBy : MethodName := ⟨RX9, "doneBy", "(I)I"⟩
abbrev cX9_step : ByteArray := prog_11_method_15_code
def yX9_step : MethodName := ⟨RX9, "step", "(LDonkeyBridge$Donkey;II)I"⟩
abbrev cX9_leave : ByteArray := prog_11_method_16_code
def yX9_leave : MethodName := ⟨RX9, "leave", "(LDonkeyBridge$Donkey;I)V"⟩
abbrev cX9_follow : ByteArray := prog_11_method_17_code
def yX9_follow : MethodName := ⟨RX9, "follow", "(LDonkeyBridge$Donkey;III)V"⟩
abbrev cX9_answer : ByteArray := prog_11_method_18_code
def yX9_answer : MethodName := ⟨RX9, "answer", "(LDonkeyBridge$Donkey;III)V"⟩
def RX10 : String := "DonkeyBridge"
def TX10 : u_T := fun k => match k with
  | 0 => ("DonkeyBridge", "road", "LDonkeyBridge$Road;", true)
  | 1 => ("DonkeyBridge", "text", "LDonkeyBridge$Text;", true)
  | 2 => ("DonkeyBridge", "laws", "[LDonkeyBridge$Law;", true)
  | 3 => ("DonkeyBridge", "noLaw", "LDonkeyBridge$Law;", true)
  | 4 => ("DonkeyBridge", "lawCount", "I", false)
  | 5 => ("DonkeyBridge", "walk", "LDonkeyBridge$Walk;", true)
  | 6 => ("DonkeyBridge", "trial", "LDonkeyBridge$Trial;", true)
  | 7 => ("DonkeyBridge", "bodies", "LDonkeyBridge$Bodies;", true)
  | 8 => ("DonkeyBridge", "tapes", "[LDonkeyBridge$Tape;", true)
  | 9 => ("DonkeyBridge", "present", "LDonkeyBridge$Moment;", true)
  | 10 => ("DonkeyBridge", "kept", "LDonkeyBridge$Moment;", true)
  | _ => ("DonkeyBridge", "imageTaken", "Z", false)
def tyX10 : Nat → FieldType := fun k => match k with
  | 0 => .object "DonkeyBridge$Road"
  | 1 => .object "DonkeyBridge$Text"
  | 2 => .array (.object "DonkeyBridge$Law")
  | 3 => .object "DonkeyBridge$Law"
  | 4 => .int
  | 5 => .object "DonkeyBridge$Walk"
  | 6 => .object "DonkeyBridge$Trial"
  | 7 => .object "DonkeyBridge$Bodies"
  | 8 => .array (.object "DonkeyBridge$Tape")
  | 9 => .object "DonkeyBridge$Moment"
  | 10 => .object "DonkeyBridge$Moment"
  | _ => .boolean
theorem nmX10 : ∀ a, a < 12 → ∀ b, b < 12 → a ≠ b → (TX10 a).2.1 ≠ (TX10 b).2.1 := by decide +kernel
theorem tyX10_ok : ∀ k, k < 12 → parseFieldDescriptor (TX10 k).2.2.1 = some (tyX10 k) := by decide +kernel
abbrev cX10_init : ByteArray := prog_1_method_1_code
def yX10_init : MethodName := ⟨RX10, "<init>", "()V"⟩
abbrev cX10_place : ByteArray := prog_1_method_2_code
def yX10_place : MethodName := ⟨RX10, "place", "(III)I"⟩
abbrev cX10_of : ByteArray := prog_1_method_3_code
def yX10_of : MethodName := ⟨RX10, "of", "(II)I"⟩
abbrev cX10_set : ByteArray := prog_1_method_4_code
def yX10_set : MethodName := ⟨RX10, "set", "(II)I"⟩
abbrev cX10_now : ByteArray := prog_1_method_5_code
def yX10_now : MethodName := ⟨RX10, "now", "(I)I"⟩
abbrev cX10_feed : ByteArray := prog_1_method_6_code
def yX10_feed : MethodName := ⟨RX10, "feed", "(I)I"⟩
abbrev cX10_law : ByteArray := prog_1_method_7_code
def yX10_law : MethodName := ⟨RX10, "law", "()I"⟩
abbrev cX10_told : ByteArray := prog_1_method_8_code
def yX10_told : MethodName := ⟨RX10, "told", "(I)I"⟩
abbrev cX10_drive : ByteArray := prog_1_method_9_code
def yX10_drive : MethodName := ⟨RX10, "drive", "(I)I"⟩
abbrev cX10_would : ByteArray := prog_1_method_10_code
def yX10_would : MethodName := ⟨RX10, "would", "(I)I"⟩
abbrev cX10_go : ByteArray := prog_1_method_11_code
def yX10_go : MethodName := ⟨RX10, "go", "(I)I"⟩
abbrev cX10_row : ByteArray := prog_1_method_12_code
def yX10_row : MethodName := ⟨RX10, "row", "(I)I"⟩
abbrev cX10_hand : ByteArray := prog_1_method_13_code
def yX10_hand : MethodName := ⟨RX10, "hand", "(II)I"⟩
abbrev cX10_soonest : ByteArray := prog_1_method_14_code
def yX10_soonest : MethodName := ⟨RX10, "soonest", "(II)I"⟩
abbrev cX10_gentlest : ByteArray := prog_1_method_15_code
def yX10_gentlest : MethodName := ⟨RX10, "gentlest", "(II)I"⟩
abbrev cX10_why : ByteArray := prog_1_method_16_code
def yX10_why : MethodName := ⟨RX10, "why", "()I"⟩
abbrev cX10_waits : ByteArray := prog_1_method_17_code
def yX10_waits : MethodName := ⟨RX10, "waits", "()I"⟩
abbrev cX10_round : ByteArray := prog_1_method_18_code
def yX10_round : MethodName := ⟨RX10, "round", "()I"⟩
abbrev cX10_shiftLoad : ByteArray := prog_1_method_19_code
def yX10_shiftLoad : MethodName := ⟨RX10, "shiftLoad", "()I"⟩
abbrev cX10_wander : ByteArray := prog_1_method_20_code
def yX10_wander : MethodName := ⟨RX10, "wander", "(I)I"⟩
abbrev cX10_sure : ByteArray := prog_1_method_21_code
def yX10_sure : MethodName := ⟨RX10, "sure", "(II)J"⟩
abbrev cX10_days : ByteArray := prog_1_method_22_code
def yX10_days : MethodName := ⟨RX10, "days", "(II)I"⟩
abbrev cX10_beast : ByteArray := prog_1_method_23_code
def yX10_beast : MethodName := ⟨RX10, "beast", "(I)I"⟩
abbrev cX10_string : ByteArray := prog_1_method_24_code
def yX10_string : MethodName := ⟨RX10, "string", "(I)I"⟩
abbrev cX10_film : ByteArray := prog_1_method_25_code
def yX10_film : MethodName := ⟨RX10, "film", "(I)I"⟩
abbrev cX10_off : ByteArray := prog_1_method_26_code
def yX10_off : MethodName := ⟨RX10, "off", "()I"⟩
abbrev cX10_judge : ByteArray := prog_1_method_27_code
def yX10_judge : MethodName := ⟨RX10, "judge", "(II)I"⟩
abbrev cX10_image : ByteArray := prog_1_method_28_code
def yX10_image : MethodName := ⟨RX10, "image", "()I"⟩
abbrev cX10_undo : ByteArray := prog_1_method_29_code
def yX10_undo : MethodName := ⟨RX10, "undo", "()I"⟩
abbrev cX10_part : ByteArray := prog_1_method_30_code
def yX10_part : MethodName := ⟨RX10, "part", "(III)I"⟩
abbrev cX10_trace : ByteArray := prog_1_method_31_code
def yX10_trace : MethodName := ⟨RX10, "trace", "(I)I"⟩
abbrev cX10_taken : ByteArray := prog_1_method_32_code
def yX10_taken : MethodName := ⟨RX10, "taken", "(II)I"⟩
abbrev cX10_count : ByteArray := prog_1_method_33_code
def yX10_count : MethodName := ⟨RX10, "count", "(I)I"⟩
abbrev cX10_tape : ByteArray := prog_1_method_34_code
def yX10_tape : MethodName := ⟨RX10, "tape", "(III)I"⟩
abbrev cX10_item : ByteArray := prog_1_method_35_code
def yX10_item : MethodName := ⟨RX10, "item", "(IIJ)I"⟩
abbrev cX10_read : ByteArray := prog_1_method_36_code
def yX10_read : MethodName := ⟨RX10, "read", "(II)J"⟩
abbrev cX10_shift : ByteArray := prog_1_method_37_code
def yX10_shift : MethodName := ⟨RX10, "shift", "(IIIII)I"⟩
abbrev cX10_isAct : ByteArray := prog_1_method_38_code
def yX10_isAct : MethodName := ⟨RX10, "isAct", "(I)Z"⟩
abbrev cX10_isOver : ByteArray := prog_1_method_39_code
def yX10_isOver : MethodName := ⟨RX10, "isOver", "()Z"⟩
abbrev cX10_heldLaw : ByteArray := prog_1_method_40_code
def yX10_heldLaw : MethodName := ⟨RX10, "heldLaw", "()LDonkeyBridge$Law;"⟩
abbrev cX10_tapeOf : ByteArray := prog_1_method_41_code
def yX10_tapeOf : MethodName := ⟨RX10, "tapeOf", "(I)LDonkeyBridge$Tape;"⟩
abbrev cX10_addOrClear : ByteArray := prog_1_method_42_code
def yX10_addOrClear : MethodName := ⟨RX10, "addOrClear", "(LDonkeyBridge$Strip;I)I"⟩
def RX11 : String := "DonkeyBridgeModel"
def TX11 : u_T := fun k => match k with
  | 0 => ("DonkeyBridgeModel", "code", "I", false)
  | 1 => ("DonkeyBridgeModel", "places", "I", false)
  | 2 => ("DonkeyBridgeModel", "kind", "[I", true)
  | 3 => ("DonkeyBridgeModel", "number", "[I", true)
  | 4 => ("DonkeyBridgeModel", "thing", "[I", true)
  | 5 => ("DonkeyBridgeModel", "is", "[I", true)
  | 6 => ("DonkeyBridgeModel", "tape", "[B", true)
  | 7 => ("DonkeyBridgeModel", "taped", "I", false)
  | 8 => ("DonkeyBridgeModel", "laws", "I", false)
  | 9 => ("DonkeyBridgeModel", "holds", "I", false)
  | 10 => ("DonkeyBridgeModel", "clauseMany", "[I", true)
  | 11 => ("DonkeyBridgeModel", "clauseIs", "[I", true)
  | 12 => ("DonkeyBridgeModel", "clauseN", "[I", true)
  | 13 => ("DonkeyBridgeModel", "clauseFrom", "[I", true)
  | 14 => ("DonkeyBridgeModel", "clauseTo", "[I", true)
  | 15 => ("DonkeyBridgeModel", "step", "[I", true)
  | 16 => ("DonkeyBridgeModel", "letter", "[I", true)
  | 17 => ("DonkeyBridgeModel", "sign", "[I", true)
  | 18 => ("DonkeyBridgeModel", "value", "[I", true)
  | 19 => ("DonkeyBridgeModel", "here", "I", false)
  | 20 => ("DonkeyBridgeModel", "fault", "I", false)
  | 21 => ("DonkeyBridgeModel", "laid", "I", false)
  | 22 => ("DonkeyBridgeModel", "words", "[I", true)
  | 23 => ("DonkeyBridgeModel", "pile", "[Z", true)
  | 24 => ("DonkeyBridgeModel", "moreLead", "I", false)
  | 25 => ("DonkeyBridgeModel", "wandered", "I", false)
  | 26 => ("DonkeyBridgeModel", "rowMany", "I", false)
  | 27 => ("DonkeyBridgeModel", "row", "[I", true)
  | 28 => ("DonkeyBridgeModel", "was", "[I", true)
  | 29 => ("DonkeyBridgeModel", "learntThen", "I", false)
  | 30 => ("DonkeyBridgeModel", "odds", "I", false)
  | 31 => ("DonkeyBridgeModel", "beasts", "I", false)
  | 32 => ("DonkeyBridgeModel", "beastFear", "[I", true)
  | 33 => ("DonkeyBridgeModel", "filmed", "I", false)
  | 34 => ("DonkeyBridgeModel", "film", "[I", true)
  | 35 => ("DonkeyBridgeModel", "tapeSort", "[I", true)
  | 36 => ("DonkeyBridgeModel", "tapeSize", "[I", true)
  | 37 => ("DonkeyBridgeModel", "items", "[J", true)
  | 38 => ("DonkeyBridgeModel", "moving", "[J", true)
  | 39 => ("DonkeyBridgeModel", "hasImage", "Z", false)
  | 40 => ("DonkeyBridgeModel", "keptHolds", "I", false)
  | 41 => ("DonkeyBridgeModel", "keptOdds", "I", false)
  | 42 => ("DonkeyBridgeModel", "keptRows", "I", false)
  | 43 => ("DonkeyBridgeModel", "keptFilmed", "I", false)
  | 44 => ("DonkeyBridgeModel", "keptBeasts", "I", false)
  | 45 => ("DonkeyBridgeModel", "keptIs", "[I", true)
  | 46 => ("DonkeyBridgeModel", "keptRow", "[I", true)
  | 47 => ("DonkeyBridgeModel", "keptFilm", "[I", true)
  | 48 => ("DonkeyBridgeModel", "keptFear", "[I", true)
  | 49 => ("DonkeyBridgeModel", "traces", "I", false)
  | _ => ("DonkeyBridgeModel", "traced", "[I", true)
def tyX11 : Nat → FieldType := fun k => match k with
  | 0 => .int
  | 1 => .int
  | 2 => .array .int
  | 3 => .array .int
  | 4 => .array .int
  | 5 => .array .int
  | 6 => .array .byte
  | 7 => .int
  | 8 => .int
  | 9 => .int
  | 10 => .array .int
  | 11 => .array .int
  | 12 => .array .int
  | 13 => .array .int
  | 14 => .array .int
  | 15 => .array .int
  | 16 => .array .int
  | 17 => .array .int
  | 18 => .array .int
  | 19 => .int
  | 20 => .int
  | 21 => .int
  | 22 => .array .int
  | 23 => .array .boolean
  | 24 => .int
  | 25 => .int
  | 26 => .int
  | 27 => .array .int
  | 28 => .array .int
  | 29 => .int
  | 30 => .int
  | 31 => .int
  | 32 => .array .int
  | 33 => .int
  | 34 => .array .int
  | 35 => .array .int
  | 36 => .array .int
  | 37 => .array .long
  | 38 => .array .long
  | 39 => .boolean
  | 40 => .int
  | 41 => .int
  | 42 => .int
  | 43 => .int
  | 44 => .int
  | 45 => .array .int
  | 46 => .array .int
  | 47 => .array .int
  | 48 => .array .int
  | 49 => .int
  | _ => .array .int
theorem nmX11 : ∀ a, a < 51 → ∀ b, b < 51 → a ≠ b → (TX11 a).2.1 ≠ (TX11 b).2.1 := by decide +kernel
theorem tyX11_ok : ∀ k, k < 51 → parseFieldDescriptor (TX11 k).2.2.1 = some (tyX11 k) := by decide +kernel
abbrev cX11_init : ByteArray := prog_13_method_1_code
def yX11_init : MethodName := ⟨RX11, "<init>", "()V"⟩
abbrev cX11_in : ByteArray := prog_13_method_3_code
def yX11_in : MethodName := ⟨RX11, "in", "(III)Z"⟩
abbrev cX11_sizeOf : ByteArray := prog_13_method_4_code
def yX11_sizeOf : MethodName := ⟨RX11, "sizeOf", "(I)I"⟩
abbrev cX11_held : ByteArray := prog_13_method_5_code
def yX11_held : MethodName := ⟨RX11, "held", "(II)I"⟩
abbrev cX11_isPlace : ByteArray := prog_13_method_6_code
def yX11_isPlace : MethodName := ⟨RX11, "isPlace", "(I)Z"⟩
abbrev cX11_place : ByteArray := prog_13_method_7_code
def yX11_place : MethodName := ⟨RX11, "place", "(III)I"⟩
abbrev cX11_of : ByteArray := prog_13_method_8_code
def yX11_of : MethodName := ⟨RX11, "of", "(II)I"⟩
abbrev cX11_isOver : ByteArray := prog_13_method_9_code
def yX11_isOver : MethodName := ⟨RX11, "isOver", "()Z"⟩
abbrev cX11_mostOf : ByteArray := prog_13_method_10_code
def yX11_mostOf : MethodName := ⟨RX11, "mostOf", "(I)I"⟩
abbrev cX11_set : ByteArray := prog_13_method_11_code
def yX11_set : MethodName := ⟨RX11, "set", "(II)I"⟩
abbrev cX11_learnt : ByteArray := prog_13_method_12_code
def yX11_learnt : MethodName := ⟨RX11, "learnt", "()I"⟩
abbrev cX11_nowOf : ByteArray := prog_13_method_13_code
def yX11_nowOf : MethodName := ⟨RX11, "nowOf", "(I)I"⟩
abbrev cX11_now : ByteArray := prog_13_method_14_code
def yX11_now : MethodName := ⟨RX11, "now", "(I)I"⟩
abbrev cX11_feed : ByteArray := prog_13_method_15_code
def yX11_feed : MethodName := ⟨RX11, "feed", "(I)I"⟩
abbrev cX11_isHere : ByteArray := prog_13_method_16_code
def yX11_isHere : MethodName := ⟨RX11, "isHere", "(I)Z"⟩
abbrev cX11_faulty : ByteArray := prog_13_method_17_code
def yX11_faulty : MethodName := ⟨RX11, "faulty", "()V"⟩
abbrev cX11_takes : ByteArray := prog_13_method_18_code
def yX11_takes : MethodName := ⟨RX11, "takes", "(I)V"⟩
abbrev cX11_isDigit : ByteArray := prog_13_method_19_code
def yX11_isDigit : MethodName := ⟨RX11, "isDigit", "()Z"⟩
abbrev cX11_readNumber : ByteArray := prog_13_method_20_code
def yX11_readNumber : MethodName := ⟨RX11, "readNumber", "()I"⟩
abbrev cX11_lay : ByteArray := prog_13_method_21_code
def yX11_lay : MethodName := ⟨RX11, "lay", "(I)V"⟩
abbrev cX11_either : ByteArray := prog_13_method_22_code
def yX11_either : MethodName := ⟨RX11, "either", "(I)V"⟩
abbrev cX11_both : ByteArray := prog_13_method_23_code
def yX11_both : MethodName := ⟨RX11, "both", "(I)V"⟩
abbrev cX11_isLetter : ByteArray := prog_13_method_24_code
def yX11_isLetter : MethodName := ⟨RX11, "isLetter", "()Z"⟩
abbrev cX11_one : ByteArray := prog_13_method_25_code
def yX11_one : MethodName := ⟨RX11, "one", "(I)V"⟩
abbrev cX11_readWord : ByteArray := prog_13_method_26_code
def yX11_readWord : MethodName := ⟨RX11, "readWord", "()I"⟩
abbrev cX11_clause : ByteArray := prog_13_method_27_code
def yX11_clause : MethodName := ⟨RX11, "clause", "()V"⟩
abbrev cX11_law : ByteArray := prog_13_method_28_code
def yX11_law : MethodName := ⟨RX11, "law", "()I"⟩
abbrev cX11_factOf : ByteArray := prog_13_method_29_code
def yX11_factOf : MethodName := ⟨RX11, "factOf", "(I)I"⟩
abbrev cX11_test : ByteArray := prog_13_method_30_code
def yX11_test : MethodName := ⟨RX11, "test", "(III)Z"⟩
abbrev cX11_isSo : ByteArray := prog_13_method_31_code
def yX11_isSo : MethodName := ⟨RX11, "isSo", "(I)Z"⟩
abbrev cX11_sumOf : ByteArray := prog_13_method_32_code
def yX11_sumOf : MethodName := ⟨RX11, "sumOf", "(I)I"⟩
abbrev cX11_lastOf : ByteArray := prog_13_method_33_code
def yX11_lastOf : MethodName := ⟨RX11, "lastOf", "(I)I"⟩
abbrev cX11_fordHalves : ByteArray := prog_13_method_34_code
def yX11_fordHalves : MethodName := ⟨RX11, "fordHalves", "()I"⟩
abbrev cX11_told : ByteArray := prog_13_method_35_code
def yX11_told : MethodName := ⟨RX11, "told", "(I)I"⟩
abbrev cX11_fearAs : ByteArray := prog_13_method_36_code
def yX11_fearAs : MethodName := ⟨RX11, "fearAs", "(I)I"⟩
abbrev cX11_lessBy : ByteArray := prog_13_method_37_code
def yX11_lessBy : MethodName := ⟨RX11, "lessBy", "(II)I"⟩
abbrev cX11_driveBy : ByteArray := prog_13_method_38_code
def yX11_driveBy : MethodName := ⟨RX11, "driveBy", "(I)I"⟩
abbrev cX11_isAct : ByteArray := prog_13_method_39_code
def yX11_isAct : MethodName := ⟨RX11, "isAct", "(I)Z"⟩
abbrev cX11_drive : ByteArray := prog_13_method_40_code
def yX11_drive : MethodName := ⟨RX11, "drive", "(I)I"⟩
abbrev cX11_wouldBy : ByteArray := prog_13_method_41_code
def yX11_wouldBy : MethodName := ⟨RX11, "wouldBy", "(I)I"⟩
abbrev cX11_would : ByteArray := prog_13_method_42_code
def yX11_would : MethodName := ⟨RX11, "would", "(I)I"⟩
abbrev cX11_more : ByteArray := prog_13_method_43_code
def yX11_more : MethodName := ⟨RX11, "more", "(II)V"⟩
abbrev cX11_does : ByteArray := prog_13_method_44_code
def yX11_does : MethodName := ⟨RX11, "does", "(I)I"⟩
abbrev cX11_driven : ByteArray := prog_13_method_45_code
def yX11_driven : MethodName := ⟨RX11, "driven", "(IZI)V"⟩
abbrev cX11_go : ByteArray := prog_13_method_46_code
def yX11_go : MethodName := ⟨RX11, "go", "(I)I"⟩
abbrev cX11_row : ByteArray := prog_13_method_47_code
def yX11_row : MethodName := ⟨RX11, "row", "(I)I"⟩
abbrev cX11_keepNow : ByteArray := prog_13_method_48_code
def yX11_keepNow : MethodName := ⟨RX11, "keepNow", "()V"⟩
abbrev cX11_layBack : ByteArray := prog_13_method_49_code
def yX11_layBack : MethodName := ⟨RX11, "layBack", "()V"⟩
abbrev cX11_hand : ByteArray := prog_13_method_50_code
def yX11_hand : MethodName := ⟨RX11, "hand", "(II)I"⟩
abbrev cX11_actOf : ByteArray := prog_13_method_51_code
def yX11_actOf : MethodName := ⟨RX11, "actOf", "(III)I"⟩
abbrev cX11_rowsOf : ByteArray := prog_13_method_52_code
def yX11_rowsOf : MethodName := ⟨RX11, "rowsOf", "(I)I"⟩
abbrev cX11_atBehind : ByteArray := prog_13_method_53_code
def yX11_atBehind : MethodName := ⟨RX11, "atBehind", "(II)I"⟩
abbrev cX11_soonest : ByteArray := prog_13_method_54_code
def yX11_soonest : MethodName := ⟨RX11, "soonest", "(II)I"⟩
abbrev cX11_gentlest : ByteArray := prog_13_method_55_code
def yX11_gentlest : MethodName := ⟨RX11, "gentlest", "(II)I"⟩
abbrev cX11_why : ByteArray := prog_13_method_56_code
def yX11_why : MethodName := ⟨RX11, "why", "()I"⟩
abbrev cX11_waitsFor : ByteArray := prog_13_method_57_code
def yX11_waitsFor : MethodName := ⟨RX11, "waitsFor", "()I"⟩
abbrev cX11_waits : ByteArray := prog_13_method_58_code
def yX11_waits : MethodName := ⟨RX11, "waits", "()I"⟩
abbrev cX11_round : ByteArray := prog_13_method_59_code
def yX11_round : MethodName := ⟨RX11, "round", "()I"⟩
abbrev cX11_shiftLoad : ByteArray := prog_13_method_60_code
def yX11_shiftLoad : MethodName := ⟨RX11, "shiftLoad", "()I"⟩
abbrev cX11_wander : ByteArray := prog_13_method_61_code
def yX11_wander : MethodName := ⟨RX11, "wander", "(I)I"⟩
abbrev cX11_lowest : ByteArray := prog_13_method_62_code
def yX11_lowest : MethodName := ⟨RX11, "lowest", "(JJZ)J"⟩
abbrev cX11_sure : ByteArray := prog_13_method_63_code
def yX11_sure : MethodName := ⟨RX11, "sure", "(II)J"⟩
abbrev cX11_days : ByteArray := prog_13_method_64_code
def yX11_days : MethodName := ⟨RX11, "days", "(II)I"⟩
abbrev cX11_beast : ByteArray := prog_13_method_65_code
def yX11_beast : MethodName := ⟨RX11, "beast", "(I)I"⟩
abbrev cX11_string : ByteArray := prog_13_method_66_code
def yX11_string : MethodName := ⟨RX11, "string", "(I)I"⟩
abbrev cX11_film : ByteArray := prog_13_method_67_code
def yX11_film : MethodName := ⟨RX11, "film", "(I)I"⟩
abbrev cX11_off : ByteArray := prog_13_method_68_code
def yX11_off : MethodName := ⟨RX11, "off", "()I"⟩
abbrev cX11_isTape : ByteArray := prog_13_method_69_code
def yX11_isTape : MethodName := ⟨RX11, "isTape", "(I)Z"⟩
abbrev cX11_judge : ByteArray := prog_13_method_70_code
def yX11_judge : MethodName := ⟨RX11, "judge", "(II)I"⟩
abbrev cX11_image : ByteArray := prog_13_method_71_code
def yX11_image : MethodName := ⟨RX11, "image", "()I"⟩
abbrev cX11_undo : ByteArray := prog_13_method_72_code
def yX11_undo : MethodName := ⟨RX11, "undo", "()I"⟩
abbrev cX11_ran : ByteArray := prog_13_method_73_code
def yX11_ran : MethodName := ⟨RX11, "ran", "(I)V"⟩
abbrev cX11_plainHolds : ByteArray := prog_13_method_74_code
def yX11_plainHolds : MethodName := ⟨RX11, "plainHolds", "(II)I"⟩
abbrev cX11_holding : ByteArray := prog_13_method_75_code
def yX11_holding : MethodName := ⟨RX11, "holding", "(II)I"⟩
abbrev cX11_plainChooses : ByteArray := prog_13_method_76_code
def yX11_plainChooses : MethodName := ⟨RX11, "plainChooses", "(II)I"⟩
abbrev cX11_fearedChooses : ByteArray := prog_13_method_77_code
def yX11_fearedChooses : MethodName := ⟨RX11, "fearedChooses", "(II)I"⟩
abbrev cX11_chooses : ByteArray := prog_13_method_78_code
def yX11_chooses : MethodName := ⟨RX11, "chooses", "(II)I"⟩
abbrev cX11_calledChooses : ByteArray := prog_13_method_79_code
def yX11_calledChooses : MethodName := ⟨RX11, "calledChooses", "(II)I"⟩
abbrev cX11_plainTells : ByteArray := prog_13_method_80_code
def yX11_plainTells : MethodName := ⟨RX11, "plainTells", "(II)I"⟩
abbrev cX11_telling : ByteArray := prog_13_method_81_code
def yX11_telling : MethodName := ⟨RX11, "telling", "(II)I"⟩
abbrev cX11_spoiltTells : ByteArray := prog_13_method_82_code
def yX11_spoiltTells : MethodName := ⟨RX11, "spoiltTells", "(II)I"⟩
abbrev cX11_part : ByteArray := prog_13_method_83_code
def yX11_part : MethodName := ⟨RX11, "part", "(III)I"⟩
abbrev cX11_trace : ByteArray := prog_13_method_84_code
def yX11_trace : MethodName := ⟨RX11, "trace", "(I)I"⟩
abbrev cX11_isUnder : ByteArray := prog_13_method_85_code
def yX11_isUnder : MethodName := ⟨RX11, "isUnder", "(II)Z"⟩
abbrev cX11_taken : ByteArray := prog_13_method_86_code
def yX11_taken : MethodName := ⟨RX11, "taken", "(II)I"⟩
abbrev cX11_count : ByteArray := prog_13_method_87_code
def yX11_count : MethodName := ⟨RX11, "count", "(I)I"⟩
abbrev cX11_tape : ByteArray := prog_13_method_88_code
def yX11_tape : MethodName := ⟨RX11, "tape", "(III)I"⟩
abbrev cX11_as : ByteArray := prog_13_method_89_code
def yX11_as : MethodName := ⟨RX11, "as", "(IJ)J"⟩
abbrev cX11_item : ByteArray := prog_13_method_90_code
def yX11_item : MethodName := ⟨RX11, "item", "(IIJ)I"⟩
abbrev cX11_read : ByteArray := prog_13_method_91_code
def yX11_read : MethodName := ⟨RX11, "read", "(II)J"⟩
abbrev cX11_shift : ByteArray := prog_13_method_92_code
def yX11_shift : MethodName := ⟨RX11, "shift", "(IIIII)I"⟩
def RJx145de : String := "java/io/Serializable"
def RJx9f9b0 : String := "java/lang/CharSequence"
def RJ11 : String := "java/lang/Character"
abbrev cJ11_isValidCodePoint_9a6ad : ByteArray := prog_14_method_11_code
def yJ11_isValidCodePoint_9a6ad : MethodName := ⟨RJ11, "isValidCodePoint", "(I)Z"⟩
abbrev cJ11_highSurrogate_5068e : ByteArray := prog_14_method_28_code
def yJ11_highSurrogate_5068e : MethodName := ⟨RJ11, "highSurrogate", "(I)C"⟩
abbrev cJ11_lowSurrogate_5068e : ByteArray := prog_14_method_29_code
def yJ11_lowSurrogate_5068e : MethodName := ⟨RJ11, "lowSurrogate", "(I)C"⟩
def RJxb160c : String := "java/lang/Comparable"
def RJ9 : String := "java/lang/Math"
abbrev cJ9_abs_0f7a4 : ByteArray := prog_15_method_59_code
def yJ9_abs_0f7a4 : MethodName := ⟨RJ9, "abs", "(I)I"⟩
abbrev cJ9_max_7cf53 : ByteArray := prog_15_method_65_code
def yJ9_max_7cf53 : MethodName := ⟨RJ9, "max", "(II)I"⟩
abbrev cJ9_min_7cf53 : ByteArray := prog_15_method_69_code
def yJ9_min_7cf53 : MethodName := ⟨RJ9, "min", "(II)I"⟩
def RJ0 : String := "java/lang/String"
abbrev cJ0_length_8abf5 : ByteArray := prog_16_method_54_code
def yJ0_length_8abf5 : MethodName := ⟨RJ0, "length", "()I"⟩
abbrev cJ0_charAt_5068e : ByteArray := prog_16_method_56_code
def yJ0_charAt_5068e : MethodName := ⟨RJ0, "charAt", "(I)C"⟩
abbrev cJ0_indexOf_0f7a4 : ByteArray := prog_16_method_79_code
def yJ0_indexOf_0f7a4 : MethodName := ⟨RJ0, "indexOf", "(I)I"⟩
abbrev cJ0_indexOf_7cf53 : ByteArray := prog_16_method_80_code
def yJ0_indexOf_7cf53 : MethodName := ⟨RJ0, "indexOf", "(II)I"⟩
abbrev cJ0_coder_7d493 : ByteArray := prog_16_method_152_code
def yJ0_coder_7d493 : MethodName := ⟨RJ0, "coder", "()B"⟩
abbrev cJ0_isLatin1_aae02 : ByteArray := prog_16_method_154_code
def yJ0_isLatin1_aae02 : MethodName := ⟨RJ0, "isLatin1", "()Z"⟩
abbrev cJ0_checkIndex_df160 : ByteArray := prog_16_method_155_code
def yJ0_checkIndex_df160 : MethodName := ⟨RJ0, "checkIndex", "(II)V"⟩
abbrev cJ0_checkBoundsBeginEnd_23922 : ByteArray := prog_16_method_158_code
def yJ0_checkBoundsBeginEnd_23922 : MethodName := ⟨RJ0, "checkBoundsBeginEnd", "(III)V"⟩
def RJ1 : String := "java/lang/StringLatin1"
abbrev cJ1_charAt_3b067 : ByteArray := prog_17_method_2_code
def yJ1_charAt_3b067 : MethodName := ⟨RJ1, "charAt", "([BI)C"⟩
abbrev cJ1_canEncode_9a6ad : ByteArray := prog_17_method_4_code
def yJ1_canEncode_9a6ad : MethodName := ⟨RJ1, "canEncode", "(I)Z"⟩
abbrev cJ1_indexOf_4cfef : ByteArray := prog_17_method_22_code
def yJ1_indexOf_4cfef : MethodName := ⟨RJ1, "indexOf", "([BIII)I"⟩
abbrev cJ1_indexOfChar_4cfef : ByteArray := prog_17_method_23_code
def yJ1_indexOfChar_4cfef : MethodName := ⟨RJ1, "indexOfChar", "([BIII)I"⟩
def RJ2 : String := "java/lang/StringUTF16"
abbrev cJ2_getChar_3b067 : ByteArray := prog_18_method_5_code
def yJ2_getChar_3b067 : MethodName := ⟨RJ2, "getChar", "([BI)C"⟩
abbrev cJ2_length_9d52b : ByteArray := prog_18_method_6_code
def yJ2_length_9d52b : MethodName := ⟨RJ2, "length", "([B)I"⟩
abbrev cJ2_indexOf_4cfef : ByteArray := prog_18_method_40_code
def yJ2_indexOf_4cfef : MethodName := ⟨RJ2, "indexOf", "([BIII)I"⟩
abbrev cJ2_indexOfChar_4cfef : ByteArray := prog_18_method_47_code
def yJ2_indexOfChar_4cfef : MethodName := ⟨RJ2, "indexOfChar", "([BIII)I"⟩
abbrev cJ2_indexOfCharUnsafe_4cfef : ByteArray := prog_18_method_48_code
def yJ2_indexOfCharUnsafe_4cfef : MethodName := ⟨RJ2, "indexOfCharUnsafe", "([BIII)I"⟩
abbrev cJ2_indexOfSupplementary_4cfef : ByteArray := prog_18_method_49_code
def yJ2_indexOfSupplementary_4cfef : MethodName := ⟨RJ2, "indexOfSupplementary", "([BIII)I"⟩
abbrev cJ2_charAt_3b067 : ByteArray := prog_18_method_83_code
def yJ2_charAt_3b067 : MethodName := ⟨RJ2, "charAt", "([BI)C"⟩
abbrev cJ2_checkIndex_2214a : ByteArray := prog_18_method_91_code
def yJ2_checkIndex_2214a : MethodName := ⟨RJ2, "checkIndex", "(I[B)V"⟩
abbrev cJ2_checkBoundsBeginEnd_d044e : ByteArray := prog_18_method_93_code
def yJ2_checkBoundsBeginEnd_d044e : MethodName := ⟨RJ2, "checkBoundsBeginEnd", "(II[B)V"⟩
def RJ10 : String := "java/lang/System"
def RJxfd54e : String := "java/lang/constant/Constable"
def RJx3cf43 : String := "java/lang/constant/ConstantDesc"
def RJ7 : String := "java/util/Arrays"
abbrev cJ7_rangeCheck_23922 : ByteArray := prog_20_method_30_code
def yJ7_rangeCheck_23922 : MethodName := ⟨RJ7, "rangeCheck", "(III)V"⟩
abbrev cJ7_fill_d0a16 : ByteArray := prog_20_method_101_code
def yJ7_fill_d0a16 : MethodName := ⟨RJ7, "fill", "([JJ)V"⟩
abbrev cJ7_fill_fda19 : ByteArray := prog_20_method_104_code
def yJ7_fill_fda19 : MethodName := ⟨RJ7, "fill", "([IIII)V"⟩
def RJ3 : String := "jdk/internal/util/Preconditions"
abbrev cJ3_checkIndex_8e157 : ByteArray := prog_21_method_11_code
def yJ3_checkIndex_8e157 : MethodName := ⟨RJ3, "checkIndex", "(IILjava/util/function/BiFunction;)I"⟩
abbrev cJ3_checkFromToIndex_8c36e : ByteArray := prog_21_method_12_code
def yJ3_checkFromToIndex_8c36e : MethodName := ⟨RJ3, "checkFromToIndex", "(IIILjava/util/function/BiFunction;)I"⟩
def RL : String := "DonkeyBridgeLaw"
abbrev cL_law : ByteArray := code
def yL_law : MethodName := ⟨RL, "law", "([I)Z"⟩
abbrev vwCl : List vw_C := [(RX0, TX0, 6), (RX1, TX1, 1), (RX2, TX2, 6), (RX3, TX3, 6), (RX4, TX4, 4), (RX5, TX5, 2), (RX6, TX6, 3), (RX7, TX7, 2), (RX8, TX8, 9), (RX9, TX9, 4), (RX10, TX10, 12), (RX11, TX11, 51)]
theorem dk {cc : ByteArray} {tb : List (Nat × Instr × Nat)} (h : tb.all (fun q => decide (decode cc q.1 = .ok q.2)) = true) (i : Nat) {pc len : Nat} {ins : Instr} (hi : tb[i]? = some (pc, ins, len)) : decode cc pc = .ok (ins, len) := by
  have h1 := List.all_eq_true.mp h _ (List.mem_of_getElem? hi)
  exact of_decide_eq_true h1
def tbX0_init_0 : List (Nat × Instr × Nat) := [(0, .aload_n 0, 1), (1, .invokespecial 3, 3), (4, .aload_n 0, 1), (5, .new 9, 3), (8, .dup, 1), (9, .bipush 20, 2), (11, .invokespecial 13, 3), (14, .putfield 16, 3), (17, .aload_n 0, 1), (18, .aload_n 1, 1), (19, .putfield 20, 3), (22, .return_, 1)]
theorem dcX0_init_0 : tbX0_init_0.all (fun q => decide (decode cX0_init q.1 = .ok q.2)) = true := by decide +kernel
def tbX0_ran_0 : List (Nat × Instr × Nat) := [(0, .aload_n 0, 1), (1, .getfield 24, 3), (4, .ireturn, 1)]
theorem dcX0_ran_0 : tbX0_ran_0.all (fun q => decide (decode cX0_ran q.1 = .ok q.2)) = true := by decide +kernel
def tbX0_kept_0 : List (Nat × Instr × Nat) := [(0, .aload_n 0, 1), (1, .getfield 16, 3), (4, .iload_n 1, 1), (5, .invokevirtual 28, 3), (8, .ireturn, 1)]
theorem dcX0_kept_0 : tbX0_kept_0.all (fun q => decide (decode cX0_kept q.1 = .ok q.2)) = true := by decide +kernel
def tbX0_ask_0 : List (Nat × Instr × Nat) := [(0, .aload_n 0, 1), (1, .getfield 16, 3), (4, .invokevirtual 32, 3), (7, .aload_n 0, 1), (8, .iconst 0, 1), (9, .putfield 24, 3), (12, .aload_n 0, 1), (13, .getfield 20, 3), (16, .iload_n 1, 1), (17, .invokevirtual 35, 3), (20, .ifCond .eq 12, 3), (23, .iload_n 2, 1), (24, .ifCond .lt 8, 3), (27, .iload_n 2, 1), (28, .iconst 2, 1), (29, .if_icmp .le 5, 3), (32, .iconst 0, 1), (33, .ireturn, 1), (34, .aload_n 0, 1), (35, .aload_n 0, 1), (36, .getfield 20, 3), (39, .iload_n 1, 1), (40, .invokevirtual 41, 3), (43, .putfield 44, 3), (46, .aload_n 0, 1), (47, .aload_n 0, 1), (48, .getfield 20, 3), (51, .iload_n 1, 1), (52, .invokevirtual 47, 3), (55, .putfield 50, 3), (58, .aload_n 0, 1), (59, .iload_n 1, 1), (60, .putfield 53, 3), (63, .aload_n 0, 1), (64, .aload_n 0, 1), (65, .getfield 44, 3), (68, .iload_n 2, 1), (69, .iload_n 3, 1), (70, .iconst 0, 1), (71, .invokevirtual 56, 3), (74, .ireturn, 1)]
theorem dcX0_ask_0 : tbX0_ask_0.all (fun q => decide (decode cX0_ask q.1 = .ok q.2)) = true := by decide +kernel
def tbX0_bodyOf_0 : List (Nat × Instr × Nat) := [(0, .iload_n 0, 1), (1, .istore_n 2, 1), (2, .iconst 0, 1), (3, .istore_n 3, 1), (4, .iload_n 3, 1), (5, .getstatic 60, 3), (8, .arraylength, 1), (9, .if_icmp .ge 57, 3), (12, .iload_n 2, 1), (13, .iconst 3, 1), (14, .imul, 1), (15, .iload_n 1, 1), (16, .iadd, 1), (17, .istore 4, 2), (19, .iload_n 2, 1), (20, .ifCond .lt 17, 3), (23, .iload 4, 2), (25, .ifCond .lt 12, 3), (28, .iload 4, 2), (30, .getstatic 60, 3), (33, .arraylength, 1), (34, .if_icmp .lt 5, 3), (37, .iconst 0, 1), (38, .ireturn, 1), (39, .getstatic 60, 3), (42, .iload 4, 2), (44, .iaload, 1), (45, .ifCond .eq 10, 3), (48, .getstatic 60, 3), (51, .iload 4, 2), (53, .iaload, 1), (54, .ireturn, 1), (55, .iload_n 2, 1), (56, .invokestatic 64, 3), (59, .istore_n 2, 1), (60, .iinc 3 1, 3), (63, .goto (-59), 3), (66, .iconst 0, 1), (67, .ireturn, 1)]
theorem dcX0_bodyOf_0 : tbX0_bodyOf_0.all (fun q => decide (decode cX0_bodyOf q.1 = .ok q.2)) = true := by decide +kernel
def tbX0_run_0 : List (Nat × Instr × Nat) := [(0, .iload 4, 2), (2, .bipush 40, 2), (4, .if_icmp .lt 5, 3), (7, .iconst 0, 1), (8, .ireturn, 1), (9, .iload_n 1, 1), (10, .iload_n 2, 1), (11, .invokestatic 67, 3), (14, .istore 5, 2), (16, .aload_n 0, 1), (17, .dup, 1), (18, .getfield 24, 3), (21, .iconst 1, 1), (22, .iadd, 1), (23, .putfield 24, 3), (26, .aload_n 0, 1), (27, .getfield 16, 3), (30, .iload 5, 2), (32, .invokevirtual 71, 3), (35, .pop, 1), (36, .aload_n 0, 1), (37, .iload 5, 2), (39, .iload_n 3, 1), (40, .iload 4, 2), (42, .iconst 1, 1), (43, .iadd, 1), (44, .invokevirtual 74, 3), (47, .ireturn, 1)]
theorem dcX0_run_0 : tbX0_run_0.all (fun q => decide (decode cX0_run q.1 = .ok q.2)) = true := by decide +kernel
def tbX0_answer_0 : List (Nat × Instr × Nat) := [(0, .iload_n 1, 1), (1, .lookupswitch 248 #[(10, 99), (11, 106), (12, 123), (20, 137), (30, 149), (40, 160), (50, 181), (51, 191), (60, 202), (70, 216), (71, 234)], 99), (100, .iload_n 2, 1), (101, .aload_n 0, 1), (102, .getfield 53, 3), (105, .iadd, 1), (106, .ireturn, 1), (107, .aload_n 0, 1), (108, .aload_n 0, 1), (109, .getfield 44, 3), (112, .iconst 0, 1), (113, .iload_n 2, 1), (114, .iload_n 3, 1), (115, .invokevirtual 56, 3), (118, .aload_n 0, 1), (119, .getfield 50, 3), (122, .isub, 1), (123, .ireturn, 1), (124, .aload_n 0, 1), (125, .aload_n 0, 1), (126, .getfield 44, 3), (129, .iconst 1, 1), (130, .iload_n 2, 1), (131, .iload_n 3, 1), (132, .invokevirtual 56, 3), (135, .iconst 2, 1), (136, .imul, 1), (137, .ireturn, 1), (138, .aload_n 0, 1), (139, .iconst 0, 1), (140, .iconst 1, 1), (141, .iload_n 2, 1), (142, .iload_n 3, 1), (143, .invokevirtual 56, 3), (146, .bipush 6, 2), (148, .ixor, 1), (149, .ireturn, 1), (150, .aload_n 0, 1), (151, .iconst 0, 1), (152, .iconst 0, 1), (153, .iload_n 2, 1), (154, .iconst 3, 1), (155, .imul, 1), (156, .iload_n 3, 1), (157, .invokevirtual 56, 3), (160, .ireturn, 1), (161, .aload_n 0, 1), (162, .iconst 0, 1)]
theorem dcX0_answer_0 : tbX0_answer_0.all (fun q => decide (decode cX0_answer q.1 = .ok q.2)) = true := by decide +kernel
def tbX0_answer_1 : List (Nat × Instr × Nat) := [(163, .iconst 2, 1), (164, .iload_n 2, 1), (165, .iload_n 3, 1), (166, .invokevirtual 56, 3), (169, .aload_n 0, 1), (170, .aload_n 0, 1), (171, .getfield 44, 3), (174, .iconst 1, 1), (175, .iconst 1, 1), (176, .iload_n 3, 1), (177, .invokevirtual 56, 3), (180, .iadd, 1), (181, .ireturn, 1), (182, .aload_n 0, 1), (183, .iconst 1, 1), (184, .iconst 0, 1), (185, .iload_n 2, 1), (186, .iload_n 3, 1), (187, .invokevirtual 56, 3), (190, .ineg, 1), (191, .ireturn, 1), (192, .aload_n 0, 1), (193, .iconst 1, 1), (194, .iconst 1, 1), (195, .iload_n 2, 1), (196, .iconst 1, 1), (197, .iadd, 1), (198, .iload_n 3, 1), (199, .invokevirtual 56, 3), (202, .ireturn, 1), (203, .aload_n 0, 1), (204, .iconst 2, 1), (205, .iconst 2, 1), (206, .iload_n 2, 1), (207, .aload_n 0, 1), (208, .getfield 53, 3), (211, .isub, 1), (212, .iload_n 3, 1), (213, .invokevirtual 56, 3), (216, .ireturn, 1), (217, .aload_n 0, 1), (218, .iconst 3, 1), (219, .iconst 1, 1), (220, .iload_n 2, 1), (221, .iload_n 3, 1), (222, .invokevirtual 56, 3), (225, .aload_n 0, 1), (226, .iconst 3, 1)]
theorem dcX0_answer_1 : tbX0_answer_1.all (fun q => decide (decode cX0_answer q.1 = .ok q.2)) = true := by decide +kernel
def tbX0_answer_2 : List (Nat × Instr × Nat) := [(227, .iconst 0, 1), (228, .iconst 2, 1), (229, .iload_n 3, 1), (230, .invokevirtual 56, 3), (233, .iadd, 1), (234, .ireturn, 1), (235, .aload_n 0, 1), (236, .iconst 3, 1), (237, .iconst 0, 1), (238, .iload_n 2, 1), (239, .iload_n 3, 1), (240, .invokevirtual 56, 3), (243, .aload_n 0, 1), (244, .getfield 50, 3), (247, .ixor, 1), (248, .ireturn, 1), (249, .iconst 0, 1), (250, .ireturn, 1)]
theorem dcX0_answer_2 : tbX0_answer_2.all (fun q => decide (decode cX0_answer q.1 = .ok q.2)) = true := by decide +kernel
def tbX1_init_0 : List (Nat × Instr × Nat) := [(0, .aload_n 0, 1), (1, .invokespecial 3, 3), (4, .aload_n 0, 1), (5, .getstatic 9, 3), (8, .arraylength, 1), (9, .newarray .int, 2), (11, .putfield 15, 3), (14, .aload_n 0, 1), (15, .getfield 15, 3), (18, .iconst 0, 1), (19, .bipush 6, 2), (21, .bipush 10, 2), (23, .invokestatic 18, 3), (26, .aload_n 0, 1), (27, .getfield 15, 3), (30, .bipush 7, 2), (32, .bipush 20, 2), (34, .iastore, 1), (35, .return_, 1)]
theorem dcX1_init_0 : tbX1_init_0.all (fun q => decide (decode cX1_init q.1 = .ok q.2)) = true := by decide +kernel
def tbX1_mostOf_0 : List (Nat × Instr × Nat) := [(0, .iload_n 0, 1), (1, .ifCond .lt 19, 3), (4, .iload_n 0, 1), (5, .getstatic 9, 3), (8, .arraylength, 1), (9, .if_icmp .ge 11, 3), (12, .getstatic 9, 3), (15, .iload_n 0, 1), (16, .iaload, 1), (17, .goto 4, 3), (20, .iconst 0, 1), (21, .ireturn, 1)]
theorem dcX1_mostOf_0 : tbX1_mostOf_0.all (fun q => decide (decode cX1_mostOf q.1 = .ok q.2)) = true := by decide +kernel
def tbX1_get_0 : List (Nat × Instr × Nat) := [(0, .iload_n 1, 1), (1, .ifCond .lt 21, 3), (4, .iload_n 1, 1), (5, .aload_n 0, 1), (6, .getfield 15, 3), (9, .arraylength, 1), (10, .if_icmp .ge 12, 3), (13, .aload_n 0, 1), (14, .getfield 15, 3), (17, .iload_n 1, 1), (18, .iaload, 1), (19, .goto 4, 3), (22, .iconst 0, 1), (23, .ireturn, 1)]
theorem dcX1_get_0 : tbX1_get_0.all (fun q => decide (decode cX1_get q.1 = .ok q.2)) = true := by decide +kernel
def tbX1_tell_0 : List (Nat × Instr × Nat) := [(0, .iload_n 1, 1), (1, .bipush 15, 2), (3, .if_icmp .ne 10, 3), (6, .aload_n 0, 1), (7, .invokevirtual 24, 3), (10, .goto 8, 3), (13, .aload_n 0, 1), (14, .iload_n 1, 1), (15, .invokevirtual 28, 3), (18, .ireturn, 1)]
theorem dcX1_tell_0 : tbX1_tell_0.all (fun q => decide (decode cX1_tell q.1 = .ok q.2)) = true := by decide +kernel
def tbX1_put_0 : List (Nat × Instr × Nat) := [(0, .iload_n 1, 1), (1, .ifCond .lt 19, 3), (4, .iload_n 1, 1), (5, .aload_n 0, 1), (6, .getfield 15, 3), (9, .arraylength, 1), (10, .if_icmp .ge 10, 3), (13, .aload_n 0, 1), (14, .getfield 15, 3), (17, .iload_n 1, 1), (18, .iload_n 2, 1), (19, .iastore, 1), (20, .return_, 1)]
theorem dcX1_put_0 : tbX1_put_0.all (fun q => decide (decode cX1_put q.1 = .ok q.2)) = true := by decide +kernel
def tbX1_addTo_0 : List (Nat × Instr × Nat) := [(0, .iload_n 1, 1), (1, .ifCond .lt 61, 3), (4, .iload_n 1, 1), (5, .aload_n 0, 1), (6, .getfield 15, 3), (9, .arraylength, 1), (10, .if_icmp .ge 52, 3), (13, .iload_n 1, 1), (14, .getstatic 9, 3), (17, .arraylength, 1), (18, .if_icmp .ge 44, 3), (21, .aload_n 0, 1), (22, .getfield 15, 3), (25, .iload_n 1, 1), (26, .iaload, 1), (27, .iload_n 2, 1), (28, .iadd, 1), (29, .istore_n 3, 1), (30, .aload_n 0, 1), (31, .getfield 15, 3), (34, .iload_n 1, 1), (35, .iload_n 3, 1), (36, .ifCond .ge 7, 3), (39, .iconst 0, 1), (40, .goto 21, 3), (43, .iload_n 3, 1), (44, .getstatic 9, 3), (47, .iload_n 1, 1), (48, .iaload, 1), (49, .if_icmp .le 11, 3), (52, .getstatic 9, 3), (55, .iload_n 1, 1), (56, .iaload, 1), (57, .goto 4, 3), (60, .iload_n 3, 1), (61, .iastore, 1), (62, .return_, 1)]
theorem dcX1_addTo_0 : tbX1_addTo_0.all (fun q => decide (decode cX1_addTo q.1 = .ok q.2)) = true := by decide +kernel
def tbX1_sits_0 : List (Nat × Instr × Nat) := [(0, .aload_n 0, 1), (1, .getfield 15, 3), (4, .bipush 13, 2), (6, .iaload, 1), (7, .ifCond .eq 7, 3), (10, .iconst 1, 1), (11, .goto 4, 3), (14, .iconst 0, 1), (15, .ireturn, 1)]
theorem dcX1_sits_0 : tbX1_sits_0.all (fun q => decide (decode cX1_sits q.1 = .ok q.2)) = true := by decide +kernel
def tbX1_learnt_0 : List (Nat × Instr × Nat) := [(0, .iconst 0, 1), (1, .istore_n 1, 1), (2, .iconst 0, 1), (3, .istore_n 2, 1), (4, .iload_n 2, 1), (5, .bipush 6, 2), (7, .if_icmp .gt 27, 3), (10, .iload_n 2, 1), (11, .aload_n 0, 1), (12, .getfield 15, 3), (15, .arraylength, 1), (16, .if_icmp .ge 18, 3), (19, .iload_n 1, 1), (20, .aload_n 0, 1), (21, .getfield 15, 3), (24, .iload_n 2, 1), (25, .iaload, 1), (26, .iadd, 1), (27, .istore_n 1, 1), (28, .iinc 2 1, 3), (31, .goto (-27), 3), (34, .iload_n 1, 1), (35, .ireturn, 1)]
theorem dcX1_learnt_0 : tbX1_learnt_0.all (fun q => decide (decode cX1_learnt q.1 = .ok q.2)) = true := by decide +kernel
def tbX1_become_0 : List (Nat × Instr × Nat) := [(0, .aload_n 1, 1), (1, .getfield 15, 3), (4, .iconst 0, 1), (5, .aload_n 0, 1), (6, .getfield 15, 3), (9, .iconst 0, 1), (10, .aload_n 0, 1), (11, .getfield 15, 3), (14, .arraylength, 1), (15, .invokestatic 32, 3), (18, .return_, 1)]
theorem dcX1_become_0 : tbX1_become_0.all (fun q => decide (decode cX1_become q.1 = .ok q.2)) = true := by decide +kernel
def tbX2_init_0 : List (Nat × Instr × Nat) := [(0, .aload_n 0, 1), (1, .invokespecial 3, 3), (4, .aload_n 0, 1), (5, .bipush 10, 2), (7, .newarray .int, 2), (9, .putfield 9, 3), (12, .aload_n 0, 1), (13, .bipush 10, 2), (15, .newarray .int, 2), (17, .putfield 15, 3), (20, .aload_n 0, 1), (21, .bipush 10, 2), (23, .newarray .int, 2), (25, .putfield 18, 3), (28, .aload_n 0, 1), (29, .bipush 100, 2), (31, .newarray .int, 2), (33, .putfield 21, 3), (36, .return_, 1)]
theorem dcX2_init_0 : tbX2_init_0.all (fun q => decide (decode cX2_init q.1 = .ok q.2)) = true := by decide +kernel
def tbX2_clear_0 : List (Nat × Instr × Nat) := [(0, .aload_n 0, 1), (1, .iconst 0, 1), (2, .putfield 24, 3), (5, .aload_n 0, 1), (6, .iconst 0, 1), (7, .putfield 28, 3), (10, .return_, 1)]
theorem dcX2_clear_0 : tbX2_clear_0.all (fun q => decide (decode cX2_clear q.1 = .ok q.2)) = true := by decide +kernel
def tbX2_beginClause_0 : List (Nat × Instr × Nat) := [(0, .aload_n 0, 1), (1, .getfield 24, 3), (4, .ifCond .lt 55, 3), (7, .aload_n 0, 1), (8, .getfield 24, 3), (11, .bipush 10, 2), (13, .if_icmp .ge 46, 3), (16, .aload_n 0, 1), (17, .getfield 9, 3), (20, .aload_n 0, 1), (21, .getfield 24, 3), (24, .iload_n 1, 1), (25, .iastore, 1), (26, .aload_n 0, 1), (27, .getfield 15, 3), (30, .aload_n 0, 1), (31, .getfield 24, 3), (34, .iload_n 2, 1), (35, .iastore, 1), (36, .aload_n 0, 1), (37, .getfield 18, 3), (40, .aload_n 0, 1), (41, .getfield 24, 3), (44, .aload_n 0, 1), (45, .getfield 28, 3), (48, .iastore, 1), (49, .aload_n 0, 1), (50, .dup, 1), (51, .getfield 24, 3), (54, .iconst 1, 1), (55, .iadd, 1), (56, .putfield 24, 3), (59, .return_, 1)]
theorem dcX2_beginClause_0 : tbX2_beginClause_0.all (fun q => decide (decode cX2_beginClause q.1 = .ok q.2)) = true := by decide +kernel
def tbX2_addCode_0 : List (Nat × Instr × Nat) := [(0, .aload_n 0, 1), (1, .getfield 28, 3), (4, .ifCond .lt 32, 3), (7, .aload_n 0, 1), (8, .getfield 28, 3), (11, .bipush 100, 2), (13, .if_icmp .ge 23, 3), (16, .aload_n 0, 1), (17, .getfield 21, 3), (20, .aload_n 0, 1), (21, .getfield 28, 3), (24, .iload_n 1, 1), (25, .iastore, 1), (26, .aload_n 0, 1), (27, .dup, 1), (28, .getfield 28, 3), (31, .iconst 1, 1), (32, .iadd, 1), (33, .putfield 28, 3), (36, .return_, 1)]
theorem dcX2_addCode_0 : tbX2_addCode_0.all (fun q => decide (decode cX2_addCode q.1 = .ok q.2)) = true := by decide +kernel
def tbX2_codeOf_0 : List (Nat × Instr × Nat) := [(0, .iload_n 0, 1), (1, .sipush 1000, 3), (4, .imul, 1), (5, .iload_n 1, 1), (6, .bipush 100, 2), (8, .imul, 1), (9, .iadd, 1), (10, .iload_n 2, 1), (11, .iadd, 1), (12, .ireturn, 1)]
theorem dcX2_codeOf_0 : tbX2_codeOf_0.all (fun q => decide (decode cX2_codeOf q.1 = .ok q.2)) = true := by decide +kernel
def tbX2_together_0 : List (Nat × Instr × Nat) := [(0, .iconst 0, 1), (1, .istore_n 3, 1), (2, .iconst 0, 1), (3, .istore 4, 2), (5, .iload 4, 2), (7, .aload_n 0, 1), (8, .getfield 24, 3), (11, .if_icmp .ge 47, 3), (14, .iload 4, 2), (16, .bipush 10, 2), (18, .if_icmp .ge 40, 3), (21, .aload_n 0, 1), (22, .getfield 9, 3), (25, .iload 4, 2), (27, .iaload, 1), (28, .iload_n 1, 1), (29, .if_icmp .ne 23, 3), (32, .aload_n 0, 1), (33, .iload 4, 2), (35, .aload_n 2, 1), (36, .invokevirtual 31, 3), (39, .ifCond .eq 13, 3), (42, .iload_n 3, 1), (43, .aload_n 0, 1), (44, .getfield 15, 3), (47, .iload 4, 2), (49, .iaload, 1), (50, .iadd, 1), (51, .istore_n 3, 1), (52, .iinc 4 1, 3), (55, .goto (-50), 3), (58, .iload_n 3, 1), (59, .ireturn, 1)]
theorem dcX2_together_0 : tbX2_together_0.all (fun q => decide (decode cX2_together q.1 = .ok q.2)) = true := by decide +kernel
def tbX2_last_0 : List (Nat × Instr × Nat) := [(0, .iload_n 1, 1), (1, .iconst 3, 1), (2, .if_icmp .ne 7, 3), (5, .iconst 3, 1), (6, .goto 23, 3), (9, .iload_n 1, 1), (10, .iconst 4, 1), (11, .if_icmp .ne 7, 3), (14, .iconst 5, 1), (15, .goto 14, 3), (18, .iload_n 1, 1), (19, .iconst 5, 1), (20, .if_icmp .ne 7, 3), (23, .iconst 2, 1), (24, .goto 5, 3), (27, .bipush 9, 2), (29, .istore_n 2, 1), (30, .iconst 0, 1), (31, .istore_n 3, 1), (32, .iload_n 3, 1), (33, .aload_n 0, 1), (34, .getfield 24, 3), (37, .if_icmp .ge 32, 3), (40, .iload_n 3, 1), (41, .bipush 10, 2), (43, .if_icmp .ge 26, 3), (46, .aload_n 0, 1), (47, .getfield 9, 3), (50, .iload_n 3, 1), (51, .iaload, 1), (52, .iload_n 1, 1), (53, .if_icmp .ne 10, 3), (56, .aload_n 0, 1), (57, .getfield 15, 3), (60, .iload_n 3, 1), (61, .iaload, 1), (62, .istore_n 2, 1), (63, .iinc 3 1, 3), (66, .goto (-34), 3), (69, .iload_n 2, 1), (70, .ireturn, 1)]
theorem dcX2_last_0 : tbX2_last_0.all (fun q => decide (decode cX2_last q.1 = .ok q.2)) = true := by decide +kernel
def tbX2_isTrue_0 : List (Nat × Instr × Nat) := [(0, .iload_n 1, 1), (1, .ifCond .lt 9, 3), (4, .iload_n 1, 1), (5, .bipush 10, 2), (7, .if_icmp .lt 5, 3), (10, .iconst 0, 1), (11, .ireturn, 1), (12, .iload_n 1, 1), (13, .iconst 1, 1), (14, .iadd, 1), (15, .aload_n 0, 1), (16, .getfield 24, 3), (19, .if_icmp .ge 22, 3), (22, .iload_n 1, 1), (23, .iconst 1, 1), (24, .iadd, 1), (25, .bipush 10, 2), (27, .if_icmp .ge 14, 3), (30, .aload_n 0, 1), (31, .getfield 18, 3), (34, .iload_n 1, 1), (35, .iconst 1, 1), (36, .iadd, 1), (37, .iaload, 1), (38, .goto 7, 3), (41, .aload_n 0, 1), (42, .getfield 28, 3), (45, .istore_n 3, 1), (46, .iconst 0, 1), (47, .istore 4, 2), (49, .aload_n 0, 1), (50, .getfield 18, 3), (53, .iload_n 1, 1), (54, .iaload, 1), (55, .istore 5, 2), (57, .iload 5, 2), (59, .ifCond .lt 212, 3), (62, .iload 5, 2), (64, .iload_n 3, 1), (65, .if_icmp .ge 206, 3), (68, .iload 5, 2), (70, .bipush 100, 2), (72, .if_icmp .ge 199, 3), (75, .aload_n 0, 1), (76, .getfield 21, 3), (79, .iload 5, 2), (81, .iaload, 1), (82, .istore 6, 2)]
theorem dcX2_isTrue_0 : tbX2_isTrue_0.all (fun q => decide (decode cX2_isTrue q.1 = .ok q.2)) = true := by decide +kernel
def tbX2_isTrue_1 : List (Nat × Instr × Nat) := [(84, .iload 4, 2), (86, .iconst 1, 1), (87, .iand, 1), (88, .istore 7, 2), (90, .iload 6, 2), (92, .iconst (-1), 1), (93, .if_icmp .ne 12, 3), (96, .iload 4, 2), (98, .iconst 1, 1), (99, .ixor, 1), (100, .istore 4, 2), (102, .goto 163, 3), (105, .iload 6, 2), (107, .bipush (-2), 2), (109, .if_icmp .ne 18, 3), (112, .iload 4, 2), (114, .iconst 1, 1), (115, .ishr, 1), (116, .iload 7, 2), (118, .bipush (-2), 2), (120, .ior, 1), (121, .iand, 1), (122, .istore 4, 2), (124, .goto 141, 3), (127, .iload 6, 2), (129, .bipush (-3), 2), (131, .if_icmp .ne 15, 3), (134, .iload 4, 2), (136, .iconst 1, 1), (137, .ishr, 1), (138, .iload 7, 2), (140, .ior, 1), (141, .istore 4, 2), (143, .goto 122, 3), (146, .iload 6, 2), (148, .sipush 1000, 3), (151, .idiv, 1), (152, .istore 8, 2), (154, .iload 6, 2), (156, .bipush 100, 2), (158, .idiv, 1), (159, .bipush 10, 2), (161, .irem, 1), (162, .istore 9, 2), (164, .iload 6, 2), (166, .bipush 100, 2), (168, .irem, 1), (169, .istore 10, 2)]
theorem dcX2_isTrue_1 : tbX2_isTrue_1.all (fun q => decide (decode cX2_isTrue q.1 = .ok q.2)) = true := by decide +kernel
def tbX2_isTrue_2 : List (Nat × Instr × Nat) := [(171, .iload 8, 2), (173, .ifCond .lt 17, 3), (176, .iload 8, 2), (178, .aload_n 2, 1), (179, .arraylength, 1), (180, .if_icmp .ge 10, 3), (183, .aload_n 2, 1), (184, .iload 8, 2), (186, .iaload, 1), (187, .goto 4, 3), (190, .iconst 0, 1), (191, .istore 11, 2), (193, .iload 9, 2), (195, .ifCond .ne 18, 3), (198, .iload 11, 2), (200, .iload 10, 2), (202, .if_icmp .ge 7, 3), (205, .iconst 1, 1), (206, .goto 40, 3), (209, .iconst 0, 1), (210, .goto 36, 3), (213, .iload 9, 2), (215, .iconst 1, 1), (216, .if_icmp .ne 18, 3), (219, .iload 11, 2), (221, .iload 10, 2), (223, .if_icmp .ne 7, 3), (226, .iconst 1, 1), (227, .goto 19, 3), (230, .iconst 0, 1), (231, .goto 15, 3), (234, .iload 11, 2), (236, .iload 10, 2), (238, .if_icmp .le 7, 3), (241, .iconst 1, 1), (242, .goto 4, 3), (245, .iconst 0, 1), (246, .istore 12, 2), (248, .iload 4, 2), (250, .iconst 1, 1), (251, .ishl, 1), (252, .iload 12, 2), (254, .ifCond .eq 7, 3), (257, .iconst 1, 1), (258, .goto 4, 3), (261, .iconst 0, 1), (262, .ior, 1), (263, .istore 4, 2)]
theorem dcX2_isTrue_2 : tbX2_isTrue_2.all (fun q => decide (decode cX2_isTrue q.1 = .ok q.2)) = true := by decide +kernel
def tbX2_isTrue_3 : List (Nat × Instr × Nat) := [(265, .iinc 5 1, 3), (268, .goto (-211), 3), (271, .iload 4, 2), (273, .iconst 1, 1), (274, .iand, 1), (275, .iconst 1, 1), (276, .if_icmp .ne 7, 3), (279, .iconst 1, 1), (280, .goto 4, 3), (283, .iconst 0, 1), (284, .ireturn, 1)]
theorem dcX2_isTrue_3 : tbX2_isTrue_3.all (fun q => decide (decode cX2_isTrue q.1 = .ok q.2)) = true := by decide +kernel
def tbX3_init_0 : List (Nat × Instr × Nat) := [(0, .aload_n 0, 1), (1, .invokespecial 3, 3), (4, .aload_n 0, 1), (5, .new 9, 3), (8, .dup, 1), (9, .invokespecial 11, 3), (12, .putfield 12, 3), (15, .aload_n 0, 1), (16, .new 18, 3), (19, .dup, 1), (20, .bipush 12, 2), (22, .invokespecial 20, 3), (25, .putfield 23, 3), (28, .aload_n 0, 1), (29, .new 18, 3), (32, .dup, 1), (33, .bipush 12, 2), (35, .invokespecial 20, 3), (38, .putfield 27, 3), (41, .aload_n 0, 1), (42, .new 18, 3), (45, .dup, 1), (46, .iconst 4, 1), (47, .invokespecial 20, 3), (50, .putfield 30, 3), (53, .aload_n 0, 1), (54, .iconst 0, 1), (55, .putfield 33, 3), (58, .aload_n 0, 1), (59, .iconst (-1), 1), (60, .putfield 37, 3), (63, .return_, 1)]
theorem dcX3_init_0 : tbX3_init_0.all (fun q => decide (decode cX3_init q.1 = .ok q.2)) = true := by decide +kernel
def tbX3_become_0 : List (Nat × Instr × Nat) := [(0, .aload_n 0, 1), (1, .getfield 12, 3), (4, .aload_n 1, 1), (5, .getfield 12, 3), (8, .invokevirtual 40, 3), (11, .aload_n 0, 1), (12, .getfield 23, 3), (15, .aload_n 1, 1), (16, .getfield 23, 3), (19, .invokevirtual 44, 3), (22, .aload_n 0, 1), (23, .getfield 27, 3), (26, .aload_n 1, 1), (27, .getfield 27, 3), (30, .invokevirtual 44, 3), (33, .aload_n 0, 1), (34, .getfield 30, 3), (37, .aload_n 1, 1), (38, .getfield 30, 3), (41, .invokevirtual 44, 3), (44, .aload_n 0, 1), (45, .aload_n 1, 1), (46, .getfield 33, 3), (49, .putfield 33, 3), (52, .aload_n 0, 1), (53, .aload_n 1, 1), (54, .getfield 37, 3), (57, .putfield 37, 3), (60, .return_, 1)]
theorem dcX3_become_0 : tbX3_become_0.all (fun q => decide (decode cX3_become q.1 = .ok q.2)) = true := by decide +kernel
def tbX4_init_0 : List (Nat × Instr × Nat) := [(0, .aload_n 0, 1), (1, .invokespecial 3, 3), (4, .aload_n 0, 1), (5, .bipush 10, 2), (7, .newarray .int, 2), (9, .putfield 9, 3), (12, .aload_n 0, 1), (13, .bipush 10, 2), (15, .newarray .int, 2), (17, .putfield 15, 3), (20, .aload_n 0, 1), (21, .bipush 10, 2), (23, .newarray .int, 2), (25, .putfield 18, 3), (28, .return_, 1)]
theorem dcX4_init_0 : tbX4_init_0.all (fun q => decide (decode cX4_init q.1 = .ok q.2)) = true := by decide +kernel
def tbX4_size_0 : List (Nat × Instr × Nat) := [(0, .aload_n 0, 1), (1, .getfield 21, 3), (4, .ireturn, 1)]
theorem dcX4_size_0 : tbX4_size_0.all (fun q => decide (decode cX4_size q.1 = .ok q.2)) = true := by decide +kernel
def tbX4_has_0 : List (Nat × Instr × Nat) := [(0, .iload_n 1, 1), (1, .ifCond .lt 15, 3), (4, .iload_n 1, 1), (5, .aload_n 0, 1), (6, .getfield 21, 3), (9, .if_icmp .ge 7, 3), (12, .iconst 1, 1), (13, .goto 4, 3), (16, .iconst 0, 1), (17, .ireturn, 1)]
theorem dcX4_has_0 : tbX4_has_0.all (fun q => decide (decode cX4_has q.1 = .ok q.2)) = true := by decide +kernel
def tbX4_kindOf_0 : List (Nat × Instr × Nat) := [(0, .iload_n 1, 1), (1, .ifCond .lt 29, 3), (4, .iload_n 1, 1), (5, .aload_n 0, 1), (6, .getfield 21, 3), (9, .if_icmp .ge 21, 3), (12, .iload_n 1, 1), (13, .aload_n 0, 1), (14, .getfield 9, 3), (17, .arraylength, 1), (18, .if_icmp .ge 12, 3), (21, .aload_n 0, 1), (22, .getfield 9, 3), (25, .iload_n 1, 1), (26, .iaload, 1), (27, .goto 4, 3), (30, .iconst (-1), 1), (31, .ireturn, 1)]
theorem dcX4_kindOf_0 : tbX4_kindOf_0.all (fun q => decide (decode cX4_kindOf q.1 = .ok q.2)) = true := by decide +kernel
def tbX4_numberOf_0 : List (Nat × Instr × Nat) := [(0, .iload_n 1, 1), (1, .ifCond .lt 29, 3), (4, .iload_n 1, 1), (5, .aload_n 0, 1), (6, .getfield 21, 3), (9, .if_icmp .ge 21, 3), (12, .iload_n 1, 1), (13, .aload_n 0, 1), (14, .getfield 15, 3), (17, .arraylength, 1), (18, .if_icmp .ge 12, 3), (21, .aload_n 0, 1), (22, .getfield 15, 3), (25, .iload_n 1, 1), (26, .iaload, 1), (27, .goto 4, 3), (30, .iconst 0, 1), (31, .ireturn, 1)]
theorem dcX4_numberOf_0 : tbX4_numberOf_0.all (fun q => decide (decode cX4_numberOf q.1 = .ok q.2)) = true := by decide +kernel
def tbX4_thingOf_0 : List (Nat × Instr × Nat) := [(0, .iload_n 1, 1), (1, .ifCond .lt 29, 3), (4, .iload_n 1, 1), (5, .aload_n 0, 1), (6, .getfield 21, 3), (9, .if_icmp .ge 21, 3), (12, .iload_n 1, 1), (13, .aload_n 0, 1), (14, .getfield 18, 3), (17, .arraylength, 1), (18, .if_icmp .ge 12, 3), (21, .aload_n 0, 1), (22, .getfield 18, 3), (25, .iload_n 1, 1), (26, .iaload, 1), (27, .goto 4, 3), (30, .iconst (-1), 1), (31, .ireturn, 1)]
theorem dcX4_thingOf_0 : tbX4_thingOf_0.all (fun q => decide (decode cX4_thingOf q.1 = .ok q.2)) = true := by decide +kernel
def tbX4_add_0 : List (Nat × Instr × Nat) := [(0, .aload_n 0, 1), (1, .getfield 21, 3), (4, .ifCond .lt 12, 3), (7, .aload_n 0, 1), (8, .getfield 21, 3), (11, .bipush 10, 2), (13, .if_icmp .lt 6, 3), (16, .bipush (-4), 2), (18, .ireturn, 1), (19, .aload_n 0, 1), (20, .getfield 9, 3), (23, .aload_n 0, 1), (24, .getfield 21, 3), (27, .iload_n 1, 1), (28, .iastore, 1), (29, .aload_n 0, 1), (30, .getfield 15, 3), (33, .aload_n 0, 1), (34, .getfield 21, 3), (37, .iload_n 2, 1), (38, .iastore, 1), (39, .aload_n 0, 1), (40, .getfield 18, 3), (43, .aload_n 0, 1), (44, .getfield 21, 3), (47, .iload_n 3, 1), (48, .iastore, 1), (49, .aload_n 0, 1), (50, .dup, 1), (51, .getfield 21, 3), (54, .iconst 1, 1), (55, .iadd, 1), (56, .putfield 21, 3), (59, .aload_n 0, 1), (60, .getfield 21, 3), (63, .iconst 1, 1), (64, .isub, 1), (65, .ireturn, 1)]
theorem dcX4_add_0 : tbX4_add_0.all (fun q => decide (decode cX4_add q.1 = .ok q.2)) = true := by decide +kernel
def tbX4_aboveOf_0 : List (Nat × Instr × Nat) := [(0, .iload_n 0, 1), (1, .ifCond .lt 19, 3), (4, .iload_n 0, 1), (5, .getstatic 25, 3), (8, .arraylength, 1), (9, .if_icmp .ge 11, 3), (12, .getstatic 25, 3), (15, .iload_n 0, 1), (16, .iaload, 1), (17, .goto 4, 3), (20, .iconst (-1), 1), (21, .ireturn, 1)]
theorem dcX4_aboveOf_0 : tbX4_aboveOf_0.all (fun q => decide (decode cX4_aboveOf q.1 = .ok q.2)) = true := by decide +kernel
def tbX4_isUnder_0 : List (Nat × Instr × Nat) := [(0, .iload_n 0, 1), (1, .istore_n 2, 1), (2, .iconst 0, 1), (3, .istore_n 3, 1), (4, .iload_n 3, 1), (5, .getstatic 25, 3), (8, .arraylength, 1), (9, .if_icmp .ge 25, 3), (12, .iload_n 2, 1), (13, .ifCond .lt 21, 3), (16, .iload_n 2, 1), (17, .iload_n 1, 1), (18, .if_icmp .ne 5, 3), (21, .iconst 1, 1), (22, .ireturn, 1), (23, .iload_n 2, 1), (24, .invokestatic 28, 3), (27, .istore_n 2, 1), (28, .iinc 3 1, 3), (31, .goto (-27), 3), (34, .iconst 0, 1), (35, .ireturn, 1)]
theorem dcX4_isUnder_0 : tbX4_isUnder_0.all (fun q => decide (decode cX4_isUnder q.1 = .ok q.2)) = true := by decide +kernel
def tbX5_init_0 : List (Nat × Instr × Nat) := [(0, .aload_n 0, 1), (1, .invokespecial 1, 3), (4, .aload_n 0, 1), (5, .iconst 0, 1), (6, .iload_n 1, 1), (7, .invokestatic 7, 3), (10, .newarray .int, 2), (12, .putfield 13, 3), (15, .return_, 1)]
theorem dcX5_init_0 : tbX5_init_0.all (fun q => decide (decode cX5_init q.1 = .ok q.2)) = true := by decide +kernel
def tbX5_size_0 : List (Nat × Instr × Nat) := [(0, .aload_n 0, 1), (1, .getfield 19, 3), (4, .ireturn, 1)]
theorem dcX5_size_0 : tbX5_size_0.all (fun q => decide (decode cX5_size q.1 = .ok q.2)) = true := by decide +kernel
def tbX5_get_0 : List (Nat × Instr × Nat) := [(0, .iload_n 1, 1), (1, .ifCond .lt 29, 3), (4, .iload_n 1, 1), (5, .aload_n 0, 1), (6, .getfield 19, 3), (9, .if_icmp .ge 21, 3), (12, .iload_n 1, 1), (13, .aload_n 0, 1), (14, .getfield 13, 3), (17, .arraylength, 1), (18, .if_icmp .ge 12, 3), (21, .aload_n 0, 1), (22, .getfield 13, 3), (25, .iload_n 1, 1), (26, .iaload, 1), (27, .goto 4, 3), (30, .iconst (-1), 1), (31, .ireturn, 1)]
theorem dcX5_get_0 : tbX5_get_0.all (fun q => decide (decode cX5_get q.1 = .ok q.2)) = true := by decide +kernel
def tbX5_add_0 : List (Nat × Instr × Nat) := [(0, .aload_n 0, 1), (1, .getfield 19, 3), (4, .ifCond .lt 15, 3), (7, .aload_n 0, 1), (8, .getfield 19, 3), (11, .aload_n 0, 1), (12, .getfield 13, 3), (15, .arraylength, 1), (16, .if_icmp .lt 5, 3), (19, .iconst 0, 1), (20, .ireturn, 1), (21, .aload_n 0, 1), (22, .getfield 13, 3), (25, .aload_n 0, 1), (26, .getfield 19, 3), (29, .iload_n 1, 1), (30, .iastore, 1), (31, .aload_n 0, 1), (32, .dup, 1), (33, .getfield 19, 3), (36, .iconst 1, 1), (37, .iadd, 1), (38, .putfield 19, 3), (41, .iconst 1, 1), (42, .ireturn, 1)]
theorem dcX5_add_0 : tbX5_add_0.all (fun q => decide (decode cX5_add q.1 = .ok q.2)) = true := by decide +kernel
def tbX5_clear_0 : List (Nat × Instr × Nat) := [(0, .aload_n 0, 1), (1, .iconst 0, 1), (2, .putfield 19, 3), (5, .return_, 1)]
theorem dcX5_clear_0 : tbX5_clear_0.all (fun q => decide (decode cX5_clear q.1 = .ok q.2)) = true := by decide +kernel
def tbX5_placeOfLeast_0 : List (Nat × Instr × Nat) := [(0, .iconst (-1), 1), (1, .istore_n 1, 1), (2, .iconst 0, 1), (3, .istore_n 2, 1), (4, .iload_n 2, 1), (5, .aload_n 0, 1), (6, .getfield 19, 3), (9, .if_icmp .ge 28, 3), (12, .iload_n 1, 1), (13, .ifCond .lt 16, 3), (16, .aload_n 0, 1), (17, .iload_n 2, 1), (18, .invokevirtual 23, 3), (21, .aload_n 0, 1), (22, .iload_n 1, 1), (23, .invokevirtual 23, 3), (26, .if_icmp .ge 5, 3), (29, .iload_n 2, 1), (30, .istore_n 1, 1), (31, .iinc 2 1, 3), (34, .goto (-30), 3), (37, .iload_n 1, 1), (38, .ireturn, 1)]
theorem dcX5_placeOfLeast_0 : tbX5_placeOfLeast_0.all (fun q => decide (decode cX5_placeOfLeast q.1 = .ok q.2)) = true := by decide +kernel
def tbX5_become_0 : List (Nat × Instr × Nat) := [(0, .aload_n 0, 1), (1, .invokevirtual 27, 3), (4, .iconst 0, 1), (5, .istore_n 2, 1), (6, .iload_n 2, 1), (7, .aload_n 1, 1), (8, .invokevirtual 30, 3), (11, .if_icmp .ge 19, 3), (14, .aload_n 0, 1), (15, .aload_n 1, 1), (16, .iload_n 2, 1), (17, .invokevirtual 23, 3), (20, .invokevirtual 33, 3), (23, .pop, 1), (24, .iinc 2 1, 3), (27, .goto (-21), 3), (30, .return_, 1)]
theorem dcX5_become_0 : tbX5_become_0.all (fun q => decide (decode cX5_become q.1 = .ok q.2)) = true := by decide +kernel
def tbX6_init_0 : List (Nat × Instr × Nat) := [(0, .aload_n 0, 1), (1, .invokespecial 3, 3), (4, .aload_n 0, 1), (5, .bipush 60, 2), (7, .newarray .long, 2), (9, .putfield 9, 3), (12, .aload_n 0, 1), (13, .iconst (-1), 1), (14, .putfield 15, 3), (17, .return_, 1)]
theorem dcX6_init_0 : tbX6_init_0.all (fun q => decide (decode cX6_init q.1 = .ok q.2)) = true := by decide +kernel
def tbX6_sort_0 : List (Nat × Instr × Nat) := [(0, .aload_n 0, 1), (1, .getfield 15, 3), (4, .ireturn, 1)]
theorem dcX6_sort_0 : tbX6_sort_0.all (fun q => decide (decode cX6_sort q.1 = .ok q.2)) = true := by decide +kernel
def tbX6_holdsSomething_0 : List (Nat × Instr × Nat) := [(0, .aload_n 0, 1), (1, .getfield 15, 3), (4, .iconst (-1), 1), (5, .if_icmp .eq 7, 3), (8, .iconst 1, 1), (9, .goto 4, 3), (12, .iconst 0, 1), (13, .ireturn, 1)]
theorem dcX6_holdsSomething_0 : tbX6_holdsSomething_0.all (fun q => decide (decode cX6_holdsSomething q.1 = .ok q.2)) = true := by decide +kernel
def tbX6_renew_0 : List (Nat × Instr × Nat) := [(0, .aload_n 0, 1), (1, .iload_n 1, 1), (2, .putfield 15, 3), (5, .aload_n 0, 1), (6, .iconst 0, 1), (7, .bipush 60, 2), (9, .iload_n 2, 1), (10, .invokestatic 19, 3), (13, .invokestatic 25, 3), (16, .putfield 28, 3), (19, .aload_n 0, 1), (20, .getfield 9, 3), (23, .lconst 0, 1), (24, .invokestatic 31, 3), (27, .return_, 1)]
theorem dcX6_renew_0 : tbX6_renew_0.all (fun q => decide (decode cX6_renew q.1 = .ok q.2)) = true := by decide +kernel
def tbX6_has_0 : List (Nat × Instr × Nat) := [(0, .iload_n 1, 1), (1, .ifCond .lt 21, 3), (4, .iload_n 1, 1), (5, .aload_n 0, 1), (6, .getfield 28, 3), (9, .if_icmp .ge 13, 3), (12, .iload_n 1, 1), (13, .bipush 60, 2), (15, .if_icmp .ge 7, 3), (18, .iconst 1, 1), (19, .goto 4, 3), (22, .iconst 0, 1), (23, .ireturn, 1)]
theorem dcX6_has_0 : tbX6_has_0.all (fun q => decide (decode cX6_has q.1 = .ok q.2)) = true := by decide +kernel
def tbX6_spans_0 : List (Nat × Instr × Nat) := [(0, .iload_n 2, 1), (1, .ifCond .lt 29, 3), (4, .iload_n 1, 1), (5, .ifCond .lt 25, 3), (8, .iload_n 2, 1), (9, .aload_n 0, 1), (10, .getfield 28, 3), (13, .if_icmp .gt 17, 3), (16, .iload_n 1, 1), (17, .aload_n 0, 1), (18, .getfield 28, 3), (21, .iload_n 2, 1), (22, .isub, 1), (23, .if_icmp .gt 7, 3), (26, .iconst 1, 1), (27, .goto 4, 3), (30, .iconst 0, 1), (31, .ireturn, 1)]
theorem dcX6_spans_0 : tbX6_spans_0.all (fun q => decide (decode cX6_spans q.1 = .ok q.2)) = true := by decide +kernel
def tbX6_get_0 : List (Nat × Instr × Nat) := [(0, .aload_n 0, 1), (1, .iload_n 1, 1), (2, .invokevirtual 37, 3), (5, .ifCond .eq 12, 3), (8, .aload_n 0, 1), (9, .getfield 9, 3), (12, .iload_n 1, 1), (13, .laload, 1), (14, .goto 4, 3), (17, .lconst 0, 1), (18, .lreturn, 1)]
theorem dcX6_get_0 : tbX6_get_0.all (fun q => decide (decode cX6_get q.1 = .ok q.2)) = true := by decide +kernel
def tbX6_put_0 : List (Nat × Instr × Nat) := [(0, .aload_n 0, 1), (1, .iload_n 1, 1), (2, .invokevirtual 37, 3), (5, .ifCond .eq 14, 3), (8, .aload_n 0, 1), (9, .getfield 9, 3), (12, .iload_n 1, 1), (13, .aload_n 0, 1), (14, .lload_n 2, 1), (15, .invokevirtual 41, 3), (18, .lastore, 1), (19, .return_, 1)]
theorem dcX6_put_0 : tbX6_put_0.all (fun q => decide (decode cX6_put q.1 = .ok q.2)) = true := by decide +kernel
def tbX6_cut_0 : List (Nat × Instr × Nat) := [(0, .aload_n 0, 1), (1, .getfield 15, 3), (4, .tableswitch 62 0 4 #[36, 41, 46, 62, 50], 36), (40, .lload_n 1, 1), (41, .l2i, 1), (42, .i2b, 1), (43, .i2l, 1), (44, .lreturn, 1), (45, .lload_n 1, 1), (46, .l2i, 1), (47, .i2s, 1), (48, .i2l, 1), (49, .lreturn, 1), (50, .lload_n 1, 1), (51, .l2i, 1), (52, .i2l, 1), (53, .lreturn, 1), (54, .lload_n 1, 1), (55, .lconst 0, 1), (56, .lcmp, 1), (57, .ifCond .ne 7, 3), (60, .lconst 0, 1), (61, .goto 4, 3), (64, .lconst 1, 1), (65, .lreturn, 1), (66, .lload_n 1, 1), (67, .lreturn, 1)]
theorem dcX6_cut_0 : tbX6_cut_0.all (fun q => decide (decode cX6_cut q.1 = .ok q.2)) = true := by decide +kernel
def tbX6_copyIn_0 : List (Nat × Instr × Nat) := [(0, .aload_n 0, 1), (1, .iload_n 1, 1), (2, .iload 4, 2), (4, .invokevirtual 45, 3), (7, .ifCond .eq 28, 3), (10, .aload_n 2, 1), (11, .iload_n 3, 1), (12, .iload 4, 2), (14, .invokevirtual 45, 3), (17, .ifCond .eq 18, 3), (20, .aload_n 2, 1), (21, .getfield 9, 3), (24, .iload_n 3, 1), (25, .aload_n 0, 1), (26, .getfield 9, 3), (29, .iload_n 1, 1), (30, .iload 4, 2), (32, .invokestatic 49, 3), (35, .return_, 1)]
theorem dcX6_copyIn_0 : tbX6_copyIn_0.all (fun q => decide (decode cX6_copyIn q.1 = .ok q.2)) = true := by decide +kernel
def tbX7_init_0 : List (Nat × Instr × Nat) := [(0, .aload_n 0, 1), (1, .invokespecial 3, 3), (4, .aload_n 0, 1), (5, .new 9, 3), (8, .dup, 1), (9, .bipush 100, 2), (11, .invokespecial 11, 3), (14, .putfield 14, 3), (17, .return_, 1)]
theorem dcX7_init_0 : tbX7_init_0.all (fun q => decide (decode cX7_init q.1 = .ok q.2)) = true := by decide +kernel
def tbX7_size_0 : List (Nat × Instr × Nat) := [(0, .aload_n 0, 1), (1, .getfield 14, 3), (4, .invokevirtual 20, 3), (7, .ireturn, 1)]
theorem dcX7_size_0 : tbX7_size_0.all (fun q => decide (decode cX7_size q.1 = .ok q.2)) = true := by decide +kernel
def tbX7_add_0 : List (Nat × Instr × Nat) := [(0, .aload_n 0, 1), (1, .getfield 14, 3), (4, .iload_n 1, 1), (5, .invokevirtual 24, 3), (8, .ireturn, 1)]
theorem dcX7_add_0 : tbX7_add_0.all (fun q => decide (decode cX7_add q.1 = .ok q.2)) = true := by decide +kernel
def tbX7_clear_0 : List (Nat × Instr × Nat) := [(0, .aload_n 0, 1), (1, .getfield 14, 3), (4, .invokevirtual 28, 3), (7, .return_, 1)]
theorem dcX7_clear_0 : tbX7_clear_0.all (fun q => decide (decode cX7_clear q.1 = .ok q.2)) = true := by decide +kernel
def tbX7_readLaw_0 : List (Nat × Instr × Nat) := [(0, .aload_n 0, 1), (1, .iconst 0, 1), (2, .putfield 31, 3), (5, .aload_n 1, 1), (6, .invokevirtual 35, 3), (9, .iconst 1, 1), (10, .istore_n 2, 1), (11, .iload_n 2, 1), (12, .bipush 10, 2), (14, .if_icmp .gt 100, 3), (17, .aload_n 0, 1), (18, .aload_n 1, 1), (19, .invokevirtual 38, 3), (22, .istore_n 3, 1), (23, .iload_n 3, 1), (24, .ifCond .ge 8, 3), (27, .aload_n 0, 1), (28, .getfield 31, 3), (31, .ireturn, 1), (32, .iload_n 3, 1), (33, .iconst 2, 1), (34, .if_icmp .gt 7, 3), (37, .iconst 1, 1), (38, .goto 4, 3), (41, .iconst 0, 1), (42, .istore 4, 2), (44, .iload 4, 2), (46, .ifCond .eq 26, 3), (49, .aload_n 0, 1), (50, .bipush 32, 2), (52, .invokevirtual 42, 3), (55, .ifCond .eq 12, 3), (58, .aload_n 0, 1), (59, .aload_n 1, 1), (60, .iconst 0, 1), (61, .invokevirtual 46, 3), (64, .ifCond .ne 8, 3), (67, .aload_n 0, 1), (68, .getfield 31, 3), (71, .ireturn, 1), (72, .aload_n 0, 1), (73, .getfield 31, 3), (76, .aload_n 0, 1), (77, .getfield 14, 3), (80, .invokevirtual 20, 3), (83, .if_icmp .ne 5, 3), (86, .iconst (-1), 1), (87, .ireturn, 1)]
theorem dcX7_readLaw_0 : tbX7_readLaw_0.all (fun q => decide (decode cX7_readLaw q.1 = .ok q.2)) = true := by decide +kernel
def tbX7_readLaw_1 : List (Nat × Instr × Nat) := [(88, .iload_n 2, 1), (89, .bipush 10, 2), (91, .if_icmp .eq 12, 3), (94, .aload_n 0, 1), (95, .bipush 59, 2), (97, .invokevirtual 42, 3), (100, .ifCond .ne 8, 3), (103, .aload_n 0, 1), (104, .getfield 31, 3), (107, .ireturn, 1), (108, .iinc 2 1, 3), (111, .goto (-100), 3), (114, .aload_n 0, 1), (115, .getfield 31, 3), (118, .ireturn, 1)]
theorem dcX7_readLaw_1 : tbX7_readLaw_1.all (fun q => decide (decode cX7_readLaw q.1 = .ok q.2)) = true := by decide +kernel
def tbX7_next_0 : List (Nat × Instr × Nat) := [(0, .aload_n 0, 1), (1, .getfield 14, 3), (4, .aload_n 0, 1), (5, .getfield 31, 3), (8, .invokevirtual 50, 3), (11, .iload_n 1, 1), (12, .if_icmp .eq 5, 3), (15, .iconst 0, 1), (16, .ireturn, 1), (17, .aload_n 0, 1), (18, .dup, 1), (19, .getfield 31, 3), (22, .iconst 1, 1), (23, .iadd, 1), (24, .putfield 31, 3), (27, .iconst 1, 1), (28, .ireturn, 1)]
theorem dcX7_next_0 : tbX7_next_0.all (fun q => decide (decode cX7_next q.1 = .ok q.2)) = true := by decide +kernel
def tbX7_readHead_0 : List (Nat × Instr × Nat) := [(0, .aload_n 0, 1), (1, .invokevirtual 54, 3), (4, .istore_n 2, 1), (5, .iload_n 2, 1), (6, .ifCond .lt 12, 3), (9, .aload_n 0, 1), (10, .bipush 32, 2), (12, .invokevirtual 42, 3), (15, .ifCond .ne 5, 3), (18, .iconst (-1), 1), (19, .ireturn, 1), (20, .aload_n 0, 1), (21, .invokevirtual 57, 3), (24, .istore_n 3, 1), (25, .iload_n 3, 1), (26, .ifCond .ge 5, 3), (29, .iconst (-1), 1), (30, .ireturn, 1), (31, .aload_n 1, 1), (32, .iload_n 2, 1), (33, .iload_n 3, 1), (34, .invokevirtual 60, 3), (37, .iload_n 2, 1), (38, .ireturn, 1)]
theorem dcX7_readHead_0 : tbX7_readHead_0.all (fun q => decide (decode cX7_readHead q.1 = .ok q.2)) = true := by decide +kernel
def tbX7_readWord_0 : List (Nat × Instr × Nat) := [(0, .iconst 0, 1), (1, .istore_n 1, 1), (2, .iconst 0, 1), (3, .istore_n 2, 1), (4, .iload_n 2, 1), (5, .bipush 6, 2), (7, .if_icmp .gt 84, 3), (10, .iload_n 2, 1), (11, .invokestatic 64, 3), (14, .astore_n 3, 1), (15, .iconst 0, 1), (16, .istore 4, 2), (18, .iload 4, 2), (20, .aload_n 3, 1), (21, .invokevirtual 68, 3), (24, .if_icmp .ge 32, 3), (27, .aload_n 0, 1), (28, .getfield 14, 3), (31, .aload_n 0, 1), (32, .getfield 31, 3), (35, .iload 4, 2), (37, .iadd, 1), (38, .invokevirtual 50, 3), (41, .aload_n 3, 1), (42, .iload 4, 2), (44, .invokevirtual 73, 3), (47, .if_icmp .ne 9, 3), (50, .iinc 4 1, 3), (53, .goto (-35), 3), (56, .iload 4, 2), (58, .aload_n 3, 1), (59, .invokevirtual 68, 3), (62, .if_icmp .ne 16, 3), (65, .aload_n 0, 1), (66, .dup, 1), (67, .getfield 31, 3), (70, .iload 4, 2), (72, .iadd, 1), (73, .putfield 31, 3), (76, .iload_n 2, 1), (77, .ireturn, 1), (78, .iload_n 1, 1), (79, .iload 4, 2), (81, .invokestatic 77, 3), (84, .istore_n 1, 1), (85, .iinc 2 1, 3), (88, .goto (-84), 3), (91, .aload_n 0, 1)]
theorem dcX7_readWord_0 : tbX7_readWord_0.all (fun q => decide (decode cX7_readWord q.1 = .ok q.2)) = true := by decide +kernel
def tbX7_readWord_1 : List (Nat × Instr × Nat) := [(92, .dup, 1), (93, .getfield 31, 3), (96, .iload_n 1, 1), (97, .iadd, 1), (98, .putfield 31, 3), (101, .iconst (-1), 1), (102, .ireturn, 1)]
theorem dcX7_readWord_1 : tbX7_readWord_1.all (fun q => decide (decode cX7_readWord q.1 = .ok q.2)) = true := by decide +kernel
def tbX7_wordOf_0 : List (Nat × Instr × Nat) := [(0, .iload_n 0, 1), (1, .tableswitch 57 0 5 #[39, 42, 45, 48, 51, 54], 39), (40, .ldc 83, 2), (42, .areturn, 1), (43, .ldc 85, 2), (45, .areturn, 1), (46, .ldc 87, 2), (48, .areturn, 1), (49, .ldc 89, 2), (51, .areturn, 1), (52, .ldc 91, 2), (54, .areturn, 1), (55, .ldc 93, 2), (57, .areturn, 1), (58, .ldc 95, 2), (60, .areturn, 1)]
theorem dcX7_wordOf_0 : tbX7_wordOf_0.all (fun q => decide (decode cX7_wordOf q.1 = .ok q.2)) = true := by decide +kernel
def tbX7_readNumber_0 : List (Nat × Instr × Nat) := [(0, .iconst (-1), 1), (1, .istore_n 1, 1), (2, .iconst 0, 1), (3, .istore_n 2, 1), (4, .iload_n 2, 1), (5, .iconst 2, 1), (6, .if_icmp .ge 61, 3), (9, .aload_n 0, 1), (10, .getfield 14, 3), (13, .aload_n 0, 1), (14, .getfield 31, 3), (17, .invokevirtual 50, 3), (20, .bipush 48, 2), (22, .isub, 1), (23, .istore_n 3, 1), (24, .iload_n 3, 1), (25, .ifCond .lt 9, 3), (28, .iload_n 3, 1), (29, .bipush 9, 2), (31, .if_icmp .le 5, 3), (34, .iload_n 1, 1), (35, .ireturn, 1), (36, .iload_n 2, 1), (37, .ifCond .ne 7, 3), (40, .iload_n 3, 1), (41, .goto 9, 3), (44, .iload_n 1, 1), (45, .bipush 10, 2), (47, .imul, 1), (48, .iload_n 3, 1), (49, .iadd, 1), (50, .istore_n 1, 1), (51, .aload_n 0, 1), (52, .dup, 1), (53, .getfield 31, 3), (56, .iconst 1, 1), (57, .iadd, 1), (58, .putfield 31, 3), (61, .iinc 2 1, 3), (64, .goto (-60), 3), (67, .iload_n 1, 1), (68, .ireturn, 1)]
theorem dcX7_readNumber_0 : tbX7_readNumber_0.all (fun q => decide (decode cX7_readNumber q.1 = .ok q.2)) = true := by decide +kernel
def tbX7_readEither_0 : List (Nat × Instr × Nat) := [(0, .iconst 0, 1), (1, .istore_n 3, 1), (2, .iconst 0, 1), (3, .istore 4, 2), (5, .iload 4, 2), (7, .bipush 100, 2), (9, .if_icmp .ge 50, 3), (12, .iload_n 3, 1), (13, .ifCond .ne 46, 3), (16, .aload_n 0, 1), (17, .aload_n 1, 1), (18, .iload_n 2, 1), (19, .invokevirtual 97, 3), (22, .ifCond .ne 5, 3), (25, .iconst 0, 1), (26, .ireturn, 1), (27, .iload 4, 2), (29, .ifCond .le 9, 3), (32, .aload_n 1, 1), (33, .bipush (-3), 2), (35, .invokevirtual 100, 3), (38, .aload_n 0, 1), (39, .bipush 124, 2), (41, .invokevirtual 42, 3), (44, .ifCond .ne 7, 3), (47, .iconst 1, 1), (48, .goto 4, 3), (51, .iconst 0, 1), (52, .istore_n 3, 1), (53, .iinc 4 1, 3), (56, .goto (-51), 3), (59, .iload_n 3, 1), (60, .ireturn, 1)]
theorem dcX7_readEither_0 : tbX7_readEither_0.all (fun q => decide (decode cX7_readEither q.1 = .ok q.2)) = true := by decide +kernel
def tbX7_readBoth_0 : List (Nat × Instr × Nat) := [(0, .iconst 0, 1), (1, .istore_n 3, 1), (2, .iconst 0, 1), (3, .istore 4, 2), (5, .iload 4, 2), (7, .bipush 100, 2), (9, .if_icmp .ge 50, 3), (12, .iload_n 3, 1), (13, .ifCond .ne 46, 3), (16, .aload_n 0, 1), (17, .aload_n 1, 1), (18, .iload_n 2, 1), (19, .invokevirtual 103, 3), (22, .ifCond .ne 5, 3), (25, .iconst 0, 1), (26, .ireturn, 1), (27, .iload 4, 2), (29, .ifCond .le 9, 3), (32, .aload_n 1, 1), (33, .bipush (-2), 2), (35, .invokevirtual 100, 3), (38, .aload_n 0, 1), (39, .bipush 38, 2), (41, .invokevirtual 42, 3), (44, .ifCond .ne 7, 3), (47, .iconst 1, 1), (48, .goto 4, 3), (51, .iconst 0, 1), (52, .istore_n 3, 1), (53, .iinc 4 1, 3), (56, .goto (-51), 3), (59, .iload_n 3, 1), (60, .ireturn, 1)]
theorem dcX7_readBoth_0 : tbX7_readBoth_0.all (fun q => decide (decode cX7_readBoth q.1 = .ok q.2)) = true := by decide +kernel
def tbX7_readSingle_0 : List (Nat × Instr × Nat) := [(0, .iconst 0, 1), (1, .istore_n 3, 1), (2, .iload_n 2, 1), (3, .iload_n 3, 1), (4, .iadd, 1), (5, .iconst 4, 1), (6, .if_icmp .ge 18, 3), (9, .aload_n 0, 1), (10, .bipush 33, 2), (12, .invokevirtual 42, 3), (15, .ifCond .eq 9, 3), (18, .iinc 3 1, 3), (21, .goto (-19), 3), (24, .iload_n 2, 1), (25, .iload_n 3, 1), (26, .iadd, 1), (27, .iconst 4, 1), (28, .if_icmp .ge 16, 3), (31, .aload_n 0, 1), (32, .bipush 40, 2), (34, .invokevirtual 42, 3), (37, .ifCond .eq 7, 3), (40, .iconst 1, 1), (41, .goto 4, 3), (44, .iconst 0, 1), (45, .istore 4, 2), (47, .iload 4, 2), (49, .ifCond .eq 33, 3), (52, .aload_n 0, 1), (53, .aload_n 1, 1), (54, .iload_n 2, 1), (55, .iload_n 3, 1), (56, .iadd, 1), (57, .iconst 1, 1), (58, .iadd, 1), (59, .invokevirtual 46, 3), (62, .ifCond .eq 16, 3), (65, .aload_n 0, 1), (66, .bipush 41, 2), (68, .invokevirtual 42, 3), (71, .ifCond .eq 7, 3), (74, .iconst 1, 1), (75, .goto 12, 3), (78, .iconst 0, 1), (79, .goto 8, 3), (82, .aload_n 0, 1), (83, .aload_n 1, 1), (84, .invokevirtual 106, 3)]
theorem dcX7_readSingle_0 : tbX7_readSingle_0.all (fun q => decide (decode cX7_readSingle q.1 = .ok q.2)) = true := by decide +kernel
def tbX7_readSingle_1 : List (Nat × Instr × Nat) := [(87, .istore 5, 2), (89, .iconst 0, 1), (90, .istore 6, 2), (92, .iload 6, 2), (94, .iload_n 3, 1), (95, .if_icmp .ge 19, 3), (98, .iload 5, 2), (100, .ifCond .eq 14, 3), (103, .aload_n 1, 1), (104, .iconst (-1), 1), (105, .invokevirtual 100, 3), (108, .iinc 6 1, 3), (111, .goto (-19), 3), (114, .iload 5, 2), (116, .ireturn, 1)]
theorem dcX7_readSingle_1 : tbX7_readSingle_1.all (fun q => decide (decode cX7_readSingle q.1 = .ok q.2)) = true := by decide +kernel
def tbX7_readTest_0 : List (Nat × Instr × Nat) := [(0, .aload_n 0, 1), (1, .ldc 110, 2), (3, .invokevirtual 112, 3), (6, .istore_n 2, 1), (7, .iload_n 2, 1), (8, .ifCond .ge 5, 3), (11, .iconst 0, 1), (12, .ireturn, 1), (13, .aload_n 0, 1), (14, .dup, 1), (15, .getfield 31, 3), (18, .iconst 1, 1), (19, .iadd, 1), (20, .putfield 31, 3), (23, .aload_n 0, 1), (24, .ldc 116, 2), (26, .invokevirtual 112, 3), (29, .istore_n 3, 1), (30, .iload_n 3, 1), (31, .ifCond .ge 5, 3), (34, .iconst 0, 1), (35, .ireturn, 1), (36, .aload_n 0, 1), (37, .dup, 1), (38, .getfield 31, 3), (41, .iconst 1, 1), (42, .iadd, 1), (43, .putfield 31, 3), (46, .aload_n 0, 1), (47, .invokevirtual 57, 3), (50, .istore 4, 2), (52, .iload 4, 2), (54, .ifCond .ge 5, 3), (57, .iconst 0, 1), (58, .ireturn, 1), (59, .aload_n 1, 1), (60, .iload_n 2, 1), (61, .iload_n 3, 1), (62, .iload 4, 2), (64, .invokestatic 118, 3), (67, .invokevirtual 100, 3), (70, .iconst 1, 1), (71, .ireturn, 1)]
theorem dcX7_readTest_0 : tbX7_readTest_0.all (fun q => decide (decode cX7_readTest q.1 = .ok q.2)) = true := by decide +kernel
def tbX7_placeIn_0 : List (Nat × Instr × Nat) := [(0, .aload_n 0, 1), (1, .getfield 14, 3), (4, .aload_n 0, 1), (5, .getfield 31, 3), (8, .invokevirtual 50, 3), (11, .istore_n 2, 1), (12, .iload_n 2, 1), (13, .ifCond .ge 7, 3), (16, .iconst (-1), 1), (17, .goto 9, 3), (20, .aload_n 1, 1), (21, .iload_n 2, 1), (22, .i2c, 1), (23, .invokevirtual 122, 3), (26, .ireturn, 1)]
theorem dcX7_placeIn_0 : tbX7_placeIn_0.all (fun q => decide (decode cX7_placeIn q.1 = .ok q.2)) = true := by decide +kernel
def tbX8_init_0 : List (Nat × Instr × Nat) := [(0, .aload_n 0, 1), (1, .invokespecial 3, 3), (4, .aload_n 0, 1), (5, .bipush 7, 2), (7, .anewarray 9, 3), (10, .putfield 11, 3), (13, .aload_n 0, 1), (14, .new 9, 3), (17, .dup, 1), (18, .invokespecial 17, 3), (21, .putfield 18, 3), (24, .aload_n 0, 1), (25, .iconst 4, 1), (26, .newarray .int, 2), (28, .putfield 22, 3), (31, .aload_n 0, 1), (32, .iconst 4, 1), (33, .newarray .int, 2), (35, .putfield 26, 3), (38, .aload_n 0, 1), (39, .aload_n 1, 1), (40, .putfield 29, 3), (43, .aload_n 0, 1), (44, .aload_n 2, 1), (45, .putfield 33, 3), (48, .iconst 0, 1), (49, .istore_n 3, 1), (50, .iload_n 3, 1), (51, .aload_n 0, 1), (52, .getfield 11, 3), (55, .arraylength, 1), (56, .if_icmp .ge 22, 3), (59, .aload_n 0, 1), (60, .getfield 11, 3), (63, .iload_n 3, 1), (64, .new 9, 3), (67, .dup, 1), (68, .invokespecial 17, 3), (71, .aastore, 1), (72, .iinc 3 1, 3), (75, .goto (-25), 3), (78, .return_, 1)]
theorem dcX8_init_0 : tbX8_init_0.all (fun q => decide (decode cX8_init q.1 = .ok q.2)) = true := by decide +kernel
def tbX8_stage_0 : List (Nat × Instr × Nat) := [(0, .iload_n 1, 1), (1, .ifCond .lt 21, 3), (4, .iload_n 1, 1), (5, .aload_n 0, 1), (6, .getfield 11, 3), (9, .arraylength, 1), (10, .if_icmp .ge 12, 3), (13, .aload_n 0, 1), (14, .getfield 11, 3), (17, .iload_n 1, 1), (18, .aaload, 1), (19, .goto 7, 3), (22, .aload_n 0, 1), (23, .getfield 18, 3), (26, .astore_n 2, 1), (27, .aload_n 2, 1), (28, .ifnonnull 10, 3), (31, .aload_n 0, 1), (32, .getfield 18, 3), (35, .goto 4, 3), (38, .aload_n 2, 1), (39, .areturn, 1)]
theorem dcX8_stage_0 : tbX8_stage_0.all (fun q => decide (decode cX8_stage q.1 = .ok q.2)) = true := by decide +kernel
def tbX8_stageAfter_0 : List (Nat × Instr × Nat) := [(0, .aload_n 0, 1), (1, .iload_n 1, 1), (2, .iconst 1, 1), (3, .iadd, 1), (4, .invokevirtual 37, 3), (7, .astore_n 2, 1), (8, .aload_n 2, 1), (9, .aload_n 0, 1), (10, .iload_n 1, 1), (11, .invokevirtual 37, 3), (14, .invokevirtual 41, 3), (17, .aload_n 2, 1), (18, .areturn, 1)]
theorem dcX8_stageAfter_0 : tbX8_stageAfter_0.all (fun q => decide (decode cX8_stageAfter q.1 = .ok q.2)) = true := by decide +kernel
def tbX8_begin_0 : List (Nat × Instr × Nat) := [(0, .aload_n 0, 1), (1, .iconst 0, 1), (2, .invokevirtual 37, 3), (5, .astore_n 1, 1), (6, .aload_n 1, 1), (7, .aload_n 0, 1), (8, .getfield 33, 3), (11, .getfield 45, 3), (14, .invokevirtual 41, 3), (17, .aload_n 0, 1), (18, .aload_n 1, 1), (19, .bipush 12, 2), (21, .invokevirtual 50, 3), (24, .iconst 1, 1), (25, .iadd, 1), (26, .putfield 54, 3), (29, .aload_n 1, 1), (30, .areturn, 1)]
theorem dcX8_begin_0 : tbX8_begin_0.all (fun q => decide (decode cX8_begin q.1 = .ok q.2)) = true := by decide +kernel
def tbX8_byHand_0 : List (Nat × Instr × Nat) := [(0, .aload_n 0, 1), (1, .invokevirtual 58, 3), (4, .astore_n 2, 1), (5, .aload_n 0, 1), (6, .aload_n 2, 1), (7, .iload_n 1, 1), (8, .invokevirtual 62, 3), (11, .aload_n 2, 1), (12, .areturn, 1)]
theorem dcX8_byHand_0 : tbX8_byHand_0.all (fun q => decide (decode cX8_byHand q.1 = .ok q.2)) = true := by decide +kernel
def tbX8_doRow_0 : List (Nat × Instr × Nat) := [(0, .iconst 0, 1), (1, .istore_n 3, 1), (2, .iload_n 3, 1), (3, .iload_n 2, 1), (4, .if_icmp .ge 44, 3), (7, .iload_n 3, 1), (8, .aload_n 0, 1), (9, .getfield 33, 3), (12, .getfield 66, 3), (15, .invokevirtual 70, 3), (18, .if_icmp .ge 30, 3), (21, .aload_n 0, 1), (22, .getfield 29, 3), (25, .aload_n 1, 1), (26, .aload_n 0, 1), (27, .getfield 33, 3), (30, .getfield 66, 3), (33, .iload_n 3, 1), (34, .invokevirtual 76, 3), (37, .iconst 0, 1), (38, .invokevirtual 77, 3), (41, .pop, 1), (42, .iinc 3 1, 3), (45, .goto (-43), 3), (48, .return_, 1)]
theorem dcX8_doRow_0 : tbX8_doRow_0.all (fun q => decide (decode cX8_doRow q.1 = .ok q.2)) = true := by decide +kernel
def tbX8_afterDays_0 : List (Nat × Instr × Nat) := [(0, .aload_n 0, 1), (1, .invokevirtual 58, 3), (4, .astore_n 2, 1), (5, .iconst 0, 1), (6, .istore_n 3, 1), (7, .iload_n 3, 1), (8, .iload_n 1, 1), (9, .if_icmp .ge 43, 3), (12, .iload_n 3, 1), (13, .bipush 99, 2), (15, .if_icmp .ge 37, 3), (18, .aload_n 2, 1), (19, .bipush 12, 2), (21, .iconst 0, 1), (22, .invokevirtual 83, 3), (25, .aload_n 2, 1), (26, .bipush 9, 2), (28, .iconst 0, 1), (29, .invokevirtual 83, 3), (32, .aload_n 2, 1), (33, .bipush 13, 2), (35, .iconst 0, 1), (36, .invokevirtual 83, 3), (39, .aload_n 0, 1), (40, .aload_n 2, 1), (41, .bipush 12, 2), (43, .invokevirtual 62, 3), (46, .iinc 3 1, 3), (49, .goto (-42), 3), (52, .aload_n 2, 1), (53, .areturn, 1)]
theorem dcX8_afterDays_0 : tbX8_afterDays_0.all (fun q => decide (decode cX8_afterDays q.1 = .ok q.2)) = true := by decide +kernel
def tbX8_waiting_0 : List (Nat × Instr × Nat) := [(0, .aload_n 0, 1), (1, .invokevirtual 58, 3), (4, .astore_n 1, 1), (5, .iconst 1, 1), (6, .istore_n 2, 1), (7, .iload_n 2, 1), (8, .bipush 60, 2), (10, .if_icmp .gt 35, 3), (13, .aload_n 0, 1), (14, .getfield 29, 3), (17, .aload_n 1, 1), (18, .iconst 0, 1), (19, .iconst 0, 1), (20, .invokevirtual 77, 3), (23, .pop, 1), (24, .aload_n 1, 1), (25, .bipush 12, 2), (27, .invokevirtual 50, 3), (30, .aload_n 0, 1), (31, .getfield 54, 3), (34, .if_icmp .ne 5, 3), (37, .iload_n 2, 1), (38, .ireturn, 1), (39, .iinc 2 1, 3), (42, .goto (-35), 3), (45, .bipush (-5), 2), (47, .ireturn, 1)]
theorem dcX8_waiting_0 : tbX8_waiting_0.all (fun q => decide (decode cX8_waiting q.1 = .ok q.2)) = true := by decide +kernel
def tbX8_bestShift_0 : List (Nat × Instr × Nat) := [(0, .aload_n 0, 1), (1, .iconst 0, 1), (2, .invokevirtual 87, 3), (5, .istore_n 1, 1), (6, .iconst 0, 1), (7, .istore_n 2, 1), (8, .iconst 1, 1), (9, .istore_n 3, 1), (10, .iload_n 3, 1), (11, .bipush 99, 2), (13, .if_icmp .gt 53, 3), (16, .iconst 1, 1), (17, .istore 4, 2), (19, .iload 4, 2), (21, .iconst (-1), 1), (22, .if_icmp .lt 38, 3), (25, .aload_n 0, 1), (26, .iload_n 3, 1), (27, .iload 4, 2), (29, .imul, 1), (30, .invokevirtual 87, 3), (33, .istore 5, 2), (35, .iload 5, 2), (37, .ifCond .lt 17, 3), (40, .iload 5, 2), (42, .iload_n 1, 1), (43, .if_icmp .ge 11, 3), (46, .iload 5, 2), (48, .istore_n 1, 1), (49, .iload_n 3, 1), (50, .iload 4, 2), (52, .imul, 1), (53, .istore_n 2, 1), (54, .iinc 4 (-2), 3), (57, .goto (-38), 3), (60, .iinc 3 1, 3), (63, .goto (-53), 3), (66, .iload_n 2, 1), (67, .ireturn, 1)]
theorem dcX8_bestShift_0 : tbX8_bestShift_0.all (fun q => decide (decode cX8_bestShift q.1 = .ok q.2)) = true := by decide +kernel
def tbX8_hurtWith_0 : List (Nat × Instr × Nat) := [(0, .aload_n 0, 1), (1, .invokevirtual 58, 3), (4, .astore_n 2, 1), (5, .aload_n 2, 1), (6, .bipush 10, 2), (8, .invokevirtual 50, 3), (11, .iload_n 1, 1), (12, .isub, 1), (13, .istore_n 3, 1), (14, .aload_n 2, 1), (15, .bipush 11, 2), (17, .invokevirtual 50, 3), (20, .iload_n 1, 1), (21, .iadd, 1), (22, .istore 4, 2), (24, .iload_n 3, 1), (25, .ifCond .lt 21, 3), (28, .iload_n 3, 1), (29, .bipush 99, 2), (31, .if_icmp .gt 15, 3), (34, .iload 4, 2), (36, .ifCond .lt 10, 3), (39, .iload 4, 2), (41, .bipush 99, 2), (43, .if_icmp .le 5, 3), (46, .iconst (-1), 1), (47, .ireturn, 1), (48, .aload_n 2, 1), (49, .bipush 10, 2), (51, .iload_n 3, 1), (52, .invokevirtual 83, 3), (55, .aload_n 2, 1), (56, .bipush 11, 2), (58, .iload 4, 2), (60, .invokevirtual 83, 3), (63, .aload_n 0, 1), (64, .getfield 29, 3), (67, .aload_n 2, 1), (68, .iconst 2, 1), (69, .invokevirtual 90, 3), (72, .ireturn, 1)]
theorem dcX8_hurtWith_0 : tbX8_hurtWith_0.all (fun q => decide (decode cX8_hurtWith q.1 = .ok q.2)) = true := by decide +kernel
def tbX8_firstOtherwise_0 : List (Nat × Instr × Nat) := [(0, .aload_n 0, 1), (1, .invokevirtual 58, 3), (4, .astore_n 1, 1), (5, .iconst 0, 1), (6, .istore_n 2, 1), (7, .iload_n 2, 1), (8, .aload_n 0, 1), (9, .getfield 33, 3), (12, .getfield 66, 3), (15, .invokevirtual 70, 3), (18, .if_icmp .ge 59, 3), (21, .iload_n 2, 1), (22, .aload_n 0, 1), (23, .getfield 33, 3), (26, .getfield 94, 3), (29, .invokevirtual 70, 3), (32, .if_icmp .ge 45, 3), (35, .aload_n 0, 1), (36, .getfield 29, 3), (39, .aload_n 1, 1), (40, .aload_n 0, 1), (41, .getfield 33, 3), (44, .getfield 66, 3), (47, .iload_n 2, 1), (48, .invokevirtual 76, 3), (51, .iconst 0, 1), (52, .invokevirtual 77, 3), (55, .aload_n 0, 1), (56, .getfield 33, 3), (59, .getfield 94, 3), (62, .iload_n 2, 1), (63, .invokevirtual 76, 3), (66, .if_icmp .eq 5, 3), (69, .iload_n 2, 1), (70, .ireturn, 1), (71, .iinc 2 1, 3), (74, .goto (-67), 3), (77, .bipush (-5), 2), (79, .ireturn, 1)]
theorem dcX8_firstOtherwise_0 : tbX8_firstOtherwise_0.all (fun q => decide (decode cX8_firstOtherwise q.1 = .ok q.2)) = true := by decide +kernel
def tbX8_firstMistold_0 : List (Nat × Instr × Nat) := [(0, .aload_n 0, 1), (1, .invokevirtual 58, 3), (4, .astore_n 3, 1), (5, .iconst 0, 1), (6, .istore 4, 2), (8, .iload 4, 2), (10, .aload_n 0, 1), (11, .getfield 33, 3), (14, .getfield 66, 3), (17, .invokevirtual 70, 3), (20, .if_icmp .ge 80, 3), (23, .iload_n 2, 1), (24, .ifCond .lt 20, 3), (27, .iload_n 2, 1), (28, .bipush 60, 2), (30, .if_icmp .gt 14, 3), (33, .aload_n 1, 1), (34, .iload_n 2, 1), (35, .iload 4, 2), (37, .iadd, 1), (38, .invokevirtual 97, 3), (41, .ifCond .ne 9, 3), (44, .bipush 100, 2), (46, .iload 4, 2), (48, .iadd, 1), (49, .ireturn, 1), (50, .aload_n 0, 1), (51, .getfield 29, 3), (54, .aload_n 3, 1), (55, .aload_n 0, 1), (56, .getfield 33, 3), (59, .getfield 66, 3), (62, .iload 4, 2), (64, .invokevirtual 76, 3), (67, .iconst 0, 1), (68, .invokevirtual 77, 3), (71, .pop, 1), (72, .aload_n 1, 1), (73, .iload_n 2, 1), (74, .iload 4, 2), (76, .iadd, 1), (77, .invokevirtual 103, 3), (80, .aload_n 3, 1), (81, .bipush 12, 2), (83, .invokevirtual 50, 3), (86, .i2l, 1), (87, .lcmp, 1), (88, .ifCond .eq 6, 3)]
theorem dcX8_firstMistold_0 : tbX8_firstMistold_0.all (fun q => decide (decode cX8_firstMistold q.1 = .ok q.2)) = true := by decide +kernel
def tbX8_firstMistold_1 : List (Nat × Instr × Nat) := [(91, .iload 4, 2), (93, .ireturn, 1), (94, .iinc 4 1, 3), (97, .goto (-89), 3), (100, .bipush (-5), 2), (102, .ireturn, 1)]
theorem dcX8_firstMistold_1 : tbX8_firstMistold_1.all (fun q => decide (decode cX8_firstMistold q.1 = .ok q.2)) = true := by decide +kernel
def tbX8_findSoonest_0 : List (Nat × Instr × Nat) := [(0, .aload_n 0, 1), (1, .invokevirtual 58, 3), (4, .pop, 1), (5, .aload_n 0, 1), (6, .iload_n 1, 1), (7, .iconst 1, 1), (8, .iadd, 1), (9, .putfield 106, 3), (12, .aload_n 0, 1), (13, .iconst 0, 1), (14, .invokevirtual 109, 3), (17, .aload_n 0, 1), (18, .getfield 106, 3), (21, .iload_n 1, 1), (22, .if_icmp .le 9, 3), (25, .aload_n 0, 1), (26, .bipush (-5), 2), (28, .putfield 106, 3), (31, .aload_n 0, 1), (32, .getfield 106, 3), (35, .ireturn, 1)]
theorem dcX8_findSoonest_0 : tbX8_findSoonest_0.all (fun q => decide (decode cX8_findSoonest q.1 = .ok q.2)) = true := by decide +kernel
def tbX8_findGentlest_0 : List (Nat × Instr × Nat) := [(0, .aload_n 0, 1), (1, .invokevirtual 58, 3), (4, .pop, 1), (5, .aload_n 0, 1), (6, .bipush (-5), 2), (8, .putfield 106, 3), (11, .aload_n 0, 1), (12, .iconst 0, 1), (13, .iload_n 1, 1), (14, .invokevirtual 113, 3), (17, .aload_n 0, 1), (18, .getfield 106, 3), (21, .bipush (-5), 2), (23, .if_icmp .ne 8, 3), (26, .bipush (-5), 2), (28, .goto 7, 3), (31, .aload_n 0, 1), (32, .getfield 116, 3), (35, .ireturn, 1)]
theorem dcX8_findGentlest_0 : tbX8_findGentlest_0.all (fun q => decide (decode cX8_findGentlest q.1 = .ok q.2)) = true := by decide +kernel
def tbX8_found_0 : List (Nat × Instr × Nat) := [(0, .iload_n 1, 1), (1, .ifCond .lt 29, 3), (4, .iload_n 1, 1), (5, .aload_n 0, 1), (6, .getfield 106, 3), (9, .if_icmp .ge 21, 3), (12, .iload_n 1, 1), (13, .aload_n 0, 1), (14, .getfield 26, 3), (17, .arraylength, 1), (18, .if_icmp .ge 12, 3), (21, .aload_n 0, 1), (22, .getfield 26, 3), (25, .iload_n 1, 1), (26, .iaload, 1), (27, .goto 5, 3), (30, .bipush (-5), 2), (32, .ireturn, 1)]
theorem dcX8_found_0 : tbX8_found_0.all (fun q => decide (decode cX8_found q.1 = .ok q.2)) = true := by decide +kernel
def tbX8_trySooner_0 : List (Nat × Instr × Nat) := [(0, .iconst 0, 1), (1, .istore_n 2, 1), (2, .iload_n 2, 1), (3, .bipush 7, 2), (5, .if_icmp .gt 21, 3), (8, .iload_n 2, 1), (9, .bipush 6, 2), (11, .if_icmp .eq 9, 3), (14, .aload_n 0, 1), (15, .iload_n 1, 1), (16, .iload_n 2, 1), (17, .invokevirtual 119, 3), (20, .iinc 2 1, 3), (23, .goto (-21), 3), (26, .return_, 1)]
theorem dcX8_trySooner_0 : tbX8_trySooner_0.all (fun q => decide (decode cX8_trySooner q.1 = .ok q.2)) = true := by decide +kernel
def tbX8_trySoonerWith_0 : List (Nat × Instr × Nat) := [(0, .iload_n 1, 1), (1, .ifCond .lt 22, 3), (4, .iload_n 1, 1), (5, .aload_n 0, 1), (6, .getfield 22, 3), (9, .arraylength, 1), (10, .if_icmp .ge 13, 3), (13, .iload_n 1, 1), (14, .iconst 1, 1), (15, .iadd, 1), (16, .aload_n 0, 1), (17, .getfield 106, 3), (20, .if_icmp .lt 4, 3), (23, .return_, 1), (24, .aload_n 0, 1), (25, .iload_n 1, 1), (26, .invokevirtual 122, 3), (29, .astore_n 3, 1), (30, .aload_n 0, 1), (31, .getfield 29, 3), (34, .aload_n 3, 1), (35, .iload_n 2, 1), (36, .iconst 0, 1), (37, .invokevirtual 77, 3), (40, .pop, 1), (41, .aload_n 0, 1), (42, .getfield 22, 3), (45, .iload_n 1, 1), (46, .iload_n 2, 1), (47, .iastore, 1), (48, .aload_n 3, 1), (49, .bipush 12, 2), (51, .invokevirtual 50, 3), (54, .aload_n 0, 1), (55, .getfield 54, 3), (58, .if_icmp .ne 13, 3), (61, .aload_n 0, 1), (62, .iload_n 1, 1), (63, .iconst 1, 1), (64, .iadd, 1), (65, .invokevirtual 125, 3), (68, .goto 10, 3), (71, .aload_n 0, 1), (72, .iload_n 1, 1), (73, .iconst 1, 1), (74, .iadd, 1), (75, .invokevirtual 109, 3), (78, .return_, 1)]
theorem dcX8_trySoonerWith_0 : tbX8_trySoonerWith_0.all (fun q => decide (decode cX8_trySoonerWith q.1 = .ok q.2)) = true := by decide +kernel
def tbX8_tryGentler_0 : List (Nat × Instr × Nat) := [(0, .iload_n 1, 1), (1, .iload_n 2, 1), (2, .if_icmp .lt 14, 3), (5, .aload_n 0, 1), (6, .aload_n 0, 1), (7, .iload_n 1, 1), (8, .invokevirtual 37, 3), (11, .iload_n 2, 1), (12, .invokevirtual 128, 3), (15, .return_, 1), (16, .iconst 0, 1), (17, .istore_n 3, 1), (18, .iload_n 3, 1), (19, .bipush 7, 2), (21, .if_icmp .gt 22, 3), (24, .iload_n 3, 1), (25, .bipush 6, 2), (27, .if_icmp .eq 10, 3), (30, .aload_n 0, 1), (31, .iload_n 1, 1), (32, .iload_n 2, 1), (33, .iload_n 3, 1), (34, .invokevirtual 131, 3), (37, .iinc 3 1, 3), (40, .goto (-22), 3), (43, .return_, 1)]
theorem dcX8_tryGentler_0 : tbX8_tryGentler_0.all (fun q => decide (decode cX8_tryGentler q.1 = .ok q.2)) = true := by decide +kernel
def tbX8_tryGentlerWith_0 : List (Nat × Instr × Nat) := [(0, .iload_n 1, 1), (1, .ifCond .lt 12, 3), (4, .iload_n 1, 1), (5, .aload_n 0, 1), (6, .getfield 22, 3), (9, .arraylength, 1), (10, .if_icmp .lt 4, 3), (13, .return_, 1), (14, .aload_n 0, 1), (15, .getfield 29, 3), (18, .aload_n 0, 1), (19, .iload_n 1, 1), (20, .invokevirtual 122, 3), (23, .iload_n 3, 1), (24, .iconst 0, 1), (25, .invokevirtual 77, 3), (28, .pop, 1), (29, .aload_n 0, 1), (30, .getfield 22, 3), (33, .iload_n 1, 1), (34, .iload_n 3, 1), (35, .iastore, 1), (36, .aload_n 0, 1), (37, .iload_n 1, 1), (38, .iconst 1, 1), (39, .iadd, 1), (40, .iload_n 2, 1), (41, .invokevirtual 113, 3), (44, .return_, 1)]
theorem dcX8_tryGentlerWith_0 : tbX8_tryGentlerWith_0.all (fun q => decide (decode cX8_tryGentlerWith q.1 = .ok q.2)) = true := by decide +kernel
def tbX8_keepGentler_0 : List (Nat × Instr × Nat) := [(0, .aload_n 1, 1), (1, .invokevirtual 135, 3), (4, .istore_n 3, 1), (5, .aload_n 1, 1), (6, .bipush 12, 2), (8, .invokevirtual 50, 3), (11, .aload_n 0, 1), (12, .getfield 54, 3), (15, .if_icmp .lt 30, 3), (18, .aload_n 0, 1), (19, .getfield 106, 3), (22, .bipush (-5), 2), (24, .if_icmp .eq 11, 3), (27, .iload_n 3, 1), (28, .aload_n 0, 1), (29, .getfield 116, 3), (32, .if_icmp .ge 13, 3), (35, .aload_n 0, 1), (36, .iload_n 3, 1), (37, .putfield 116, 3), (40, .aload_n 0, 1), (41, .iload_n 2, 1), (42, .invokevirtual 125, 3), (45, .return_, 1)]
theorem dcX8_keepGentler_0 : tbX8_keepGentler_0.all (fun q => decide (decode cX8_keepGentler q.1 = .ok q.2)) = true := by decide +kernel
def tbX8_keepTried_0 : List (Nat × Instr × Nat) := [(0, .aload_n 0, 1), (1, .iload_n 1, 1), (2, .putfield 106, 3), (5, .aload_n 0, 1), (6, .getfield 22, 3), (9, .iconst 0, 1), (10, .aload_n 0, 1), (11, .getfield 26, 3), (14, .iconst 0, 1), (15, .aload_n 0, 1), (16, .getfield 26, 3), (19, .arraylength, 1), (20, .invokestatic 138, 3), (23, .return_, 1)]
theorem dcX8_keepTried_0 : tbX8_keepTried_0.all (fun q => decide (decode cX8_keepTried q.1 = .ok q.2)) = true := by decide +kernel
def tbX8_chanceOf_0 : List (Nat × Instr × Nat) := [(0, .aload_n 0, 1), (1, .invokevirtual 58, 3), (4, .pop, 1), (5, .aload_n 0, 1), (6, .iconst 0, 1), (7, .iload_n 1, 1), (8, .invokevirtual 144, 3), (11, .lstore_n 3, 1), (12, .lconst 1, 1), (13, .lstore 5, 2), (15, .iconst 0, 1), (16, .istore 7, 2), (18, .iload 7, 2), (20, .iload_n 1, 1), (21, .if_icmp .ge 24, 3), (24, .iload 7, 2), (26, .bipush 6, 2), (28, .if_icmp .ge 17, 3), (31, .lload 5, 2), (33, .ldc2_w 148, 3), (36, .lmul, 1), (37, .lstore 5, 2), (39, .iinc 7 1, 3), (42, .goto (-24), 3), (45, .iconst 0, 1), (46, .istore 7, 2), (48, .iload 7, 2), (50, .bipush 6, 2), (52, .if_icmp .ge 79, 3), (55, .lload_n 3, 1), (56, .ldc2_w 150, 3), (59, .lrem, 1), (60, .lconst 0, 1), (61, .lcmp, 1), (62, .ifCond .ne 28, 3), (65, .lload 5, 2), (67, .ldc2_w 150, 3), (70, .lrem, 1), (71, .lconst 0, 1), (72, .lcmp, 1), (73, .ifCond .ne 17, 3), (76, .lload_n 3, 1), (77, .ldc2_w 150, 3), (80, .ldiv, 1), (81, .lstore_n 3, 1), (82, .lload 5, 2), (84, .ldc2_w 150, 3), (87, .ldiv, 1)]
theorem dcX8_chanceOf_0 : tbX8_chanceOf_0.all (fun q => decide (decode cX8_chanceOf q.1 = .ok q.2)) = true := by decide +kernel
def tbX8_chanceOf_1 : List (Nat × Instr × Nat) := [(88, .lstore 5, 2), (90, .lload_n 3, 1), (91, .ldc2_w 152, 3), (94, .lrem, 1), (95, .lconst 0, 1), (96, .lcmp, 1), (97, .ifCond .ne 28, 3), (100, .lload 5, 2), (102, .ldc2_w 152, 3), (105, .lrem, 1), (106, .lconst 0, 1), (107, .lcmp, 1), (108, .ifCond .ne 17, 3), (111, .lload_n 3, 1), (112, .ldc2_w 152, 3), (115, .ldiv, 1), (116, .lstore_n 3, 1), (117, .lload 5, 2), (119, .ldc2_w 152, 3), (122, .ldiv, 1), (123, .lstore 5, 2), (125, .iinc 7 1, 3), (128, .goto (-80), 3), (131, .iload_n 2, 1), (132, .ifCond .ne 7, 3), (135, .lload_n 3, 1), (136, .goto 5, 3), (139, .lload 5, 2), (141, .lreturn, 1)]
theorem dcX8_chanceOf_1 : tbX8_chanceOf_1.all (fun q => decide (decode cX8_chanceOf q.1 = .ok q.2)) = true := by decide +kernel
def tbX8_waysFrom_0 : List (Nat × Instr × Nat) := [(0, .iload_n 1, 1), (1, .iload_n 2, 1), (2, .if_icmp .ge 9, 3), (5, .iload_n 1, 1), (6, .bipush 6, 2), (8, .if_icmp .lt 26, 3), (11, .aload_n 0, 1), (12, .iload_n 1, 1), (13, .invokevirtual 37, 3), (16, .bipush 12, 2), (18, .invokevirtual 50, 3), (21, .aload_n 0, 1), (22, .getfield 54, 3), (25, .if_icmp .lt 7, 3), (28, .lconst 1, 1), (29, .goto 4, 3), (32, .lconst 0, 1), (33, .lreturn, 1), (34, .aload_n 0, 1), (35, .getfield 33, 3), (38, .getfield 66, 3), (41, .iload_n 1, 1), (42, .invokevirtual 76, 3), (45, .bipush 6, 2), (47, .if_icmp .ne 7, 3), (50, .iconst 0, 1), (51, .goto 10, 3), (54, .aload_n 0, 1), (55, .getfield 33, 3), (58, .getfield 154, 3), (61, .istore_n 3, 1), (62, .bipush 10, 2), (64, .iload_n 3, 1), (65, .isub, 1), (66, .i2l, 1), (67, .aload_n 0, 1), (68, .iload_n 1, 1), (69, .iload_n 2, 1), (70, .iconst 0, 1), (71, .invokevirtual 157, 3), (74, .lmul, 1), (75, .iload_n 3, 1), (76, .i2l, 1), (77, .aload_n 0, 1), (78, .iload_n 1, 1), (79, .iload_n 2, 1), (80, .bipush 10, 2), (82, .invokevirtual 157, 3)]
theorem dcX8_waysFrom_0 : tbX8_waysFrom_0.all (fun q => decide (decode cX8_waysFrom q.1 = .ok q.2)) = true := by decide +kernel
def tbX8_waysFrom_1 : List (Nat × Instr × Nat) := [(85, .lmul, 1), (86, .ladd, 1), (87, .lreturn, 1)]
theorem dcX8_waysFrom_1 : tbX8_waysFrom_1.all (fun q => decide (decode cX8_waysFrom q.1 = .ok q.2)) = true := by decide +kernel
def tbX8_waysWith_0 : List (Nat × Instr × Nat) := [(0, .aload_n 0, 1), (1, .getfield 29, 3), (4, .aload_n 0, 1), (5, .iload_n 1, 1), (6, .invokevirtual 122, 3), (9, .aload_n 0, 1), (10, .getfield 33, 3), (13, .getfield 66, 3), (16, .iload_n 1, 1), (17, .invokevirtual 76, 3), (20, .iload_n 3, 1), (21, .invokevirtual 77, 3), (24, .pop, 1), (25, .aload_n 0, 1), (26, .iload_n 1, 1), (27, .iconst 1, 1), (28, .iadd, 1), (29, .iload_n 2, 1), (30, .invokevirtual 144, 3), (33, .lreturn, 1)]
theorem dcX8_waysWith_0 : tbX8_waysWith_0.all (fun q => decide (decode cX8_waysWith q.1 = .ok q.2)) = true := by decide +kernel
def tbX9_init_0 : List (Nat × Instr × Nat) := [(0, .aload_n 0, 1), (1, .invokespecial 3, 3), (4, .aload_n 0, 1), (5, .bipush 9, 2), (7, .newarray .int, 2), (9, .putfield 9, 3), (12, .aload_n 0, 1), (13, .bipush 7, 2), (15, .newarray .int, 2), (17, .putfield 15, 3), (20, .aload_n 0, 1), (21, .aload_n 1, 1), (22, .putfield 18, 3), (25, .aload_n 0, 1), (26, .aload_n 2, 1), (27, .putfield 22, 3), (30, .return_, 1)]
theorem dcX9_init_0 : tbX9_init_0.all (fun q => decide (decode cX9_init q.1 = .ok q.2)) = true := by decide +kernel
def tbX9_obey_0 : List (Nat × Instr × Nat) := [(0, .aload_n 0, 1), (1, .aload_n 1, 1), (2, .putfield 22, 3), (5, .return_, 1)]
theorem dcX9_obey_0 : tbX9_obey_0.all (fun q => decide (decode cX9_obey q.1 = .ok q.2)) = true := by decide +kernel
def tbX9_isOver_0 : List (Nat × Instr × Nat) := [(0, .aload_n 0, 1), (1, .getfield 18, 3), (4, .aload_n 1, 1), (5, .bipush 12, 2), (7, .invokevirtual 26, 3), (10, .invokevirtual 32, 3), (13, .ifCond .ne 7, 3), (16, .iconst 1, 1), (17, .goto 4, 3), (20, .iconst 0, 1), (21, .ireturn, 1)]
theorem dcX9_isOver_0 : tbX9_isOver_0.all (fun q => decide (decode cX9_isOver q.1 = .ok q.2)) = true := by decide +kernel
def tbX9_fearThere_0 : List (Nat × Instr × Nat) := [(0, .aload_n 1, 1), (1, .aload_n 0, 1), (2, .getfield 18, 3), (5, .aload_n 1, 1), (6, .bipush 12, 2), (8, .invokevirtual 26, 3), (11, .invokevirtual 38, 3), (14, .invokevirtual 26, 3), (17, .ireturn, 1)]
theorem dcX9_fearThere_0 : tbX9_fearThere_0.all (fun q => decide (decode cX9_fearThere q.1 = .ok q.2)) = true := by decide +kernel
def tbX9_lastOf_0 : List (Nat × Instr × Nat) := [(0, .aload_n 0, 1), (1, .getfield 22, 3), (4, .iload_n 1, 1), (5, .invokevirtual 41, 3), (8, .ireturn, 1)]
theorem dcX9_lastOf_0 : tbX9_lastOf_0.all (fun q => decide (decode cX9_lastOf q.1 = .ok q.2)) = true := by decide +kernel
def tbX9_halfMinutesOf_0 : List (Nat × Instr × Nat) := [(0, .iload_n 1, 1), (1, .bipush 6, 2), (3, .if_icmp .ne 19, 3), (6, .iconst 1, 1), (7, .aload_n 0, 1), (8, .getfield 22, 3), (11, .bipush 6, 2), (13, .invokevirtual 41, 3), (16, .invokestatic 46, 3), (19, .goto 4, 3), (22, .iconst 1, 1), (23, .ireturn, 1)]
theorem dcX9_halfMinutesOf_0 : tbX9_halfMinutesOf_0.all (fun q => decide (decode cX9_halfMinutesOf q.1 = .ok q.2)) = true := by decide +kernel
def tbX9_togetherOf_0 : List (Nat × Instr × Nat) := [(0, .aload_n 0, 1), (1, .aload_n 1, 1), (2, .invokevirtual 52, 3), (5, .aload_n 0, 1), (6, .getfield 22, 3), (9, .iload_n 2, 1), (10, .aload_n 0, 1), (11, .getfield 9, 3), (14, .invokevirtual 56, 3), (17, .ireturn, 1)]
theorem dcX9_togetherOf_0 : tbX9_togetherOf_0.all (fun q => decide (decode cX9_togetherOf q.1 = .ok q.2)) = true := by decide +kernel
def tbX9_lookAround_0 : List (Nat × Instr × Nat) := [(0, .aload_n 1, 1), (1, .bipush 10, 2), (3, .invokevirtual 26, 3), (6, .istore_n 2, 1), (7, .aload_n 1, 1), (8, .bipush 11, 2), (10, .invokevirtual 26, 3), (13, .istore_n 3, 1), (14, .aload_n 1, 1), (15, .bipush 12, 2), (17, .invokevirtual 26, 3), (20, .istore 4, 2), (22, .aload_n 0, 1), (23, .getfield 9, 3), (26, .iconst 0, 1), (27, .aload_n 1, 1), (28, .aload_n 0, 1), (29, .getfield 18, 3), (32, .iload 4, 2), (34, .invokevirtual 38, 3), (37, .invokevirtual 26, 3), (40, .iastore, 1), (41, .aload_n 0, 1), (42, .getfield 9, 3), (45, .iconst 1, 1), (46, .aload_n 1, 1), (47, .bipush 7, 2), (49, .invokevirtual 26, 3), (52, .iastore, 1), (53, .aload_n 0, 1), (54, .getfield 9, 3), (57, .iconst 2, 1), (58, .aload_n 1, 1), (59, .bipush 6, 2), (61, .invokevirtual 26, 3), (64, .iastore, 1), (65, .aload_n 0, 1), (66, .getfield 9, 3), (69, .iconst 3, 1), (70, .aload_n 1, 1), (71, .bipush 8, 2), (73, .invokevirtual 26, 3), (76, .iastore, 1), (77, .aload_n 0, 1), (78, .getfield 9, 3), (81, .iconst 4, 1), (82, .iload_n 2, 1), (83, .iload_n 3, 1)]
theorem dcX9_lookAround_0 : tbX9_lookAround_0.all (fun q => decide (decode cX9_lookAround q.1 = .ok q.2)) = true := by decide +kernel
def tbX9_lookAround_1 : List (Nat × Instr × Nat) := [(84, .isub, 1), (85, .invokestatic 60, 3), (88, .iastore, 1), (89, .aload_n 0, 1), (90, .getfield 9, 3), (93, .iconst 5, 1), (94, .bipush 99, 2), (96, .iload_n 2, 1), (97, .iload_n 3, 1), (98, .iadd, 1), (99, .invokestatic 63, 3), (102, .iastore, 1), (103, .aload_n 0, 1), (104, .getfield 9, 3), (107, .bipush 6, 2), (109, .iload 4, 2), (111, .iastore, 1), (112, .aload_n 0, 1), (113, .getfield 9, 3), (116, .bipush 7, 2), (118, .aload_n 0, 1), (119, .getfield 18, 3), (122, .iload 4, 2), (124, .invokevirtual 66, 3), (127, .iastore, 1), (128, .aload_n 0, 1), (129, .getfield 9, 3), (132, .bipush 8, 2), (134, .aload_n 1, 1), (135, .bipush 14, 2), (137, .invokevirtual 26, 3), (140, .bipush 60, 2), (142, .irem, 1), (143, .iastore, 1), (144, .return_, 1)]
theorem dcX9_lookAround_1 : tbX9_lookAround_1.all (fun q => decide (decode cX9_lookAround q.1 = .ok q.2)) = true := by decide +kernel
def tbX9_weigh_0 : List (Nat × Instr × Nat) := [(0, .aload_n 1, 1), (1, .bipush 12, 2), (3, .invokevirtual 26, 3), (6, .istore_n 3, 1), (7, .aload_n 0, 1), (8, .getfield 18, 3), (11, .iload_n 3, 1), (12, .invokevirtual 66, 3), (15, .istore 4, 2), (17, .iload 4, 2), (19, .iconst 2, 1), (20, .if_icmp .eq 9, 3), (23, .iload 4, 2), (25, .iconst 5, 1), (26, .if_icmp .ne 7, 3), (29, .iconst 1, 1), (30, .goto 4, 3), (33, .iconst 0, 1), (34, .istore 5, 2), (36, .iload 4, 2), (38, .iconst 3, 1), (39, .if_icmp .eq 10, 3), (42, .iload 4, 2), (44, .bipush 6, 2), (46, .if_icmp .ne 7, 3), (49, .iconst 1, 1), (50, .goto 4, 3), (53, .iconst 0, 1), (54, .istore 6, 2), (56, .aload_n 0, 1), (57, .aload_n 1, 1), (58, .invokevirtual 52, 3), (61, .aload_n 0, 1), (62, .getfield 15, 3), (65, .iconst 0, 1), (66, .aload_n 0, 1), (67, .getfield 22, 3), (70, .iconst 1, 1), (71, .aload_n 0, 1), (72, .getfield 9, 3), (75, .invokevirtual 56, 3), (78, .iastore, 1), (79, .aload_n 0, 1), (80, .getfield 15, 3), (83, .iconst 1, 1), (84, .aload_n 0, 1), (85, .aload_n 1, 1), (86, .iload_n 2, 1)]
theorem dcX9_weigh_0 : tbX9_weigh_0.all (fun q => decide (decode cX9_weigh q.1 = .ok q.2)) = true := by decide +kernel
def tbX9_weigh_1 : List (Nat × Instr × Nat) := [(87, .invokevirtual 69, 3), (90, .iastore, 1), (91, .aload_n 0, 1), (92, .getfield 15, 3), (95, .iconst 2, 1), (96, .iload 5, 2), (98, .ifCond .eq 18, 3), (101, .aload_n 0, 1), (102, .getfield 22, 3), (105, .iconst 2, 1), (106, .aload_n 0, 1), (107, .getfield 9, 3), (110, .invokevirtual 56, 3), (113, .goto 4, 3), (116, .iconst 0, 1), (117, .iastore, 1), (118, .aload_n 0, 1), (119, .getfield 15, 3), (122, .iconst 3, 1), (123, .iload 6, 2), (125, .ifCond .eq 12, 3), (128, .aload_n 1, 1), (129, .bipush 6, 2), (131, .invokevirtual 26, 3), (134, .goto 4, 3), (137, .iconst 0, 1), (138, .iastore, 1), (139, .aload_n 0, 1), (140, .getfield 15, 3), (143, .iconst 4, 1), (144, .iload 4, 2), (146, .iconst 5, 1), (147, .if_icmp .ne 14, 3), (150, .aload_n 1, 1), (151, .bipush 8, 2), (153, .invokevirtual 26, 3), (156, .iconst 2, 1), (157, .idiv, 1), (158, .goto 4, 3), (161, .iconst 0, 1), (162, .iastore, 1), (163, .aload_n 0, 1), (164, .getfield 15, 3), (167, .iconst 5, 1), (168, .iload 4, 2), (170, .bipush 6, 2), (172, .if_icmp .ne 16, 3), (175, .aload_n 0, 1)]
theorem dcX9_weigh_1 : tbX9_weigh_1.all (fun q => decide (decode cX9_weigh q.1 = .ok q.2)) = true := by decide +kernel
def tbX9_weigh_2 : List (Nat × Instr × Nat) := [(176, .getfield 18, 3), (179, .iload_n 3, 1), (180, .invokevirtual 73, 3), (183, .iload_n 3, 1), (184, .imul, 1), (185, .goto 4, 3), (188, .iconst 0, 1), (189, .iastore, 1), (190, .aload_n 0, 1), (191, .getfield 15, 3), (194, .bipush 6, 2), (196, .aload_n 1, 1), (197, .invokevirtual 76, 3), (200, .ifCond .eq 8, 3), (203, .bipush 15, 2), (205, .goto 4, 3), (208, .iconst 0, 1), (209, .iastore, 1), (210, .aload_n 0, 1), (211, .getfield 22, 3), (214, .iconst 0, 1), (215, .aload_n 0, 1), (216, .getfield 9, 3), (219, .invokevirtual 56, 3), (222, .aload_n 0, 1), (223, .aload_n 1, 1), (224, .iload_n 2, 1), (225, .invokevirtual 80, 3), (228, .iadd, 1), (229, .istore 7, 2), (231, .iconst 0, 1), (232, .istore 8, 2), (234, .iload 8, 2), (236, .aload_n 0, 1), (237, .getfield 15, 3), (240, .arraylength, 1), (241, .if_icmp .ge 21, 3), (244, .iload 7, 2), (246, .aload_n 0, 1), (247, .getfield 15, 3), (250, .iload 8, 2), (252, .iaload, 1), (253, .isub, 1), (254, .istore 7, 2), (256, .iinc 8 1, 3), (259, .goto (-25), 3), (262, .iload 7, 2), (264, .ireturn, 1)]
theorem dcX9_weigh_2 : tbX9_weigh_2.all (fun q => decide (decode cX9_weigh q.1 = .ok q.2)) = true := by decide +kernel
def tbX9_moreBy_0 : List (Nat × Instr × Nat) := [(0, .iload_n 2, 1), (1, .tableswitch 73 1 7 #[43, 73, 70, 52, 73, 73, 61], 43), (44, .aload_n 0, 1), (45, .getfield 22, 3), (48, .iconst 3, 1), (49, .invokevirtual 41, 3), (52, .ireturn, 1), (53, .aload_n 1, 1), (54, .bipush 7, 2), (56, .invokevirtual 26, 3), (59, .iconst 2, 1), (60, .idiv, 1), (61, .ireturn, 1), (62, .aload_n 0, 1), (63, .getfield 22, 3), (66, .iconst 4, 1), (67, .invokevirtual 41, 3), (70, .ireturn, 1), (71, .bipush (-20), 2), (73, .ireturn, 1), (74, .iconst 0, 1), (75, .ireturn, 1)]
theorem dcX9_moreBy_0 : tbX9_moreBy_0.all (fun q => decide (decode cX9_moreBy q.1 = .ok q.2)) = true := by decide +kernel
def tbX9_fearThatCounts_0 : List (Nat × Instr × Nat) := [(0, .iload_n 2, 1), (1, .iconst 3, 1), (2, .if_icmp .ne 5, 3), (5, .iconst 0, 1), (6, .ireturn, 1), (7, .aload_n 1, 1), (8, .bipush 12, 2), (10, .invokevirtual 26, 3), (13, .istore_n 3, 1), (14, .aload_n 1, 1), (15, .aload_n 0, 1), (16, .getfield 18, 3), (19, .iload_n 3, 1), (20, .invokevirtual 38, 3), (23, .invokevirtual 26, 3), (26, .istore 4, 2), (28, .iload_n 2, 1), (29, .iconst 2, 1), (30, .if_icmp .ne 10, 3), (33, .iload 4, 2), (35, .iconst 2, 1), (36, .idiv, 1), (37, .goto 5, 3), (40, .iload 4, 2), (42, .istore 5, 2), (44, .aload_n 0, 1), (45, .getfield 18, 3), (48, .iload_n 3, 1), (49, .invokevirtual 66, 3), (52, .lookupswitch 58 #[(1, 28), (4, 33)], 28), (80, .iload 5, 2), (82, .iconst 2, 1), (83, .imul, 1), (84, .ireturn, 1), (85, .iconst 0, 1), (86, .iload 5, 2), (88, .iconst 2, 1), (89, .imul, 1), (90, .aload_n 0, 1), (91, .getfield 18, 3), (94, .iload_n 3, 1), (95, .invokevirtual 73, 3), (98, .aload_n 1, 1), (99, .bipush 9, 2), (101, .invokevirtual 26, 3), (104, .imul, 1), (105, .isub, 1), (106, .invokestatic 46, 3)]
theorem dcX9_fearThatCounts_0 : tbX9_fearThatCounts_0.all (fun q => decide (decode cX9_fearThatCounts q.1 = .ok q.2)) = true := by decide +kernel
def tbX9_fearThatCounts_1 : List (Nat × Instr × Nat) := [(109, .ireturn, 1), (110, .iload 5, 2), (112, .ireturn, 1)]
theorem dcX9_fearThatCounts_1 : tbX9_fearThatCounts_1.all (fun q => decide (decode cX9_fearThatCounts q.1 = .ok q.2)) = true := by decide +kernel
def tbX9_mostAgainst_0 : List (Nat × Instr × Nat) := [(0, .aload_n 0, 1), (1, .aload_n 1, 1), (2, .iconst 0, 1), (3, .invokevirtual 83, 3), (6, .ifCond .le 6, 3), (9, .bipush (-5), 2), (11, .ireturn, 1), (12, .iconst 0, 1), (13, .istore_n 2, 1), (14, .iconst 1, 1), (15, .istore_n 3, 1), (16, .iload_n 3, 1), (17, .aload_n 0, 1), (18, .getfield 15, 3), (21, .arraylength, 1), (22, .if_icmp .ge 26, 3), (25, .aload_n 0, 1), (26, .getfield 15, 3), (29, .iload_n 3, 1), (30, .iaload, 1), (31, .aload_n 0, 1), (32, .getfield 15, 3), (35, .iload_n 2, 1), (36, .iaload, 1), (37, .if_icmp .le 5, 3), (40, .iload_n 3, 1), (41, .istore_n 2, 1), (42, .iinc 3 1, 3), (45, .goto (-29), 3), (48, .iload_n 2, 1), (49, .ireturn, 1)]
theorem dcX9_mostAgainst_0 : tbX9_mostAgainst_0.all (fun q => decide (decode cX9_mostAgainst q.1 = .ok q.2)) = true := by decide +kernel
def tbX9_doing_0 : List (Nat × Instr × Nat) := [(0, .aload_n 0, 1), (1, .aload_n 1, 1), (2, .invokevirtual 86, 3), (5, .ifCond .eq 6, 3), (8, .bipush (-5), 2), (10, .ireturn, 1), (11, .iload_n 2, 1), (12, .bipush 6, 2), (14, .if_icmp .ne 7, 3), (17, .iconst 1, 1), (18, .goto 12, 3), (21, .aload_n 0, 1), (22, .aload_n 1, 1), (23, .iload_n 2, 1), (24, .invokevirtual 83, 3), (27, .invokestatic 90, 3), (30, .ireturn, 1)]
theorem dcX9_doing_0 : tbX9_doing_0.all (fun q => decide (decode cX9_doing q.1 = .ok q.2)) = true := by decide +kernel
def tbX9_doneBy_0 : List (Nat × Instr × Nat) := [(0, .iload_n 0, 1), (1, .ifCond .le 5, 3), (4, .iconst 1, 1), (5, .ireturn, 1), (6, .iload_n 0, 1), (7, .bipush (-14), 2), (9, .if_icmp .lt 5, 3), (12, .iconst 0, 1), (13, .ireturn, 1), (14, .iload_n 0, 1), (15, .bipush (-39), 2), (17, .if_icmp .lt 7, 3), (20, .iconst 2, 1), (21, .goto 4, 3), (24, .iconst 3, 1), (25, .ireturn, 1)]
theorem dcX9_doneBy_0 : tbX9_doneBy_0.all (fun q => decide (decode cX9_doneBy q.1 = .ok q.2)) = true := by decide +kernel
def tbX9_step_0 : List (Nat × Instr × Nat) := [(0, .aload_n 0, 1), (1, .aload_n 1, 1), (2, .invokevirtual 86, 3), (5, .ifCond .eq 6, 3), (8, .bipush (-5), 2), (10, .ireturn, 1), (11, .iconst 1, 1), (12, .istore 4, 2), (14, .iload_n 2, 1), (15, .bipush 6, 2), (17, .if_icmp .ne 19, 3), (20, .aload_n 1, 1), (21, .bipush 6, 2), (23, .bipush 10, 2), (25, .invokevirtual 93, 3), (28, .aload_n 1, 1), (29, .iconst 1, 1), (30, .invokestatic 97, 3), (33, .goto 50, 3), (36, .aload_n 0, 1), (37, .aload_n 1, 1), (38, .iload_n 2, 1), (39, .invokevirtual 83, 3), (42, .iload_n 3, 1), (43, .isub, 1), (44, .invokestatic 90, 3), (47, .istore 4, 2), (49, .aload_n 0, 1), (50, .getfield 18, 3), (53, .aload_n 1, 1), (54, .bipush 12, 2), (56, .invokevirtual 26, 3), (59, .invokevirtual 38, 3), (62, .istore 5, 2), (64, .aload_n 0, 1), (65, .aload_n 1, 1), (66, .iload_n 2, 1), (67, .iload 4, 2), (69, .iload 5, 2), (71, .invokevirtual 101, 3), (74, .aload_n 1, 1), (75, .iload_n 2, 1), (76, .iload 4, 2), (78, .iload 5, 2), (80, .invokestatic 105, 3), (83, .aload_n 1, 1), (84, .bipush 14, 2), (86, .aload_n 0, 1)]
theorem dcX9_step_0 : tbX9_step_0.all (fun q => decide (decode cX9_step q.1 = .ok q.2)) = true := by decide +kernel
def tbX9_step_1 : List (Nat × Instr × Nat) := [(87, .iload_n 2, 1), (88, .invokevirtual 108, 3), (91, .invokevirtual 93, 3), (94, .iload 4, 2), (96, .ireturn, 1)]
theorem dcX9_step_1 : tbX9_step_1.all (fun q => decide (decode cX9_step q.1 = .ok q.2)) = true := by decide +kernel
def tbX9_leave_0 : List (Nat × Instr × Nat) := [(0, .aload_n 0, 1), (1, .bipush 12, 2), (3, .iload_n 1, 1), (4, .invokevirtual 93, 3), (7, .aload_n 0, 1), (8, .bipush 9, 2), (10, .iconst 0, 1), (11, .invokevirtual 111, 3), (14, .aload_n 0, 1), (15, .bipush 13, 2), (17, .iconst 0, 1), (18, .invokevirtual 111, 3), (21, .return_, 1)]
theorem dcX9_leave_0 : tbX9_leave_0.all (fun q => decide (decode cX9_leave q.1 = .ok q.2)) = true := by decide +kernel
def tbX9_follow_0 : List (Nat × Instr × Nat) := [(0, .iload_n 3, 1), (1, .tableswitch 96 0 2 #[50, 27, 88], 27), (28, .aload_n 1, 1), (29, .iload 4, 2), (31, .bipush (-5), 2), (33, .invokevirtual 93, 3), (36, .aload_n 1, 1), (37, .bipush 8, 2), (39, .iconst 1, 1), (40, .invokevirtual 93, 3), (43, .aload_n 1, 1), (44, .iconst 1, 1), (45, .invokestatic 97, 3), (48, .goto 63, 3), (51, .iload_n 2, 1), (52, .bipush 7, 2), (54, .if_icmp .eq 25, 3), (57, .aload_n 1, 1), (58, .iload 4, 2), (60, .aload_n 0, 1), (61, .getfield 22, 3), (64, .iconst 5, 1), (65, .invokevirtual 41, 3), (68, .ineg, 1), (69, .invokevirtual 93, 3), (72, .aload_n 1, 1), (73, .bipush 9, 2), (75, .iconst 1, 1), (76, .invokevirtual 93, 3), (79, .aload_n 1, 1), (80, .bipush 13, 2), (82, .iconst 0, 1), (83, .invokevirtual 111, 3), (86, .goto 25, 3), (89, .aload_n 1, 1), (90, .iconst (-1), 1), (91, .invokestatic 97, 3), (94, .goto 17, 3), (97, .aload_n 1, 1), (98, .bipush 13, 2), (100, .iconst 1, 1), (101, .invokevirtual 111, 3), (104, .aload_n 1, 1), (105, .bipush 8, 2), (107, .iconst (-1), 1), (108, .invokevirtual 93, 3), (111, .return_, 1)]
theorem dcX9_follow_0 : tbX9_follow_0.all (fun q => decide (decode cX9_follow q.1 = .ok q.2)) = true := by decide +kernel
def tbX9_answer_0 : List (Nat × Instr × Nat) := [(0, .iload_n 2, 1), (1, .iconst 1, 1), (2, .if_icmp .ne 7, 3), (5, .iconst 1, 1), (6, .goto 4, 3), (9, .iconst 0, 1), (10, .istore 4, 2), (12, .iload_n 1, 1), (13, .tableswitch 143 1 7 #[43, 143, 143, 62, 89, 143, 108], 43), (56, .aload_n 0, 1), (57, .bipush 6, 2), (59, .iload 4, 2), (61, .ifCond .eq 7, 3), (64, .iconst 0, 1), (65, .goto 4, 3), (68, .iconst (-1), 1), (69, .invokevirtual 93, 3), (72, .goto 84, 3), (75, .aload_n 0, 1), (76, .bipush 6, 2), (78, .iload 4, 2), (80, .ifCond .eq 7, 3), (83, .iconst (-1), 1), (84, .goto 4, 3), (87, .iconst 5, 1), (88, .invokevirtual 93, 3), (91, .aload_n 0, 1), (92, .bipush 7, 2), (94, .bipush (-3), 2), (96, .invokevirtual 93, 3), (99, .goto 57, 3), (102, .aload_n 0, 1), (103, .bipush 10, 2), (105, .bipush (-5), 2), (107, .invokevirtual 93, 3), (110, .aload_n 0, 1), (111, .bipush 11, 2), (113, .bipush (-5), 2), (115, .invokevirtual 93, 3), (118, .goto 38, 3), (121, .aload_n 0, 1), (122, .iload_n 3, 1), (123, .iload 4, 2), (125, .ifCond .eq 7, 3), (128, .iconst 0, 1), (129, .goto 4, 3), (132, .iconst 3, 1), (133, .invokevirtual 93, 3)]
theorem dcX9_answer_0 : tbX9_answer_0.all (fun q => decide (decode cX9_answer q.1 = .ok q.2)) = true := by decide +kernel
def tbX9_answer_1 : List (Nat × Instr × Nat) := [(136, .aload_n 0, 1), (137, .bipush 6, 2), (139, .iload 4, 2), (141, .ifCond .eq 7, 3), (144, .iconst 0, 1), (145, .goto 5, 3), (148, .bipush (-2), 2), (150, .invokevirtual 93, 3), (153, .goto 3, 3), (156, .return_, 1)]
theorem dcX9_answer_1 : tbX9_answer_1.all (fun q => decide (decode cX9_answer q.1 = .ok q.2)) = true := by decide +kernel
def tbX10_init_0 : List (Nat × Instr × Nat) := [(0, .aload_n 0, 1), (1, .invokespecial 3, 3), (4, .aload_n 0, 1), (5, .new 9, 3), (8, .dup, 1), (9, .invokespecial 11, 3), (12, .putfield 12, 3), (15, .aload_n 0, 1), (16, .new 18, 3), (19, .dup, 1), (20, .invokespecial 20, 3), (23, .putfield 21, 3), (26, .aload_n 0, 1), (27, .bipush 6, 2), (29, .anewarray 25, 3), (32, .putfield 27, 3), (35, .iconst 0, 1), (36, .istore_n 1, 1), (37, .iload_n 1, 1), (38, .aload_n 0, 1), (39, .getfield 27, 3), (42, .arraylength, 1), (43, .if_icmp .ge 22, 3), (46, .aload_n 0, 1), (47, .getfield 27, 3), (50, .iload_n 1, 1), (51, .new 25, 3), (54, .dup, 1), (55, .invokespecial 31, 3), (58, .aastore, 1), (59, .iinc 1 1, 3), (62, .goto (-25), 3), (65, .aload_n 0, 1), (66, .new 25, 3), (69, .dup, 1), (70, .invokespecial 31, 3), (73, .putfield 32, 3), (76, .aload_n 0, 1), (77, .new 36, 3), (80, .dup, 1), (81, .aload_n 0, 1), (82, .getfield 12, 3), (85, .aload_n 0, 1), (86, .getfield 32, 3), (89, .invokespecial 38, 3), (92, .putfield 41, 3), (95, .aload_n 0, 1), (96, .new 45, 3)]
theorem dcX10_init_0 : tbX10_init_0.all (fun q => decide (decode cX10_init q.1 = .ok q.2)) = true := by decide +kernel
def tbX10_init_1 : List (Nat × Instr × Nat) := [(99, .dup, 1), (100, .invokespecial 47, 3), (103, .putfield 48, 3), (106, .aload_n 0, 1), (107, .new 45, 3), (110, .dup, 1), (111, .invokespecial 47, 3), (114, .putfield 52, 3), (117, .aload_n 0, 1), (118, .new 55, 3), (121, .dup, 1), (122, .aload_n 0, 1), (123, .getfield 41, 3), (126, .aload_n 0, 1), (127, .getfield 48, 3), (130, .invokespecial 57, 3), (133, .putfield 60, 3), (136, .aload_n 0, 1), (137, .new 64, 3), (140, .dup, 1), (141, .aload_n 0, 1), (142, .getfield 12, 3), (145, .invokespecial 66, 3), (148, .putfield 69, 3), (151, .aload_n 0, 1), (152, .bipush 6, 2), (154, .anewarray 73, 3), (157, .putfield 75, 3), (160, .iconst 0, 1), (161, .istore_n 1, 1), (162, .iload_n 1, 1), (163, .aload_n 0, 1), (164, .getfield 75, 3), (167, .arraylength, 1), (168, .if_icmp .ge 22, 3), (171, .aload_n 0, 1), (172, .getfield 75, 3), (175, .iload_n 1, 1), (176, .new 73, 3), (179, .dup, 1), (180, .invokespecial 79, 3), (183, .aastore, 1), (184, .iinc 1 1, 3), (187, .goto (-25), 3), (190, .return_, 1)]
theorem dcX10_init_1 : tbX10_init_1.all (fun q => decide (decode cX10_init q.1 = .ok q.2)) = true := by decide +kernel
def tbX10_place_0 : List (Nat × Instr × Nat) := [(0, .iload_n 1, 1), (1, .ifCond .lt 18, 3), (4, .iload_n 1, 1), (5, .bipush 6, 2), (7, .if_icmp .gt 12, 3), (10, .iload_n 3, 1), (11, .ifCond .lt 8, 3), (14, .iload_n 3, 1), (15, .iconst 5, 1), (16, .if_icmp .le 5, 3), (19, .iconst (-1), 1), (20, .ireturn, 1), (21, .iload_n 2, 1), (22, .ifCond .lt 9, 3), (25, .iload_n 2, 1), (26, .bipush 9, 2), (28, .if_icmp .le 6, 3), (31, .bipush (-2), 2), (33, .ireturn, 1), (34, .aload_n 0, 1), (35, .getfield 12, 3), (38, .invokevirtual 80, 3), (41, .bipush 10, 2), (43, .if_icmp .lt 6, 3), (46, .bipush (-4), 2), (48, .ireturn, 1), (49, .aload_n 0, 1), (50, .getfield 12, 3), (53, .iload_n 1, 1), (54, .iload_n 2, 1), (55, .iload_n 3, 1), (56, .invokevirtual 84, 3), (59, .ireturn, 1)]
theorem dcX10_place_0 : tbX10_place_0.all (fun q => decide (decode cX10_place q.1 = .ok q.2)) = true := by decide +kernel
def tbX10_of_0 : List (Nat × Instr × Nat) := [(0, .aload_n 0, 1), (1, .getfield 12, 3), (4, .iload_n 1, 1), (5, .invokevirtual 88, 3), (8, .ifCond .ne 5, 3), (11, .iconst (-1), 1), (12, .ireturn, 1), (13, .iload_n 2, 1), (14, .tableswitch 53 0 2 #[26, 35, 44], 26), (40, .aload_n 0, 1), (41, .getfield 12, 3), (44, .iload_n 1, 1), (45, .invokevirtual 92, 3), (48, .ireturn, 1), (49, .aload_n 0, 1), (50, .getfield 12, 3), (53, .iload_n 1, 1), (54, .invokevirtual 96, 3), (57, .ireturn, 1), (58, .aload_n 0, 1), (59, .getfield 12, 3), (62, .iload_n 1, 1), (63, .invokevirtual 99, 3), (66, .ireturn, 1), (67, .iconst (-1), 1), (68, .ireturn, 1)]
theorem dcX10_of_0 : tbX10_of_0.all (fun q => decide (decode cX10_of q.1 = .ok q.2)) = true := by decide +kernel
def tbX10_set_0 : List (Nat × Instr × Nat) := [(0, .iload_n 1, 1), (1, .ifCond .lt 9, 3), (4, .iload_n 1, 1), (5, .bipush 13, 2), (7, .if_icmp .le 5, 3), (10, .iconst (-1), 1), (11, .ireturn, 1), (12, .iload_n 1, 1), (13, .bipush 12, 2), (15, .if_icmp .ne 13, 3), (18, .aload_n 0, 1), (19, .getfield 12, 3), (22, .invokevirtual 80, 3), (25, .goto 7, 3), (28, .iload_n 1, 1), (29, .invokestatic 102, 3), (32, .istore_n 3, 1), (33, .iload_n 2, 1), (34, .ifCond .lt 8, 3), (37, .iload_n 2, 1), (38, .iload_n 3, 1), (39, .if_icmp .le 6, 3), (42, .bipush (-2), 2), (44, .ireturn, 1), (45, .aload_n 0, 1), (46, .getfield 48, 3), (49, .getfield 107, 3), (52, .iload_n 1, 1), (53, .invokevirtual 111, 3), (56, .istore 4, 2), (58, .aload_n 0, 1), (59, .getfield 48, 3), (62, .getfield 107, 3), (65, .iload_n 1, 1), (66, .iload_n 2, 1), (67, .invokevirtual 114, 3), (70, .iload 4, 2), (72, .ireturn, 1)]
theorem dcX10_set_0 : tbX10_set_0.all (fun q => decide (decode cX10_set q.1 = .ok q.2)) = true := by decide +kernel
def tbX10_now_0 : List (Nat × Instr × Nat) := [(0, .iload_n 1, 1), (1, .ifCond .lt 9, 3), (4, .iload_n 1, 1), (5, .bipush 15, 2), (7, .if_icmp .le 7, 3), (10, .iconst (-1), 1), (11, .goto 14, 3), (14, .aload_n 0, 1), (15, .getfield 48, 3), (18, .getfield 107, 3), (21, .iload_n 1, 1), (22, .invokevirtual 118, 3), (25, .ireturn, 1)]
theorem dcX10_now_0 : tbX10_now_0.all (fun q => decide (decode cX10_now q.1 = .ok q.2)) = true := by decide +kernel
def tbX10_feed_0 : List (Nat × Instr × Nat) := [(0, .iload_n 1, 1), (1, .ifCond .lt 9, 3), (4, .iload_n 1, 1), (5, .bipush 127, 2), (7, .if_icmp .le 6, 3), (10, .bipush (-2), 2), (12, .ireturn, 1), (13, .aload_n 0, 1), (14, .getfield 21, 3), (17, .iload_n 1, 1), (18, .invokevirtual 121, 3), (21, .ifCond .eq 13, 3), (24, .aload_n 0, 1), (25, .getfield 21, 3), (28, .invokevirtual 123, 3), (31, .goto 5, 3), (34, .bipush (-4), 2), (36, .ireturn, 1)]
theorem dcX10_feed_0 : tbX10_feed_0.all (fun q => decide (decode cX10_feed q.1 = .ok q.2)) = true := by decide +kernel
def tbX10_law_0 : List (Nat × Instr × Nat) := [(0, .aload_n 0, 1), (1, .getfield 124, 3), (4, .ifCond .lt 27, 3), (7, .aload_n 0, 1), (8, .getfield 124, 3), (11, .aload_n 0, 1), (12, .getfield 27, 3), (15, .arraylength, 1), (16, .if_icmp .ge 15, 3), (19, .aload_n 0, 1), (20, .getfield 27, 3), (23, .aload_n 0, 1), (24, .getfield 124, 3), (27, .aaload, 1), (28, .goto 4, 3), (31, .aconst_null, 1), (32, .astore_n 1, 1), (33, .aload_n 1, 1), (34, .ifnonnull 6, 3), (37, .bipush (-4), 2), (39, .ireturn, 1), (40, .aload_n 0, 1), (41, .getfield 21, 3), (44, .aload_n 1, 1), (45, .invokevirtual 128, 3), (48, .istore_n 2, 1), (49, .aload_n 0, 1), (50, .getfield 21, 3), (53, .invokevirtual 132, 3), (56, .iload_n 2, 1), (57, .ifCond .lt 8, 3), (60, .bipush (-10), 2), (62, .iload_n 2, 1), (63, .isub, 1), (64, .ireturn, 1), (65, .aload_n 0, 1), (66, .getfield 48, 3), (69, .aload_n 0, 1), (70, .getfield 124, 3), (73, .putfield 135, 3), (76, .aload_n 0, 1), (77, .dup, 1), (78, .getfield 124, 3), (81, .iconst 1, 1), (82, .iadd, 1), (83, .putfield 124, 3), (86, .aload_n 0, 1), (87, .getfield 41, 3)]
theorem dcX10_law_0 : tbX10_law_0.all (fun q => decide (decode cX10_law q.1 = .ok q.2)) = true := by decide +kernel
def tbX10_law_1 : List (Nat × Instr × Nat) := [(90, .aload_n 1, 1), (91, .invokevirtual 138, 3), (94, .aload_n 0, 1), (95, .getfield 48, 3), (98, .getfield 135, 3), (101, .ireturn, 1)]
theorem dcX10_law_1 : tbX10_law_1.all (fun q => decide (decode cX10_law q.1 = .ok q.2)) = true := by decide +kernel
def tbX10_told_0 : List (Nat × Instr × Nat) := [(0, .iload_n 1, 1), (1, .ifCond .lt 9, 3), (4, .iload_n 1, 1), (5, .bipush 6, 2), (7, .if_icmp .le 5, 3), (10, .iconst (-1), 1), (11, .ireturn, 1), (12, .iload_n 1, 1), (13, .iconst 2, 1), (14, .if_icmp .le 12, 3), (17, .aload_n 0, 1), (18, .getfield 41, 3), (21, .iload_n 1, 1), (22, .invokevirtual 142, 3), (25, .ireturn, 1), (26, .aload_n 0, 1), (27, .invokevirtual 145, 3), (30, .ifCond .eq 8, 3), (33, .bipush (-3), 2), (35, .goto 18, 3), (38, .aload_n 0, 1), (39, .getfield 41, 3), (42, .aload_n 0, 1), (43, .getfield 48, 3), (46, .getfield 107, 3), (49, .iload_n 1, 1), (50, .invokevirtual 149, 3), (53, .ireturn, 1)]
theorem dcX10_told_0 : tbX10_told_0.all (fun q => decide (decode cX10_told q.1 = .ok q.2)) = true := by decide +kernel
def tbX10_drive_0 : List (Nat × Instr × Nat) := [(0, .iload_n 1, 1), (1, .invokestatic 153, 3), (4, .ifCond .ne 6, 3), (7, .ldc 156, 2), (9, .ireturn, 1), (10, .aload_n 0, 1), (11, .invokevirtual 145, 3), (14, .ifCond .eq 8, 3), (17, .ldc 157, 2), (19, .goto 18, 3), (22, .aload_n 0, 1), (23, .getfield 41, 3), (26, .aload_n 0, 1), (27, .getfield 48, 3), (30, .getfield 107, 3), (33, .iload_n 1, 1), (34, .invokevirtual 158, 3), (37, .ireturn, 1)]
theorem dcX10_drive_0 : tbX10_drive_0.all (fun q => decide (decode cX10_drive q.1 = .ok q.2)) = true := by decide +kernel
def tbX10_would_0 : List (Nat × Instr × Nat) := [(0, .iload_n 1, 1), (1, .invokestatic 153, 3), (4, .ifCond .eq 21, 3), (7, .aload_n 0, 1), (8, .getfield 41, 3), (11, .aload_n 0, 1), (12, .getfield 48, 3), (15, .getfield 107, 3), (18, .iload_n 1, 1), (19, .invokevirtual 161, 3), (22, .goto 4, 3), (25, .iconst (-1), 1), (26, .ireturn, 1)]
theorem dcX10_would_0 : tbX10_would_0.all (fun q => decide (decode cX10_would q.1 = .ok q.2)) = true := by decide +kernel
def tbX10_go_0 : List (Nat × Instr × Nat) := [(0, .iload_n 1, 1), (1, .invokestatic 153, 3), (4, .ifCond .ne 5, 3), (7, .iconst (-1), 1), (8, .ireturn, 1), (9, .aload_n 0, 1), (10, .getfield 48, 3), (13, .getfield 107, 3), (16, .bipush 14, 2), (18, .invokevirtual 111, 3), (21, .aload_n 0, 1), (22, .getfield 41, 3), (25, .iload_n 1, 1), (26, .invokevirtual 164, 3), (29, .iadd, 1), (30, .sipush 9999, 3), (33, .if_icmp .le 6, 3), (36, .bipush (-3), 2), (38, .ireturn, 1), (39, .aload_n 0, 1), (40, .getfield 41, 3), (43, .aload_n 0, 1), (44, .getfield 48, 3), (47, .getfield 107, 3), (50, .iload_n 1, 1), (51, .iconst 0, 1), (52, .invokevirtual 167, 3), (55, .ireturn, 1)]
theorem dcX10_go_0 : tbX10_go_0.all (fun q => decide (decode cX10_go q.1 = .ok q.2)) = true := by decide +kernel
def tbX10_row_0 : List (Nat × Instr × Nat) := [(0, .iload_n 1, 1), (1, .iconst (-1), 1), (2, .if_icmp .eq 12, 3), (5, .iload_n 1, 1), (6, .invokestatic 153, 3), (9, .ifCond .ne 5, 3), (12, .iconst (-1), 1), (13, .ireturn, 1), (14, .aload_n 0, 1), (15, .getfield 48, 3), (18, .getfield 171, 3), (21, .iload_n 1, 1), (22, .invokestatic 175, 3), (25, .ireturn, 1)]
theorem dcX10_row_0 : tbX10_row_0.all (fun q => decide (decode cX10_row q.1 = .ok q.2)) = true := by decide +kernel
def tbX10_hand_0 : List (Nat × Instr × Nat) := [(0, .iload_n 2, 1), (1, .ifCond .lt 9, 3), (4, .iload_n 2, 1), (5, .bipush 15, 2), (7, .if_icmp .le 5, 3), (10, .iconst (-1), 1), (11, .ireturn, 1), (12, .iload_n 1, 1), (13, .ifCond .lt 17, 3), (16, .iload_n 1, 1), (17, .aload_n 0, 1), (18, .getfield 48, 3), (21, .getfield 171, 3), (24, .invokevirtual 179, 3), (27, .if_icmp .le 6, 3), (30, .bipush (-2), 2), (32, .ireturn, 1), (33, .aload_n 0, 1), (34, .getfield 60, 3), (37, .iload_n 1, 1), (38, .invokevirtual 182, 3), (41, .iload_n 2, 1), (42, .invokevirtual 118, 3), (45, .ireturn, 1)]
theorem dcX10_hand_0 : tbX10_hand_0.all (fun q => decide (decode cX10_hand q.1 = .ok q.2)) = true := by decide +kernel
def tbX10_soonest_0 : List (Nat × Instr × Nat) := [(0, .iload_n 2, 1), (1, .iconst (-1), 1), (2, .if_icmp .lt 8, 3), (5, .iload_n 2, 1), (6, .iconst 4, 1), (7, .if_icmp .lt 5, 3), (10, .iconst (-1), 1), (11, .ireturn, 1), (12, .iload_n 1, 1), (13, .ifCond .lt 8, 3), (16, .iload_n 1, 1), (17, .iconst 4, 1), (18, .if_icmp .le 6, 3), (21, .bipush (-2), 2), (23, .ireturn, 1), (24, .aload_n 0, 1), (25, .invokevirtual 145, 3), (28, .ifCond .eq 6, 3), (31, .bipush (-3), 2), (33, .ireturn, 1), (34, .aload_n 0, 1), (35, .getfield 60, 3), (38, .iload_n 1, 1), (39, .invokevirtual 186, 3), (42, .istore_n 3, 1), (43, .iload_n 2, 1), (44, .iconst (-1), 1), (45, .if_icmp .ne 7, 3), (48, .iload_n 3, 1), (49, .goto 11, 3), (52, .aload_n 0, 1), (53, .getfield 60, 3), (56, .iload_n 2, 1), (57, .invokevirtual 189, 3), (60, .ireturn, 1)]
theorem dcX10_soonest_0 : tbX10_soonest_0.all (fun q => decide (decode cX10_soonest q.1 = .ok q.2)) = true := by decide +kernel
def tbX10_gentlest_0 : List (Nat × Instr × Nat) := [(0, .iload_n 1, 1), (1, .iconst 1, 1), (2, .if_icmp .lt 8, 3), (5, .iload_n 1, 1), (6, .iconst 4, 1), (7, .if_icmp .le 6, 3), (10, .bipush (-2), 2), (12, .ireturn, 1), (13, .iload_n 2, 1), (14, .iconst (-1), 1), (15, .if_icmp .lt 8, 3), (18, .iload_n 2, 1), (19, .iload_n 1, 1), (20, .if_icmp .lt 5, 3), (23, .iconst (-1), 1), (24, .ireturn, 1), (25, .aload_n 0, 1), (26, .invokevirtual 145, 3), (29, .ifCond .eq 6, 3), (32, .bipush (-3), 2), (34, .ireturn, 1), (35, .aload_n 0, 1), (36, .getfield 60, 3), (39, .iload_n 1, 1), (40, .invokevirtual 192, 3), (43, .istore_n 3, 1), (44, .iload_n 2, 1), (45, .iconst (-1), 1), (46, .if_icmp .ne 7, 3), (49, .iload_n 3, 1), (50, .goto 11, 3), (53, .aload_n 0, 1), (54, .getfield 60, 3), (57, .iload_n 2, 1), (58, .invokevirtual 189, 3), (61, .ireturn, 1)]
theorem dcX10_gentlest_0 : tbX10_gentlest_0.all (fun q => decide (decode cX10_gentlest q.1 = .ok q.2)) = true := by decide +kernel
def tbX10_why_0 : List (Nat × Instr × Nat) := [(0, .aload_n 0, 1), (1, .invokevirtual 145, 3), (4, .ifCond .eq 8, 3), (7, .bipush (-5), 2), (9, .goto 17, 3), (12, .aload_n 0, 1), (13, .getfield 41, 3), (16, .aload_n 0, 1), (17, .getfield 48, 3), (20, .getfield 107, 3), (23, .invokevirtual 195, 3), (26, .ireturn, 1)]
theorem dcX10_why_0 : tbX10_why_0.all (fun q => decide (decode cX10_why q.1 = .ok q.2)) = true := by decide +kernel
def tbX10_waits_0 : List (Nat × Instr × Nat) := [(0, .aload_n 0, 1), (1, .invokevirtual 145, 3), (4, .ifCond .eq 8, 3), (7, .bipush (-3), 2), (9, .goto 10, 3), (12, .aload_n 0, 1), (13, .getfield 60, 3), (16, .invokevirtual 199, 3), (19, .ireturn, 1)]
theorem dcX10_waits_0 : tbX10_waits_0.all (fun q => decide (decode cX10_waits q.1 = .ok q.2)) = true := by decide +kernel
def tbX10_round_0 : List (Nat × Instr × Nat) := [(0, .aload_n 0, 1), (1, .invokevirtual 145, 3), (4, .ifCond .eq 6, 3), (7, .bipush (-3), 2), (9, .ireturn, 1), (10, .aload_n 0, 1), (11, .getfield 60, 3), (14, .invokevirtual 199, 3), (17, .istore_n 1, 1), (18, .iload_n 1, 1), (19, .bipush (-5), 2), (21, .if_icmp .eq 16, 3), (24, .aload_n 0, 1), (25, .getfield 41, 3), (28, .bipush 6, 2), (30, .invokevirtual 164, 3), (33, .iload_n 1, 1), (34, .if_icmp .ge 7, 3), (37, .iconst 1, 1), (38, .goto 4, 3), (41, .iconst 0, 1), (42, .ireturn, 1)]
theorem dcX10_round_0 : tbX10_round_0.all (fun q => decide (decode cX10_round q.1 = .ok q.2)) = true := by decide +kernel
def tbX10_shiftLoad_0 : List (Nat × Instr × Nat) := [(0, .aload_n 0, 1), (1, .invokevirtual 145, 3), (4, .ifCond .eq 8, 3), (7, .ldc 157, 2), (9, .goto 10, 3), (12, .aload_n 0, 1), (13, .getfield 60, 3), (16, .invokevirtual 202, 3), (19, .ireturn, 1)]
theorem dcX10_shiftLoad_0 : tbX10_shiftLoad_0.all (fun q => decide (decode cX10_shiftLoad q.1 = .ok q.2)) = true := by decide +kernel
def tbX10_wander_0 : List (Nat × Instr × Nat) := [(0, .iload_n 1, 1), (1, .ifCond .lt 9, 3), (4, .iload_n 1, 1), (5, .bipush 10, 2), (7, .if_icmp .le 6, 3), (10, .bipush (-2), 2), (12, .ireturn, 1), (13, .aload_n 0, 1), (14, .getfield 48, 3), (17, .getfield 205, 3), (20, .istore_n 2, 1), (21, .aload_n 0, 1), (22, .getfield 48, 3), (25, .iload_n 1, 1), (26, .putfield 205, 3), (29, .iload_n 2, 1), (30, .ireturn, 1)]
theorem dcX10_wander_0 : tbX10_wander_0.all (fun q => decide (decode cX10_wander q.1 = .ok q.2)) = true := by decide +kernel
def tbX10_sure_0 : List (Nat × Instr × Nat) := [(0, .iload_n 1, 1), (1, .iconst 1, 1), (2, .if_icmp .lt 32, 3), (5, .iload_n 1, 1), (6, .bipush 6, 2), (8, .if_icmp .gt 26, 3), (11, .iload_n 1, 1), (12, .aload_n 0, 1), (13, .getfield 48, 3), (16, .getfield 171, 3), (19, .invokevirtual 179, 3), (22, .if_icmp .gt 12, 3), (25, .iload_n 2, 1), (26, .ifCond .lt 8, 3), (29, .iload_n 2, 1), (30, .iconst 1, 1), (31, .if_icmp .le 7, 3), (34, .ldc2_w 208, 3), (37, .lreturn, 1), (38, .aload_n 0, 1), (39, .getfield 60, 3), (42, .iload_n 1, 1), (43, .iload_n 2, 1), (44, .invokevirtual 210, 3), (47, .lreturn, 1)]
theorem dcX10_sure_0 : tbX10_sure_0.all (fun q => decide (decode cX10_sure q.1 = .ok q.2)) = true := by decide +kernel
def tbX10_days_0 : List (Nat × Instr × Nat) := [(0, .iload_n 2, 1), (1, .ifCond .lt 8, 3), (4, .iload_n 2, 1), (5, .iconst 2, 1), (6, .if_icmp .le 5, 3), (9, .iconst (-1), 1), (10, .ireturn, 1), (11, .iload_n 1, 1), (12, .ifCond .lt 9, 3), (15, .iload_n 1, 1), (16, .bipush 99, 2), (18, .if_icmp .le 6, 3), (21, .bipush (-2), 2), (23, .ireturn, 1), (24, .aload_n 0, 1), (25, .getfield 60, 3), (28, .iload_n 1, 1), (29, .invokevirtual 214, 3), (32, .astore_n 3, 1), (33, .iload_n 2, 1), (34, .lookupswitch 38 #[(0, 26), (1, 31)], 26), (60, .aload_n 3, 1), (61, .invokevirtual 217, 3), (64, .ireturn, 1), (65, .aload_n 3, 1), (66, .bipush 6, 2), (68, .invokevirtual 111, 3), (71, .ireturn, 1), (72, .aload_n 3, 1), (73, .bipush 12, 2), (75, .invokevirtual 111, 3), (78, .ireturn, 1)]
theorem dcX10_days_0 : tbX10_days_0.all (fun q => decide (decode cX10_days q.1 = .ok q.2)) = true := by decide +kernel
def tbX10_beast_0 : List (Nat × Instr × Nat) := [(0, .iload_n 1, 1), (1, .iconst (-1), 1), (2, .if_icmp .lt 9, 3), (5, .iload_n 1, 1), (6, .bipush 99, 2), (8, .if_icmp .le 8, 3), (11, .bipush (-2), 2), (13, .goto 14, 3), (16, .aload_n 0, 1), (17, .getfield 48, 3), (20, .getfield 220, 3), (23, .iload_n 1, 1), (24, .invokestatic 175, 3), (27, .ireturn, 1)]
theorem dcX10_beast_0 : tbX10_beast_0.all (fun q => decide (decode cX10_beast q.1 = .ok q.2)) = true := by decide +kernel
def tbX10_string_0 : List (Nat × Instr × Nat) := [(0, .iload_n 1, 1), (1, .ifCond .lt 8, 3), (4, .iload_n 1, 1), (5, .iconst 2, 1), (6, .if_icmp .le 5, 3), (9, .iconst (-1), 1), (10, .ireturn, 1), (11, .aload_n 0, 1), (12, .invokevirtual 145, 3), (15, .ifCond .eq 6, 3), (18, .bipush (-3), 2), (20, .ireturn, 1), (21, .aload_n 0, 1), (22, .getfield 48, 3), (25, .getfield 220, 3), (28, .invokevirtual 223, 3), (31, .istore_n 2, 1), (32, .iload_n 2, 1), (33, .ifCond .ge 6, 3), (36, .bipush (-5), 2), (38, .ireturn, 1), (39, .iload_n 1, 1), (40, .ifCond .ne 5, 3), (43, .iload_n 2, 1), (44, .ireturn, 1), (45, .aload_n 0, 1), (46, .getfield 41, 3), (49, .aload_n 0, 1), (50, .getfield 48, 3), (53, .getfield 107, 3), (56, .invokevirtual 226, 3), (59, .aload_n 0, 1), (60, .getfield 48, 3), (63, .getfield 220, 3), (66, .iload_n 2, 1), (67, .invokevirtual 229, 3), (70, .isub, 1), (71, .istore_n 3, 1), (72, .iconst 0, 1), (73, .iload_n 3, 1), (74, .invokestatic 230, 3), (77, .bipush 10, 2), (79, .idiv, 1), (80, .istore 4, 2), (82, .iload_n 1, 1), (83, .iconst 1, 1), (84, .if_icmp .ne 6, 3), (87, .iload 4, 2)]
theorem dcX10_string_0 : tbX10_string_0.all (fun q => decide (decode cX10_string q.1 = .ok q.2)) = true := by decide +kernel
def tbX10_string_1 : List (Nat × Instr × Nat) := [(89, .ireturn, 1), (90, .aload_n 0, 1), (91, .getfield 41, 3), (94, .aload_n 0, 1), (95, .getfield 48, 3), (98, .getfield 107, 3), (101, .iconst 1, 1), (102, .invokevirtual 158, 3), (105, .iload 4, 2), (107, .iadd, 1), (108, .ifCond .le 7, 3), (111, .iconst 1, 1), (112, .goto 4, 3), (115, .iconst 0, 1), (116, .ireturn, 1)]
theorem dcX10_string_1 : tbX10_string_1.all (fun q => decide (decode cX10_string q.1 = .ok q.2)) = true := by decide +kernel
def tbX10_film_0 : List (Nat × Instr × Nat) := [(0, .iload_n 1, 1), (1, .iconst (-1), 1), (2, .if_icmp .lt 8, 3), (5, .iload_n 1, 1), (6, .iconst 3, 1), (7, .if_icmp .le 5, 3), (10, .iconst (-1), 1), (11, .ireturn, 1), (12, .aload_n 0, 1), (13, .getfield 48, 3), (16, .getfield 236, 3), (19, .iload_n 1, 1), (20, .invokestatic 175, 3), (23, .ireturn, 1)]
theorem dcX10_film_0 : tbX10_film_0.all (fun q => decide (decode cX10_film q.1 = .ok q.2)) = true := by decide +kernel
def tbX10_off_0 : List (Nat × Instr × Nat) := [(0, .aload_n 0, 1), (1, .getfield 60, 3), (4, .invokevirtual 239, 3), (7, .ireturn, 1)]
theorem dcX10_off_0 : tbX10_off_0.all (fun q => decide (decode cX10_off q.1 = .ok q.2)) = true := by decide +kernel
def tbX10_judge_0 : List (Nat × Instr × Nat) := [(0, .aload_n 0, 1), (1, .iload_n 1, 1), (2, .invokevirtual 242, 3), (5, .astore_n 3, 1), (6, .aload_n 3, 1), (7, .ifnonnull 5, 3), (10, .iconst (-1), 1), (11, .ireturn, 1), (12, .aload_n 3, 1), (13, .invokevirtual 246, 3), (16, .ifCond .eq 13, 3), (19, .aload_n 3, 1), (20, .invokevirtual 249, 3), (23, .ifCond .eq 6, 3), (26, .bipush (-12), 2), (28, .ireturn, 1), (29, .aload_n 0, 1), (30, .getfield 60, 3), (33, .aload_n 3, 1), (34, .iload_n 2, 1), (35, .invokevirtual 252, 3), (38, .ireturn, 1)]
theorem dcX10_judge_0 : tbX10_judge_0.all (fun q => decide (decode cX10_judge q.1 = .ok q.2)) = true := by decide +kernel
def tbX10_image_0 : List (Nat × Instr × Nat) := [(0, .aload_n 0, 1), (1, .getfield 52, 3), (4, .aload_n 0, 1), (5, .getfield 48, 3), (8, .invokevirtual 256, 3), (11, .aload_n 0, 1), (12, .iconst 1, 1), (13, .putfield 260, 3), (16, .aload_n 0, 1), (17, .getfield 48, 3), (20, .getfield 107, 3), (23, .bipush 12, 2), (25, .invokevirtual 111, 3), (28, .ireturn, 1)]
theorem dcX10_image_0 : tbX10_image_0.all (fun q => decide (decode cX10_image q.1 = .ok q.2)) = true := by decide +kernel
def tbX10_undo_0 : List (Nat × Instr × Nat) := [(0, .aload_n 0, 1), (1, .getfield 260, 3), (4, .ifCond .ne 6, 3), (7, .bipush (-3), 2), (9, .ireturn, 1), (10, .aload_n 0, 1), (11, .getfield 48, 3), (14, .aload_n 0, 1), (15, .getfield 52, 3), (18, .invokevirtual 256, 3), (21, .aload_n 0, 1), (22, .getfield 41, 3), (25, .aload_n 0, 1), (26, .invokevirtual 264, 3), (29, .invokevirtual 138, 3), (32, .aload_n 0, 1), (33, .getfield 48, 3), (36, .getfield 107, 3), (39, .bipush 12, 2), (41, .invokevirtual 111, 3), (44, .ireturn, 1)]
theorem dcX10_undo_0 : tbX10_undo_0.all (fun q => decide (decode cX10_undo q.1 = .ok q.2)) = true := by decide +kernel
def tbX10_part_0 : List (Nat × Instr × Nat) := [(0, .aload_n 0, 1), (1, .getfield 69, 3), (4, .iload_n 1, 1), (5, .iload_n 2, 1), (6, .iload_n 3, 1), (7, .invokevirtual 268, 3), (10, .ireturn, 1)]
theorem dcX10_part_0 : tbX10_part_0.all (fun q => decide (decode cX10_part q.1 = .ok q.2)) = true := by decide +kernel
def tbX10_trace_0 : List (Nat × Instr × Nat) := [(0, .aload_n 0, 1), (1, .getfield 69, 3), (4, .iload_n 1, 1), (5, .invokevirtual 271, 3), (8, .ireturn, 1)]
theorem dcX10_trace_0 : tbX10_trace_0.all (fun q => decide (decode cX10_trace q.1 = .ok q.2)) = true := by decide +kernel
def tbX10_taken_0 : List (Nat × Instr × Nat) := [(0, .iload_n 2, 1), (1, .ifCond .lt 9, 3), (4, .iload_n 2, 1), (5, .bipush 6, 2), (7, .if_icmp .le 6, 3), (10, .bipush (-2), 2), (12, .ireturn, 1), (13, .aload_n 0, 1), (14, .getfield 12, 3), (17, .iload_n 1, 1), (18, .invokevirtual 88, 3), (21, .ifCond .ne 6, 3), (24, .bipush (-11), 2), (26, .ireturn, 1), (27, .aload_n 0, 1), (28, .getfield 12, 3), (31, .iload_n 1, 1), (32, .invokevirtual 92, 3), (35, .istore_n 3, 1), (36, .iload_n 3, 1), (37, .iload_n 2, 1), (38, .invokestatic 273, 3), (41, .ifCond .eq 7, 3), (44, .iload_n 3, 1), (45, .goto 5, 3), (48, .bipush (-12), 2), (50, .ireturn, 1)]
theorem dcX10_taken_0 : tbX10_taken_0.all (fun q => decide (decode cX10_taken q.1 = .ok q.2)) = true := by decide +kernel
def tbX10_count_0 : List (Nat × Instr × Nat) := [(0, .iload_n 1, 1), (1, .tableswitch 105 0 6 #[43, 51, 56, 67, 78, 89, 97], 43), (44, .aload_n 0, 1), (45, .getfield 12, 3), (48, .invokevirtual 80, 3), (51, .ireturn, 1), (52, .aload_n 0, 1), (53, .getfield 124, 3), (56, .ireturn, 1), (57, .aload_n 0, 1), (58, .getfield 48, 3), (61, .getfield 171, 3), (64, .invokevirtual 179, 3), (67, .ireturn, 1), (68, .aload_n 0, 1), (69, .getfield 48, 3), (72, .getfield 236, 3), (75, .invokevirtual 179, 3), (78, .ireturn, 1), (79, .aload_n 0, 1), (80, .getfield 48, 3), (83, .getfield 220, 3), (86, .invokevirtual 179, 3), (89, .ireturn, 1), (90, .aload_n 0, 1), (91, .getfield 21, 3), (94, .invokevirtual 123, 3), (97, .ireturn, 1), (98, .aload_n 0, 1), (99, .getfield 69, 3), (102, .invokevirtual 277, 3), (105, .ireturn, 1), (106, .bipush (-2), 2), (108, .ireturn, 1)]
theorem dcX10_count_0 : tbX10_count_0.all (fun q => decide (decode cX10_count q.1 = .ok q.2)) = true := by decide +kernel
def tbX10_tape_0 : List (Nat × Instr × Nat) := [(0, .aload_n 0, 1), (1, .iload_n 1, 1), (2, .invokevirtual 242, 3), (5, .astore 4, 2), (7, .aload 4, 2), (9, .ifnonnull 5, 3), (12, .iconst (-1), 1), (13, .ireturn, 1), (14, .iload_n 2, 1), (15, .iconst (-1), 1), (16, .if_icmp .ne 12, 3), (19, .aload 4, 2), (21, .iconst (-1), 1), (22, .iconst 0, 1), (23, .invokevirtual 280, 3), (26, .iconst 1, 1), (27, .ireturn, 1), (28, .iload_n 2, 1), (29, .ifCond .lt 14, 3), (32, .iload_n 2, 1), (33, .iconst 4, 1), (34, .if_icmp .gt 9, 3), (37, .iload_n 3, 1), (38, .bipush 60, 2), (40, .if_icmp .le 6, 3), (43, .bipush (-2), 2), (45, .ireturn, 1), (46, .iload_n 3, 1), (47, .ifCond .ge 6, 3), (50, .bipush (-14), 2), (52, .ireturn, 1), (53, .aload 4, 2), (55, .iload_n 2, 1), (56, .iload_n 3, 1), (57, .invokevirtual 280, 3), (60, .iconst 1, 1), (61, .ireturn, 1)]
theorem dcX10_tape_0 : tbX10_tape_0.all (fun q => decide (decode cX10_tape q.1 = .ok q.2)) = true := by decide +kernel
def tbX10_item_0 : List (Nat × Instr × Nat) := [(0, .aload_n 0, 1), (1, .iload_n 1, 1), (2, .invokevirtual 242, 3), (5, .astore 5, 2), (7, .aload 5, 2), (9, .ifnonnull 5, 3), (12, .iconst (-1), 1), (13, .ireturn, 1), (14, .aload 5, 2), (16, .invokevirtual 246, 3), (19, .ifCond .ne 6, 3), (22, .bipush (-11), 2), (24, .ireturn, 1), (25, .aload 5, 2), (27, .iload_n 2, 1), (28, .invokevirtual 283, 3), (31, .ifCond .ne 6, 3), (34, .bipush (-13), 2), (36, .ireturn, 1), (37, .aload 5, 2), (39, .iload_n 2, 1), (40, .lload_n 3, 1), (41, .invokevirtual 284, 3), (44, .iconst 1, 1), (45, .ireturn, 1)]
theorem dcX10_item_0 : tbX10_item_0.all (fun q => decide (decode cX10_item q.1 = .ok q.2)) = true := by decide +kernel
def tbX10_read_0 : List (Nat × Instr × Nat) := [(0, .aload_n 0, 1), (1, .iload_n 1, 1), (2, .invokevirtual 242, 3), (5, .astore_n 3, 1), (6, .aload_n 3, 1), (7, .ifnull 19, 3), (10, .aload_n 3, 1), (11, .iload_n 2, 1), (12, .invokevirtual 283, 3), (15, .ifCond .eq 11, 3), (18, .aload_n 3, 1), (19, .iload_n 2, 1), (20, .invokevirtual 287, 3), (23, .goto 6, 3), (26, .ldc2_w 208, 3), (29, .lreturn, 1)]
theorem dcX10_read_0 : tbX10_read_0.all (fun q => decide (decode cX10_read q.1 = .ok q.2)) = true := by decide +kernel
def tbX10_shift_0 : List (Nat × Instr × Nat) := [(0, .aload_n 0, 1), (1, .iload_n 1, 1), (2, .invokevirtual 242, 3), (5, .astore 6, 2), (7, .aload_n 0, 1), (8, .iload_n 3, 1), (9, .invokevirtual 242, 3), (12, .astore 7, 2), (14, .aload 6, 2), (16, .ifnull 8, 3), (19, .aload 7, 2), (21, .ifnonnull 5, 3), (24, .iconst (-1), 1), (25, .ireturn, 1), (26, .aload 6, 2), (28, .invokevirtual 246, 3), (31, .ifCond .eq 11, 3), (34, .aload 7, 2), (36, .invokevirtual 246, 3), (39, .ifCond .ne 6, 3), (42, .bipush (-11), 2), (44, .ireturn, 1), (45, .aload 6, 2), (47, .invokevirtual 249, 3), (50, .aload 7, 2), (52, .invokevirtual 249, 3), (55, .if_icmp .eq 6, 3), (58, .bipush (-12), 2), (60, .ireturn, 1), (61, .aload 6, 2), (63, .iload_n 2, 1), (64, .iload 5, 2), (66, .invokevirtual 290, 3), (69, .ifCond .eq 15, 3), (72, .aload 7, 2), (74, .iload 4, 2), (76, .iload 5, 2), (78, .invokevirtual 290, 3), (81, .ifCond .ne 6, 3), (84, .bipush (-13), 2), (86, .ireturn, 1), (87, .aload 7, 2), (89, .iload 4, 2), (91, .aload 6, 2), (93, .iload_n 2, 1), (94, .iload 5, 2), (96, .invokevirtual 293, 3), (99, .iload 5, 2)]
theorem dcX10_shift_0 : tbX10_shift_0.all (fun q => decide (decode cX10_shift q.1 = .ok q.2)) = true := by decide +kernel
def tbX10_shift_1 : List (Nat × Instr × Nat) := [(101, .ireturn, 1)]
theorem dcX10_shift_1 : tbX10_shift_1.all (fun q => decide (decode cX10_shift q.1 = .ok q.2)) = true := by decide +kernel
def tbX10_isAct_0 : List (Nat × Instr × Nat) := [(0, .iload_n 0, 1), (1, .ifCond .lt 13, 3), (4, .iload_n 0, 1), (5, .bipush 7, 2), (7, .if_icmp .gt 7, 3), (10, .iconst 1, 1), (11, .goto 4, 3), (14, .iconst 0, 1), (15, .ireturn, 1)]
theorem dcX10_isAct_0 : tbX10_isAct_0.all (fun q => decide (decode cX10_isAct q.1 = .ok q.2)) = true := by decide +kernel
def tbX10_isOver_0 : List (Nat × Instr × Nat) := [(0, .aload_n 0, 1), (1, .getfield 41, 3), (4, .aload_n 0, 1), (5, .getfield 48, 3), (8, .getfield 107, 3), (11, .invokevirtual 297, 3), (14, .ireturn, 1)]
theorem dcX10_isOver_0 : tbX10_isOver_0.all (fun q => decide (decode cX10_isOver q.1 = .ok q.2)) = true := by decide +kernel
def tbX10_heldLaw_0 : List (Nat × Instr × Nat) := [(0, .aload_n 0, 1), (1, .getfield 48, 3), (4, .getfield 135, 3), (7, .istore_n 1, 1), (8, .iload_n 1, 1), (9, .ifCond .lt 21, 3), (12, .iload_n 1, 1), (13, .aload_n 0, 1), (14, .getfield 27, 3), (17, .arraylength, 1), (18, .if_icmp .ge 12, 3), (21, .aload_n 0, 1), (22, .getfield 27, 3), (25, .iload_n 1, 1), (26, .aaload, 1), (27, .goto 7, 3), (30, .aload_n 0, 1), (31, .getfield 32, 3), (34, .astore_n 2, 1), (35, .aload_n 2, 1), (36, .ifnonnull 10, 3), (39, .aload_n 0, 1), (40, .getfield 32, 3), (43, .goto 4, 3), (46, .aload_n 2, 1), (47, .areturn, 1)]
theorem dcX10_heldLaw_0 : tbX10_heldLaw_0.all (fun q => decide (decode cX10_heldLaw q.1 = .ok q.2)) = true := by decide +kernel
def tbX10_tapeOf_0 : List (Nat × Instr × Nat) := [(0, .iload_n 1, 1), (1, .ifCond .lt 21, 3), (4, .iload_n 1, 1), (5, .aload_n 0, 1), (6, .getfield 75, 3), (9, .arraylength, 1), (10, .if_icmp .ge 12, 3), (13, .aload_n 0, 1), (14, .getfield 75, 3), (17, .iload_n 1, 1), (18, .aaload, 1), (19, .goto 4, 3), (22, .aconst_null, 1), (23, .areturn, 1)]
theorem dcX10_tapeOf_0 : tbX10_tapeOf_0.all (fun q => decide (decode cX10_tapeOf q.1 = .ok q.2)) = true := by decide +kernel
def tbX10_addOrClear_0 : List (Nat × Instr × Nat) := [(0, .iload_n 1, 1), (1, .iconst (-1), 1), (2, .if_icmp .ne 9, 3), (5, .aload_n 0, 1), (6, .invokevirtual 300, 3), (9, .iconst 0, 1), (10, .ireturn, 1), (11, .aload_n 0, 1), (12, .iload_n 1, 1), (13, .invokevirtual 301, 3), (16, .ifCond .eq 10, 3), (19, .aload_n 0, 1), (20, .invokevirtual 179, 3), (23, .goto 5, 3), (26, .bipush (-4), 2), (28, .ireturn, 1)]
theorem dcX10_addOrClear_0 : tbX10_addOrClear_0.all (fun q => decide (decode cX10_addOrClear q.1 = .ok q.2)) = true := by decide +kernel
def tbX11_init_0 : List (Nat × Instr × Nat) := [(0, .aload_n 0, 1), (1, .invokespecial 3, 3), (4, .aload_n 0, 1), (5, .bipush 10, 2), (7, .newarray .int, 2), (9, .putfield 9, 3), (12, .aload_n 0, 1), (13, .bipush 10, 2), (15, .newarray .int, 2), (17, .putfield 15, 3), (20, .aload_n 0, 1), (21, .bipush 10, 2), (23, .newarray .int, 2), (25, .putfield 18, 3), (28, .aload_n 0, 1), (29, .bipush 15, 2), (31, .newarray .int, 2), (33, .dup, 1), (34, .iconst 0, 1), (35, .bipush 10, 2), (37, .iastore, 1), (38, .dup, 1), (39, .iconst 1, 1), (40, .bipush 10, 2), (42, .iastore, 1), (43, .dup, 1), (44, .iconst 2, 1), (45, .bipush 10, 2), (47, .iastore, 1), (48, .dup, 1), (49, .iconst 3, 1), (50, .bipush 10, 2), (52, .iastore, 1), (53, .dup, 1), (54, .iconst 4, 1), (55, .bipush 10, 2), (57, .iastore, 1), (58, .dup, 1), (59, .iconst 5, 1), (60, .bipush 10, 2), (62, .iastore, 1), (63, .dup, 1), (64, .bipush 6, 2), (66, .iconst 0, 1), (67, .iastore, 1), (68, .dup, 1), (69, .bipush 7, 2), (71, .bipush 20, 2)]
theorem dcX11_init_0 : tbX11_init_0.all (fun q => decide (decode cX11_init q.1 = .ok q.2)) = true := by decide +kernel
def tbX11_init_1 : List (Nat × Instr × Nat) := [(73, .iastore, 1), (74, .dup, 1), (75, .bipush 8, 2), (77, .iconst 0, 1), (78, .iastore, 1), (79, .dup, 1), (80, .bipush 9, 2), (82, .iconst 0, 1), (83, .iastore, 1), (84, .dup, 1), (85, .bipush 10, 2), (87, .iconst 0, 1), (88, .iastore, 1), (89, .dup, 1), (90, .bipush 11, 2), (92, .iconst 0, 1), (93, .iastore, 1), (94, .dup, 1), (95, .bipush 12, 2), (97, .iconst 0, 1), (98, .iastore, 1), (99, .dup, 1), (100, .bipush 13, 2), (102, .iconst 0, 1), (103, .iastore, 1), (104, .dup, 1), (105, .bipush 14, 2), (107, .iconst 0, 1), (108, .iastore, 1), (109, .putfield 21, 3), (112, .aload_n 0, 1), (113, .bipush 100, 2), (115, .newarray .byte, 2), (117, .putfield 24, 3), (120, .aload_n 0, 1), (121, .iconst (-1), 1), (122, .putfield 28, 3), (125, .aload_n 0, 1), (126, .bipush 7, 2), (128, .newarray .int, 2), (130, .putfield 32, 3), (133, .aload_n 0, 1), (134, .bipush 70, 2), (136, .newarray .int, 2), (138, .putfield 35, 3), (141, .aload_n 0, 1), (142, .bipush 70, 2), (144, .newarray .int, 2)]
theorem dcX11_init_1 : tbX11_init_1.all (fun q => decide (decode cX11_init q.1 = .ok q.2)) = true := by decide +kernel
def tbX11_init_2 : List (Nat × Instr × Nat) := [(146, .putfield 38, 3), (149, .aload_n 0, 1), (150, .bipush 70, 2), (152, .newarray .int, 2), (154, .putfield 41, 3), (157, .aload_n 0, 1), (158, .bipush 70, 2), (160, .newarray .int, 2), (162, .putfield 44, 3), (165, .aload_n 0, 1), (166, .sipush 700, 3), (169, .newarray .int, 2), (171, .putfield 47, 3), (174, .aload_n 0, 1), (175, .sipush 700, 3), (178, .newarray .int, 2), (180, .putfield 50, 3), (183, .aload_n 0, 1), (184, .sipush 700, 3), (187, .newarray .int, 2), (189, .putfield 53, 3), (192, .aload_n 0, 1), (193, .sipush 700, 3), (196, .newarray .int, 2), (198, .putfield 56, 3), (201, .aload_n 0, 1), (202, .bipush 31, 2), (204, .newarray .int, 2), (206, .dup, 1), (207, .iconst 0, 1), (208, .bipush 103, 2), (210, .iastore, 1), (211, .dup, 1), (212, .iconst 1, 1), (213, .bipush 111, 2), (215, .iastore, 1), (216, .dup, 1), (217, .iconst 2, 1), (218, .bipush 32, 2), (220, .iastore, 1), (221, .dup, 1), (222, .iconst 3, 1), (223, .bipush 110, 2), (225, .iastore, 1), (226, .dup, 1), (227, .iconst 4, 1), (228, .bipush 111, 2), (230, .iastore, 1)]
theorem dcX11_init_2 : tbX11_init_2.all (fun q => decide (decode cX11_init q.1 = .ok q.2)) = true := by decide +kernel
def tbX11_init_3 : List (Nat × Instr × Nat) := [(231, .dup, 1), (232, .iconst 5, 1), (233, .bipush 116, 2), (235, .iastore, 1), (236, .dup, 1), (237, .bipush 6, 2), (239, .bipush 32, 2), (241, .iastore, 1), (242, .dup, 1), (243, .bipush 7, 2), (245, .bipush 104, 2), (247, .iastore, 1), (248, .dup, 1), (249, .bipush 8, 2), (251, .bipush 117, 2), (253, .iastore, 1), (254, .dup, 1), (255, .bipush 9, 2), (257, .bipush 114, 2), (259, .iastore, 1), (260, .dup, 1), (261, .bipush 10, 2), (263, .bipush 116, 2), (265, .iastore, 1), (266, .dup, 1), (267, .bipush 11, 2), (269, .bipush 32, 2), (271, .iastore, 1), (272, .dup, 1), (273, .bipush 12, 2), (275, .bipush 108, 2), (277, .iastore, 1), (278, .dup, 1), (279, .bipush 13, 2), (281, .bipush 101, 2), (283, .iastore, 1), (284, .dup, 1), (285, .bipush 14, 2), (287, .bipush 97, 2), (289, .iastore, 1), (290, .dup, 1), (291, .bipush 15, 2), (293, .bipush 100, 2), (295, .iastore, 1), (296, .dup, 1), (297, .bipush 16, 2), (299, .bipush 32, 2), (301, .iastore, 1)]
theorem dcX11_init_3 : tbX11_init_3.all (fun q => decide (decode cX11_init q.1 = .ok q.2)) = true := by decide +kernel
def tbX11_init_4 : List (Nat × Instr × Nat) := [(302, .dup, 1), (303, .bipush 17, 2), (305, .bipush 104, 2), (307, .iastore, 1), (308, .dup, 1), (309, .bipush 18, 2), (311, .bipush 105, 2), (313, .iastore, 1), (314, .dup, 1), (315, .bipush 19, 2), (317, .bipush 116, 2), (319, .iastore, 1), (320, .dup, 1), (321, .bipush 20, 2), (323, .bipush 32, 2), (325, .iastore, 1), (326, .dup, 1), (327, .bipush 21, 2), (329, .bipush 108, 2), (331, .iastore, 1), (332, .dup, 1), (333, .bipush 22, 2), (335, .bipush 111, 2), (337, .iastore, 1), (338, .dup, 1), (339, .bipush 23, 2), (341, .bipush 111, 2), (343, .iastore, 1), (344, .dup, 1), (345, .bipush 24, 2), (347, .bipush 107, 2), (349, .iastore, 1), (350, .dup, 1), (351, .bipush 25, 2), (353, .bipush 32, 2), (355, .iastore, 1), (356, .dup, 1), (357, .bipush 26, 2), (359, .bipush 102, 2), (361, .iastore, 1), (362, .dup, 1), (363, .bipush 27, 2), (365, .bipush 111, 2), (367, .iastore, 1), (368, .dup, 1), (369, .bipush 28, 2), (371, .bipush 114, 2), (373, .iastore, 1)]
theorem dcX11_init_4 : tbX11_init_4.all (fun q => decide (decode cX11_init q.1 = .ok q.2)) = true := by decide +kernel
def tbX11_init_5 : List (Nat × Instr × Nat) := [(374, .dup, 1), (375, .bipush 29, 2), (377, .bipush 100, 2), (379, .iastore, 1), (380, .dup, 1), (381, .bipush 30, 2), (383, .bipush 32, 2), (385, .iastore, 1), (386, .putfield 59, 3), (389, .aload_n 0, 1), (390, .bipush 100, 2), (392, .newarray .boolean, 2), (394, .putfield 62, 3), (397, .aload_n 0, 1), (398, .bipush 12, 2), (400, .newarray .int, 2), (402, .putfield 66, 3), (405, .aload_n 0, 1), (406, .bipush 15, 2), (408, .newarray .int, 2), (410, .putfield 69, 3), (413, .aload_n 0, 1), (414, .iconst 4, 1), (415, .newarray .int, 2), (417, .putfield 72, 3), (420, .aload_n 0, 1), (421, .bipush 12, 2), (423, .newarray .int, 2), (425, .putfield 75, 3), (428, .aload_n 0, 1), (429, .bipush 6, 2), (431, .newarray .int, 2), (433, .dup, 1), (434, .iconst 0, 1), (435, .iconst (-1), 1), (436, .iastore, 1), (437, .dup, 1), (438, .iconst 1, 1), (439, .iconst (-1), 1), (440, .iastore, 1), (441, .dup, 1), (442, .iconst 2, 1), (443, .iconst (-1), 1), (444, .iastore, 1), (445, .dup, 1), (446, .iconst 3, 1), (447, .iconst (-1), 1), (448, .iastore, 1)]
theorem dcX11_init_5 : tbX11_init_5.all (fun q => decide (decode cX11_init q.1 = .ok q.2)) = true := by decide +kernel
def tbX11_init_6 : List (Nat × Instr × Nat) := [(449, .dup, 1), (450, .iconst 4, 1), (451, .iconst (-1), 1), (452, .iastore, 1), (453, .dup, 1), (454, .iconst 5, 1), (455, .iconst (-1), 1), (456, .iastore, 1), (457, .putfield 78, 3), (460, .aload_n 0, 1), (461, .bipush 6, 2), (463, .newarray .int, 2), (465, .putfield 81, 3), (468, .aload_n 0, 1), (469, .sipush 360, 3), (472, .newarray .long, 2), (474, .putfield 84, 3), (477, .aload_n 0, 1), (478, .bipush 60, 2), (480, .newarray .long, 2), (482, .putfield 88, 3), (485, .aload_n 0, 1), (486, .bipush 15, 2), (488, .newarray .int, 2), (490, .putfield 91, 3), (493, .aload_n 0, 1), (494, .bipush 12, 2), (496, .newarray .int, 2), (498, .putfield 94, 3), (501, .aload_n 0, 1), (502, .bipush 12, 2), (504, .newarray .int, 2), (506, .putfield 97, 3), (509, .aload_n 0, 1), (510, .iconst 4, 1), (511, .newarray .int, 2), (513, .putfield 100, 3), (516, .aload_n 0, 1), (517, .bipush 20, 2), (519, .newarray .int, 2), (521, .putfield 103, 3), (524, .return_, 1)]
theorem dcX11_init_6 : tbX11_init_6.all (fun q => decide (decode cX11_init q.1 = .ok q.2)) = true := by decide +kernel
def tbX11_in_0 : List (Nat × Instr × Nat) := [(0, .iload_n 0, 1), (1, .iload_n 1, 1), (2, .if_icmp .lt 12, 3), (5, .iload_n 0, 1), (6, .iload_n 2, 1), (7, .if_icmp .gt 7, 3), (10, .iconst 1, 1), (11, .goto 4, 3), (14, .iconst 0, 1), (15, .ireturn, 1)]
theorem dcX11_in_0 : tbX11_in_0.all (fun q => decide (decode cX11_in q.1 = .ok q.2)) = true := by decide +kernel
def tbX11_sizeOf_0 : List (Nat × Instr × Nat) := [(0, .iload_n 0, 1), (1, .ifCond .ge 8, 3), (4, .iload_n 0, 1), (5, .ineg, 1), (6, .goto 4, 3), (9, .iload_n 0, 1), (10, .ireturn, 1)]
theorem dcX11_sizeOf_0 : tbX11_sizeOf_0.all (fun q => decide (decode cX11_sizeOf q.1 = .ok q.2)) = true := by decide +kernel
def tbX11_held_0 : List (Nat × Instr × Nat) := [(0, .iload_n 0, 1), (1, .ifCond .ge 7, 3), (4, .iconst 0, 1), (5, .goto 13, 3), (8, .iload_n 0, 1), (9, .iload_n 1, 1), (10, .if_icmp .le 7, 3), (13, .iload_n 1, 1), (14, .goto 4, 3), (17, .iload_n 0, 1), (18, .ireturn, 1)]
theorem dcX11_held_0 : tbX11_held_0.all (fun q => decide (decode cX11_held q.1 = .ok q.2)) = true := by decide +kernel
def tbX11_isPlace_0 : List (Nat × Instr × Nat) := [(0, .iload_n 1, 1), (1, .iconst 0, 1), (2, .aload_n 0, 1), (3, .getfield 109, 3), (6, .iconst 1, 1), (7, .isub, 1), (8, .invokestatic 112, 3), (11, .ireturn, 1)]
theorem dcX11_isPlace_0 : tbX11_isPlace_0.all (fun q => decide (decode cX11_isPlace q.1 = .ok q.2)) = true := by decide +kernel
def tbX11_place_0 : List (Nat × Instr × Nat) := [(0, .iload_n 1, 1), (1, .iconst 0, 1), (2, .bipush 6, 2), (4, .invokestatic 112, 3), (7, .ifCond .eq 12, 3), (10, .iload_n 3, 1), (11, .iconst 0, 1), (12, .iconst 5, 1), (13, .invokestatic 112, 3), (16, .ifCond .ne 5, 3), (19, .iconst (-1), 1), (20, .ireturn, 1), (21, .iload_n 2, 1), (22, .iconst 0, 1), (23, .bipush 9, 2), (25, .invokestatic 112, 3), (28, .ifCond .ne 6, 3), (31, .bipush (-2), 2), (33, .ireturn, 1), (34, .aload_n 0, 1), (35, .getfield 109, 3), (38, .bipush 10, 2), (40, .if_icmp .ne 6, 3), (43, .bipush (-4), 2), (45, .ireturn, 1), (46, .aload_n 0, 1), (47, .getfield 9, 3), (50, .aload_n 0, 1), (51, .getfield 109, 3), (54, .iload_n 1, 1), (55, .iastore, 1), (56, .aload_n 0, 1), (57, .getfield 15, 3), (60, .aload_n 0, 1), (61, .getfield 109, 3), (64, .iload_n 2, 1), (65, .iastore, 1), (66, .aload_n 0, 1), (67, .getfield 18, 3), (70, .aload_n 0, 1), (71, .getfield 109, 3), (74, .iload_n 3, 1), (75, .iastore, 1), (76, .aload_n 0, 1), (77, .dup, 1), (78, .getfield 109, 3), (81, .iconst 1, 1), (82, .iadd, 1)]
theorem dcX11_place_0 : tbX11_place_0.all (fun q => decide (decode cX11_place q.1 = .ok q.2)) = true := by decide +kernel
def tbX11_place_1 : List (Nat × Instr × Nat) := [(83, .putfield 109, 3), (86, .aload_n 0, 1), (87, .getfield 109, 3), (90, .iconst 1, 1), (91, .isub, 1), (92, .ireturn, 1)]
theorem dcX11_place_1 : tbX11_place_1.all (fun q => decide (decode cX11_place q.1 = .ok q.2)) = true := by decide +kernel
def tbX11_of_0 : List (Nat × Instr × Nat) := [(0, .aload_n 0, 1), (1, .iload_n 1, 1), (2, .invokevirtual 116, 3), (5, .ifCond .ne 5, 3), (8, .iconst (-1), 1), (9, .ireturn, 1), (10, .iload_n 2, 1), (11, .tableswitch 46 0 2 #[25, 32, 39], 25), (36, .aload_n 0, 1), (37, .getfield 9, 3), (40, .iload_n 1, 1), (41, .iaload, 1), (42, .ireturn, 1), (43, .aload_n 0, 1), (44, .getfield 15, 3), (47, .iload_n 1, 1), (48, .iaload, 1), (49, .ireturn, 1), (50, .aload_n 0, 1), (51, .getfield 18, 3), (54, .iload_n 1, 1), (55, .iaload, 1), (56, .ireturn, 1), (57, .iconst (-1), 1), (58, .ireturn, 1)]
theorem dcX11_of_0 : tbX11_of_0.all (fun q => decide (decode cX11_of q.1 = .ok q.2)) = true := by decide +kernel
def tbX11_isOver_0 : List (Nat × Instr × Nat) := [(0, .aload_n 0, 1), (1, .getfield 21, 3), (4, .bipush 12, 2), (6, .iaload, 1), (7, .aload_n 0, 1), (8, .getfield 109, 3), (11, .if_icmp .lt 7, 3), (14, .iconst 1, 1), (15, .goto 4, 3), (18, .iconst 0, 1), (19, .ireturn, 1)]
theorem dcX11_isOver_0 : tbX11_isOver_0.all (fun q => decide (decode cX11_isOver q.1 = .ok q.2)) = true := by decide +kernel
def tbX11_mostOf_0 : List (Nat × Instr × Nat) := [(0, .iload_n 1, 1), (1, .bipush 9, 2), (3, .if_icmp .ne 8, 3), (6, .bipush 9, 2), (8, .goto 28, 3), (11, .iload_n 1, 1), (12, .bipush 12, 2), (14, .if_icmp .ne 10, 3), (17, .aload_n 0, 1), (18, .getfield 109, 3), (21, .goto 15, 3), (24, .iload_n 1, 1), (25, .bipush 13, 2), (27, .if_icmp .ne 7, 3), (30, .iconst 1, 1), (31, .goto 5, 3), (34, .bipush 99, 2), (36, .ireturn, 1)]
theorem dcX11_mostOf_0 : tbX11_mostOf_0.all (fun q => decide (decode cX11_mostOf q.1 = .ok q.2)) = true := by decide +kernel
def tbX11_set_0 : List (Nat × Instr × Nat) := [(0, .iload_n 1, 1), (1, .iconst 0, 1), (2, .bipush 13, 2), (4, .invokestatic 112, 3), (7, .ifCond .ne 5, 3), (10, .iconst (-1), 1), (11, .ireturn, 1), (12, .iload_n 2, 1), (13, .iconst 0, 1), (14, .aload_n 0, 1), (15, .iload_n 1, 1), (16, .invokevirtual 120, 3), (19, .invokestatic 112, 3), (22, .ifCond .ne 6, 3), (25, .bipush (-2), 2), (27, .ireturn, 1), (28, .aload_n 0, 1), (29, .getfield 21, 3), (32, .iload_n 1, 1), (33, .iaload, 1), (34, .istore_n 3, 1), (35, .aload_n 0, 1), (36, .getfield 21, 3), (39, .iload_n 1, 1), (40, .iload_n 2, 1), (41, .iastore, 1), (42, .iload_n 3, 1), (43, .ireturn, 1)]
theorem dcX11_set_0 : tbX11_set_0.all (fun q => decide (decode cX11_set q.1 = .ok q.2)) = true := by decide +kernel
def tbX11_learnt_0 : List (Nat × Instr × Nat) := [(0, .aload_n 0, 1), (1, .getfield 21, 3), (4, .bipush 6, 2), (6, .iaload, 1), (7, .istore_n 1, 1), (8, .iconst 0, 1), (9, .istore_n 2, 1), (10, .iload_n 2, 1), (11, .bipush 6, 2), (13, .if_icmp .ge 18, 3), (16, .iload_n 1, 1), (17, .aload_n 0, 1), (18, .getfield 21, 3), (21, .iload_n 2, 1), (22, .iaload, 1), (23, .iadd, 1), (24, .istore_n 1, 1), (25, .iinc 2 1, 3), (28, .goto (-18), 3), (31, .iload_n 1, 1), (32, .ireturn, 1)]
theorem dcX11_learnt_0 : tbX11_learnt_0.all (fun q => decide (decode cX11_learnt q.1 = .ok q.2)) = true := by decide +kernel
def tbX11_nowOf_0 : List (Nat × Instr × Nat) := [(0, .iload_n 1, 1), (1, .bipush 15, 2), (3, .if_icmp .ne 10, 3), (6, .aload_n 0, 1), (7, .invokevirtual 124, 3), (10, .goto 9, 3), (13, .aload_n 0, 1), (14, .getfield 21, 3), (17, .iload_n 1, 1), (18, .iaload, 1), (19, .ireturn, 1)]
theorem dcX11_nowOf_0 : tbX11_nowOf_0.all (fun q => decide (decode cX11_nowOf q.1 = .ok q.2)) = true := by decide +kernel
def tbX11_now_0 : List (Nat × Instr × Nat) := [(0, .iload_n 1, 1), (1, .iconst 0, 1), (2, .bipush 15, 2), (4, .invokestatic 112, 3), (7, .ifCond .eq 11, 3), (10, .aload_n 0, 1), (11, .iload_n 1, 1), (12, .invokevirtual 128, 3), (15, .goto 4, 3), (18, .iconst (-1), 1), (19, .ireturn, 1)]
theorem dcX11_now_0 : tbX11_now_0.all (fun q => decide (decode cX11_now q.1 = .ok q.2)) = true := by decide +kernel
def tbX11_feed_0 : List (Nat × Instr × Nat) := [(0, .iload_n 1, 1), (1, .iconst 0, 1), (2, .bipush 127, 2), (4, .invokestatic 112, 3), (7, .ifCond .ne 6, 3), (10, .bipush (-2), 2), (12, .ireturn, 1), (13, .aload_n 0, 1), (14, .getfield 131, 3), (17, .bipush 100, 2), (19, .if_icmp .ne 6, 3), (22, .bipush (-4), 2), (24, .ireturn, 1), (25, .aload_n 0, 1), (26, .getfield 24, 3), (29, .aload_n 0, 1), (30, .getfield 131, 3), (33, .iload_n 1, 1), (34, .i2b, 1), (35, .bastore, 1), (36, .aload_n 0, 1), (37, .dup, 1), (38, .getfield 131, 3), (41, .iconst 1, 1), (42, .iadd, 1), (43, .putfield 131, 3), (46, .aload_n 0, 1), (47, .getfield 131, 3), (50, .ireturn, 1)]
theorem dcX11_feed_0 : tbX11_feed_0.all (fun q => decide (decode cX11_feed q.1 = .ok q.2)) = true := by decide +kernel
def tbX11_isHere_0 : List (Nat × Instr × Nat) := [(0, .aload_n 0, 1), (1, .getfield 134, 3), (4, .ifCond .ge 31, 3), (7, .aload_n 0, 1), (8, .getfield 137, 3), (11, .aload_n 0, 1), (12, .getfield 131, 3), (15, .if_icmp .ge 20, 3), (18, .aload_n 0, 1), (19, .getfield 24, 3), (22, .aload_n 0, 1), (23, .getfield 137, 3), (26, .baload, 1), (27, .iload_n 1, 1), (28, .if_icmp .ne 7, 3), (31, .iconst 1, 1), (32, .goto 4, 3), (35, .iconst 0, 1), (36, .ireturn, 1)]
theorem dcX11_isHere_0 : tbX11_isHere_0.all (fun q => decide (decode cX11_isHere q.1 = .ok q.2)) = true := by decide +kernel
def tbX11_faulty_0 : List (Nat × Instr × Nat) := [(0, .aload_n 0, 1), (1, .getfield 134, 3), (4, .ifCond .ge 11, 3), (7, .aload_n 0, 1), (8, .aload_n 0, 1), (9, .getfield 137, 3), (12, .putfield 134, 3), (15, .return_, 1)]
theorem dcX11_faulty_0 : tbX11_faulty_0.all (fun q => decide (decode cX11_faulty q.1 = .ok q.2)) = true := by decide +kernel
def tbX11_takes_0 : List (Nat × Instr × Nat) := [(0, .aload_n 0, 1), (1, .iload_n 1, 1), (2, .invokevirtual 140, 3), (5, .ifCond .eq 16, 3), (8, .aload_n 0, 1), (9, .dup, 1), (10, .getfield 137, 3), (13, .iconst 1, 1), (14, .iadd, 1), (15, .putfield 137, 3), (18, .goto 7, 3), (21, .aload_n 0, 1), (22, .invokevirtual 143, 3), (25, .return_, 1)]
theorem dcX11_takes_0 : tbX11_takes_0.all (fun q => decide (decode cX11_takes q.1 = .ok q.2)) = true := by decide +kernel
def tbX11_isDigit_0 : List (Nat × Instr × Nat) := [(0, .aload_n 0, 1), (1, .getfield 134, 3), (4, .ifCond .ge 37, 3), (7, .aload_n 0, 1), (8, .getfield 137, 3), (11, .aload_n 0, 1), (12, .getfield 131, 3), (15, .if_icmp .ge 26, 3), (18, .aload_n 0, 1), (19, .getfield 24, 3), (22, .aload_n 0, 1), (23, .getfield 137, 3), (26, .baload, 1), (27, .bipush 48, 2), (29, .bipush 57, 2), (31, .invokestatic 112, 3), (34, .ifCond .eq 7, 3), (37, .iconst 1, 1), (38, .goto 4, 3), (41, .iconst 0, 1), (42, .ireturn, 1)]
theorem dcX11_isDigit_0 : tbX11_isDigit_0.all (fun q => decide (decode cX11_isDigit q.1 = .ok q.2)) = true := by decide +kernel
def tbX11_readNumber_0 : List (Nat × Instr × Nat) := [(0, .aload_n 0, 1), (1, .invokevirtual 146, 3), (4, .ifCond .ne 9, 3), (7, .aload_n 0, 1), (8, .invokevirtual 143, 3), (11, .iconst 0, 1), (12, .ireturn, 1), (13, .aload_n 0, 1), (14, .getfield 24, 3), (17, .aload_n 0, 1), (18, .getfield 137, 3), (21, .baload, 1), (22, .bipush 48, 2), (24, .isub, 1), (25, .istore_n 1, 1), (26, .aload_n 0, 1), (27, .dup, 1), (28, .getfield 137, 3), (31, .iconst 1, 1), (32, .iadd, 1), (33, .putfield 137, 3), (36, .aload_n 0, 1), (37, .invokevirtual 146, 3), (40, .ifCond .ne 5, 3), (43, .iload_n 1, 1), (44, .ireturn, 1), (45, .bipush 10, 2), (47, .iload_n 1, 1), (48, .imul, 1), (49, .aload_n 0, 1), (50, .getfield 24, 3), (53, .aload_n 0, 1), (54, .getfield 137, 3), (57, .baload, 1), (58, .iadd, 1), (59, .bipush 48, 2), (61, .isub, 1), (62, .istore_n 1, 1), (63, .aload_n 0, 1), (64, .dup, 1), (65, .getfield 137, 3), (68, .iconst 1, 1), (69, .iadd, 1), (70, .putfield 137, 3), (73, .iload_n 1, 1), (74, .ireturn, 1)]
theorem dcX11_readNumber_0 : tbX11_readNumber_0.all (fun q => decide (decode cX11_readNumber q.1 = .ok q.2)) = true := by decide +kernel
def tbX11_lay_0 : List (Nat × Instr × Nat) := [(0, .aload_n 0, 1), (1, .getfield 47, 3), (4, .bipush 100, 2), (6, .aload_n 0, 1), (7, .getfield 150, 3), (10, .imul, 1), (11, .aload_n 0, 1), (12, .getfield 153, 3), (15, .iadd, 1), (16, .iload_n 1, 1), (17, .iastore, 1), (18, .aload_n 0, 1), (19, .dup, 1), (20, .getfield 153, 3), (23, .iconst 1, 1), (24, .iadd, 1), (25, .putfield 153, 3), (28, .return_, 1)]
theorem dcX11_lay_0 : tbX11_lay_0.all (fun q => decide (decode cX11_lay q.1 = .ok q.2)) = true := by decide +kernel
def tbX11_either_0 : List (Nat × Instr × Nat) := [(0, .aload_n 0, 1), (1, .iload_n 1, 1), (2, .invokevirtual 156, 3), (5, .aload_n 0, 1), (6, .bipush 124, 2), (8, .invokevirtual 140, 3), (11, .ifCond .ne 4, 3), (14, .return_, 1), (15, .aload_n 0, 1), (16, .dup, 1), (17, .getfield 137, 3), (20, .iconst 1, 1), (21, .iadd, 1), (22, .putfield 137, 3), (25, .aload_n 0, 1), (26, .iload_n 1, 1), (27, .invokevirtual 160, 3), (30, .aload_n 0, 1), (31, .iconst 3, 1), (32, .invokevirtual 163, 3), (35, .return_, 1)]
theorem dcX11_either_0 : tbX11_either_0.all (fun q => decide (decode cX11_either q.1 = .ok q.2)) = true := by decide +kernel
def tbX11_both_0 : List (Nat × Instr × Nat) := [(0, .aload_n 0, 1), (1, .iload_n 1, 1), (2, .invokevirtual 166, 3), (5, .aload_n 0, 1), (6, .bipush 38, 2), (8, .invokevirtual 140, 3), (11, .ifCond .ne 4, 3), (14, .return_, 1), (15, .aload_n 0, 1), (16, .dup, 1), (17, .getfield 137, 3), (20, .iconst 1, 1), (21, .iadd, 1), (22, .putfield 137, 3), (25, .aload_n 0, 1), (26, .iload_n 1, 1), (27, .invokevirtual 156, 3), (30, .aload_n 0, 1), (31, .iconst 2, 1), (32, .invokevirtual 163, 3), (35, .return_, 1)]
theorem dcX11_both_0 : tbX11_both_0.all (fun q => decide (decode cX11_both q.1 = .ok q.2)) = true := by decide +kernel
def tbX11_isLetter_0 : List (Nat × Instr × Nat) := [(0, .aload_n 0, 1), (1, .getfield 134, 3), (4, .ifCond .ge 14, 3), (7, .aload_n 0, 1), (8, .getfield 137, 3), (11, .aload_n 0, 1), (12, .getfield 131, 3), (15, .if_icmp .lt 5, 3), (18, .iconst 0, 1), (19, .ireturn, 1), (20, .aload_n 0, 1), (21, .getfield 24, 3), (24, .aload_n 0, 1), (25, .getfield 137, 3), (28, .baload, 1), (29, .istore_n 1, 1), (30, .iload_n 1, 1), (31, .bipush 102, 2), (33, .if_icmp .eq 51, 3), (36, .iload_n 1, 1), (37, .bipush 104, 2), (39, .if_icmp .eq 45, 3), (42, .iload_n 1, 1), (43, .bipush 112, 2), (45, .if_icmp .eq 39, 3), (48, .iload_n 1, 1), (49, .bipush 119, 2), (51, .if_icmp .eq 33, 3), (54, .iload_n 1, 1), (55, .bipush 108, 2), (57, .if_icmp .eq 27, 3), (60, .iload_n 1, 1), (61, .bipush 115, 2), (63, .if_icmp .eq 21, 3), (66, .iload_n 1, 1), (67, .bipush 97, 2), (69, .if_icmp .eq 15, 3), (72, .iload_n 1, 1), (73, .bipush 107, 2), (75, .if_icmp .eq 9, 3), (78, .iload_n 1, 1), (79, .bipush 116, 2), (81, .if_icmp .ne 7, 3), (84, .iconst 1, 1), (85, .goto 4, 3), (88, .iconst 0, 1), (89, .ireturn, 1)]
theorem dcX11_isLetter_0 : tbX11_isLetter_0.all (fun q => decide (decode cX11_isLetter q.1 = .ok q.2)) = true := by decide +kernel
def tbX11_one_0 : List (Nat × Instr × Nat) := [(0, .aload_n 0, 1), (1, .getfield 134, 3), (4, .ifCond .lt 4, 3), (7, .return_, 1), (8, .iload_n 1, 1), (9, .iconst 4, 1), (10, .if_icmp .ge 37, 3), (13, .aload_n 0, 1), (14, .bipush 33, 2), (16, .invokevirtual 140, 3), (19, .ifCond .eq 28, 3), (22, .aload_n 0, 1), (23, .dup, 1), (24, .getfield 137, 3), (27, .iconst 1, 1), (28, .iadd, 1), (29, .putfield 137, 3), (32, .aload_n 0, 1), (33, .iload_n 1, 1), (34, .iconst 1, 1), (35, .iadd, 1), (36, .invokevirtual 166, 3), (39, .aload_n 0, 1), (40, .iconst 1, 1), (41, .invokevirtual 163, 3), (44, .goto 184, 3), (47, .iload_n 1, 1), (48, .iconst 4, 1), (49, .if_icmp .ge 38, 3), (52, .aload_n 0, 1), (53, .bipush 40, 2), (55, .invokevirtual 140, 3), (58, .ifCond .eq 29, 3), (61, .aload_n 0, 1), (62, .dup, 1), (63, .getfield 137, 3), (66, .iconst 1, 1), (67, .iadd, 1), (68, .putfield 137, 3), (71, .aload_n 0, 1), (72, .iload_n 1, 1), (73, .iconst 1, 1), (74, .iadd, 1), (75, .invokevirtual 160, 3), (78, .aload_n 0, 1), (79, .bipush 41, 2), (81, .invokevirtual 169, 3), (84, .goto 144, 3)]
theorem dcX11_one_0 : tbX11_one_0.all (fun q => decide (decode cX11_one q.1 = .ok q.2)) = true := by decide +kernel
def tbX11_one_1 : List (Nat × Instr × Nat) := [(87, .aload_n 0, 1), (88, .invokevirtual 172, 3), (91, .ifCond .eq 133, 3), (94, .bipush 100, 2), (96, .aload_n 0, 1), (97, .getfield 150, 3), (100, .imul, 1), (101, .aload_n 0, 1), (102, .getfield 153, 3), (105, .iadd, 1), (106, .istore_n 2, 1), (107, .aload_n 0, 1), (108, .getfield 50, 3), (111, .iload_n 2, 1), (112, .aload_n 0, 1), (113, .getfield 24, 3), (116, .aload_n 0, 1), (117, .getfield 137, 3), (120, .baload, 1), (121, .iastore, 1), (122, .aload_n 0, 1), (123, .dup, 1), (124, .getfield 137, 3), (127, .iconst 1, 1), (128, .iadd, 1), (129, .putfield 137, 3), (132, .aload_n 0, 1), (133, .getfield 53, 3), (136, .iload_n 2, 1), (137, .aload_n 0, 1), (138, .getfield 137, 3), (141, .aload_n 0, 1), (142, .getfield 131, 3), (145, .if_icmp .ge 15, 3), (148, .aload_n 0, 1), (149, .getfield 24, 3), (152, .aload_n 0, 1), (153, .getfield 137, 3), (156, .baload, 1), (157, .goto 4, 3), (160, .iconst 0, 1), (161, .iastore, 1), (162, .aload_n 0, 1), (163, .bipush 60, 2), (165, .invokevirtual 140, 3), (168, .ifCond .ne 21, 3), (171, .aload_n 0, 1), (172, .bipush 61, 2)]
theorem dcX11_one_1 : tbX11_one_1.all (fun q => decide (decode cX11_one q.1 = .ok q.2)) = true := by decide +kernel
def tbX11_one_2 : List (Nat × Instr × Nat) := [(174, .invokevirtual 140, 3), (177, .ifCond .ne 12, 3), (180, .aload_n 0, 1), (181, .bipush 62, 2), (183, .invokevirtual 140, 3), (186, .ifCond .eq 16, 3), (189, .aload_n 0, 1), (190, .dup, 1), (191, .getfield 137, 3), (194, .iconst 1, 1), (195, .iadd, 1), (196, .putfield 137, 3), (199, .goto 7, 3), (202, .aload_n 0, 1), (203, .invokevirtual 143, 3), (206, .aload_n 0, 1), (207, .getfield 56, 3), (210, .iload_n 2, 1), (211, .aload_n 0, 1), (212, .invokevirtual 175, 3), (215, .iastore, 1), (216, .aload_n 0, 1), (217, .iconst 0, 1), (218, .invokevirtual 163, 3), (221, .goto 7, 3), (224, .aload_n 0, 1), (225, .invokevirtual 143, 3), (228, .return_, 1)]
theorem dcX11_one_2 : tbX11_one_2.all (fun q => decide (decode cX11_one q.1 = .ok q.2)) = true := by decide +kernel
def tbX11_readWord_0 : List (Nat × Instr × Nat) := [(0, .iconst 0, 1), (1, .istore_n 1, 1), (2, .aload_n 0, 1), (3, .getfield 137, 3), (6, .istore_n 2, 1), (7, .iconst 0, 1), (8, .istore_n 3, 1), (9, .iload_n 3, 1), (10, .bipush 6, 2), (12, .if_icmp .gt 111, 3), (15, .aload_n 0, 1), (16, .getfield 137, 3), (19, .istore 4, 2), (21, .iconst 1, 1), (22, .istore 5, 2), (24, .iconst 1, 1), (25, .istore 6, 2), (27, .iload 6, 2), (29, .ifCond .eq 66, 3), (32, .iload 5, 2), (34, .ifCond .eq 34, 3), (37, .iload 4, 2), (39, .aload_n 0, 1), (40, .getfield 131, 3), (43, .if_icmp .ge 25, 3), (46, .aload_n 0, 1), (47, .getfield 24, 3), (50, .iload 4, 2), (52, .baload, 1), (53, .aload_n 0, 1), (54, .getfield 59, 3), (57, .iload_n 1, 1), (58, .iaload, 1), (59, .if_icmp .ne 9, 3), (62, .iinc 4 1, 3), (65, .goto 6, 3), (68, .iconst 0, 1), (69, .istore 5, 2), (71, .aload_n 0, 1), (72, .getfield 59, 3), (75, .iload_n 1, 1), (76, .iaload, 1), (77, .bipush 32, 2), (79, .if_icmp .eq 7, 3), (82, .iconst 1, 1), (83, .goto 4, 3), (86, .iconst 0, 1), (87, .istore 6, 2)]
theorem dcX11_readWord_0 : tbX11_readWord_0.all (fun q => decide (decode cX11_readWord q.1 = .ok q.2)) = true := by decide +kernel
def tbX11_readWord_1 : List (Nat × Instr × Nat) := [(89, .iinc 1 1, 3), (92, .goto (-65), 3), (95, .iload 5, 2), (97, .ifCond .eq 11, 3), (100, .aload_n 0, 1), (101, .iload 4, 2), (103, .putfield 137, 3), (106, .iload_n 3, 1), (107, .ireturn, 1), (108, .iload 4, 2), (110, .iload_n 2, 1), (111, .if_icmp .le 6, 3), (114, .iload 4, 2), (116, .istore_n 2, 1), (117, .iinc 3 1, 3), (120, .goto (-111), 3), (123, .aload_n 0, 1), (124, .iload_n 2, 1), (125, .putfield 137, 3), (128, .aload_n 0, 1), (129, .invokevirtual 143, 3), (132, .iconst (-1), 1), (133, .ireturn, 1)]
theorem dcX11_readWord_1 : tbX11_readWord_1.all (fun q => decide (decode cX11_readWord q.1 = .ok q.2)) = true := by decide +kernel
def tbX11_clause_0 : List (Nat × Instr × Nat) := [(0, .bipush 10, 2), (2, .aload_n 0, 1), (3, .getfield 150, 3), (6, .imul, 1), (7, .aload_n 0, 1), (8, .getfield 32, 3), (11, .aload_n 0, 1), (12, .getfield 150, 3), (15, .iaload, 1), (16, .iadd, 1), (17, .istore_n 1, 1), (18, .aload_n 0, 1), (19, .getfield 35, 3), (22, .iload_n 1, 1), (23, .aload_n 0, 1), (24, .invokevirtual 178, 3), (27, .iastore, 1), (28, .aload_n 0, 1), (29, .getfield 38, 3), (32, .iload_n 1, 1), (33, .aload_n 0, 1), (34, .getfield 134, 3), (37, .ifCond .ge 10, 3), (40, .aload_n 0, 1), (41, .invokevirtual 175, 3), (44, .goto 4, 3), (47, .iconst 0, 1), (48, .iastore, 1), (49, .aload_n 0, 1), (50, .getfield 41, 3), (53, .iload_n 1, 1), (54, .aload_n 0, 1), (55, .getfield 153, 3), (58, .iastore, 1), (59, .aload_n 0, 1), (60, .getfield 134, 3), (63, .ifCond .ge 24, 3), (66, .aload_n 0, 1), (67, .getfield 35, 3), (70, .iload_n 1, 1), (71, .iaload, 1), (72, .iconst 2, 1), (73, .if_icmp .gt 14, 3), (76, .aload_n 0, 1), (77, .bipush 32, 2), (79, .invokevirtual 169, 3), (82, .aload_n 0, 1), (83, .iconst 0, 1)]
theorem dcX11_clause_0 : tbX11_clause_0.all (fun q => decide (decode cX11_clause q.1 = .ok q.2)) = true := by decide +kernel
def tbX11_clause_1 : List (Nat × Instr × Nat) := [(84, .invokevirtual 160, 3), (87, .aload_n 0, 1), (88, .getfield 44, 3), (91, .iload_n 1, 1), (92, .aload_n 0, 1), (93, .getfield 153, 3), (96, .iastore, 1), (97, .aload_n 0, 1), (98, .getfield 32, 3), (101, .aload_n 0, 1), (102, .getfield 150, 3), (105, .dup2, 1), (106, .iaload, 1), (107, .iconst 1, 1), (108, .iadd, 1), (109, .iastore, 1), (110, .return_, 1)]
theorem dcX11_clause_1 : tbX11_clause_1.all (fun q => decide (decode cX11_clause q.1 = .ok q.2)) = true := by decide +kernel
def tbX11_law_0 : List (Nat × Instr × Nat) := [(0, .aload_n 0, 1), (1, .getfield 150, 3), (4, .bipush 6, 2), (6, .if_icmp .ne 6, 3), (9, .bipush (-4), 2), (11, .ireturn, 1), (12, .aload_n 0, 1), (13, .iconst 0, 1), (14, .putfield 137, 3), (17, .aload_n 0, 1), (18, .iconst (-1), 1), (19, .putfield 134, 3), (22, .aload_n 0, 1), (23, .iconst 0, 1), (24, .putfield 153, 3), (27, .aload_n 0, 1), (28, .getfield 32, 3), (31, .aload_n 0, 1), (32, .getfield 150, 3), (35, .iconst 0, 1), (36, .iastore, 1), (37, .aload_n 0, 1), (38, .invokevirtual 181, 3), (41, .aload_n 0, 1), (42, .bipush 59, 2), (44, .invokevirtual 140, 3), (47, .ifCond .eq 34, 3), (50, .aload_n 0, 1), (51, .getfield 32, 3), (54, .aload_n 0, 1), (55, .getfield 150, 3), (58, .iaload, 1), (59, .bipush 10, 2), (61, .if_icmp .ge 20, 3), (64, .aload_n 0, 1), (65, .dup, 1), (66, .getfield 137, 3), (69, .iconst 1, 1), (70, .iadd, 1), (71, .putfield 137, 3), (74, .aload_n 0, 1), (75, .invokevirtual 181, 3), (78, .goto (-37), 3), (81, .aload_n 0, 1), (82, .getfield 137, 3), (85, .aload_n 0, 1), (86, .getfield 131, 3), (89, .if_icmp .ge 7, 3)]
theorem dcX11_law_0 : tbX11_law_0.all (fun q => decide (decode cX11_law q.1 = .ok q.2)) = true := by decide +kernel
def tbX11_law_1 : List (Nat × Instr × Nat) := [(92, .aload_n 0, 1), (93, .invokevirtual 143, 3), (96, .aload_n 0, 1), (97, .iconst 0, 1), (98, .putfield 131, 3), (101, .aload_n 0, 1), (102, .getfield 134, 3), (105, .ifCond .lt 11, 3), (108, .bipush (-10), 2), (110, .aload_n 0, 1), (111, .getfield 134, 3), (114, .isub, 1), (115, .ireturn, 1), (116, .aload_n 0, 1), (117, .aload_n 0, 1), (118, .getfield 150, 3), (121, .putfield 28, 3), (124, .aload_n 0, 1), (125, .dup, 1), (126, .getfield 150, 3), (129, .iconst 1, 1), (130, .iadd, 1), (131, .putfield 150, 3), (134, .aload_n 0, 1), (135, .getfield 150, 3), (138, .iconst 1, 1), (139, .isub, 1), (140, .ireturn, 1)]
theorem dcX11_law_1 : tbX11_law_1.all (fun q => decide (decode cX11_law q.1 = .ok q.2)) = true := by decide +kernel
def tbX11_factOf_0 : List (Nat × Instr × Nat) := [(0, .iload_n 1, 1), (1, .tableswitch 210 97 119 #[189, 210, 210, 210, 210, 107, 210, 125, 210, 210, 197, 149, 210, 210, 210, 133, 210, 210, 168, 210, 210, 210, 141], 107), (108, .aload_n 0, 1), (109, .getfield 21, 3), (112, .aload_n 0, 1), (113, .getfield 18, 3), (116, .aload_n 0, 1), (117, .getfield 21, 3), (120, .bipush 12, 2), (122, .iaload, 1), (123, .iaload, 1), (124, .iaload, 1), (125, .ireturn, 1), (126, .aload_n 0, 1), (127, .getfield 21, 3), (130, .bipush 7, 2), (132, .iaload, 1), (133, .ireturn, 1), (134, .aload_n 0, 1), (135, .getfield 21, 3), (138, .bipush 6, 2), (140, .iaload, 1), (141, .ireturn, 1), (142, .aload_n 0, 1), (143, .getfield 21, 3), (146, .bipush 8, 2), (148, .iaload, 1), (149, .ireturn, 1), (150, .aload_n 0, 1), (151, .getfield 21, 3), (154, .bipush 10, 2), (156, .iaload, 1), (157, .aload_n 0, 1), (158, .getfield 21, 3), (161, .bipush 11, 2), (163, .iaload, 1), (164, .isub, 1), (165, .invokestatic 184, 3), (168, .ireturn, 1), (169, .aload_n 0, 1), (170, .getfield 21, 3), (173, .bipush 10, 2), (175, .iaload, 1), (176, .aload_n 0, 1), (177, .getfield 21, 3), (180, .bipush 11, 2), (182, .iaload, 1), (183, .iadd, 1)]
theorem dcX11_factOf_0 : tbX11_factOf_0.all (fun q => decide (decode cX11_factOf q.1 = .ok q.2)) = true := by decide +kernel
def tbX11_factOf_1 : List (Nat × Instr × Nat) := [(184, .bipush 99, 2), (186, .invokestatic 187, 3), (189, .ireturn, 1), (190, .aload_n 0, 1), (191, .getfield 21, 3), (194, .bipush 12, 2), (196, .iaload, 1), (197, .ireturn, 1), (198, .aload_n 0, 1), (199, .getfield 9, 3), (202, .aload_n 0, 1), (203, .getfield 21, 3), (206, .bipush 12, 2), (208, .iaload, 1), (209, .iaload, 1), (210, .ireturn, 1), (211, .aload_n 0, 1), (212, .getfield 21, 3), (215, .bipush 14, 2), (217, .iaload, 1), (218, .bipush 60, 2), (220, .irem, 1), (221, .ireturn, 1)]
theorem dcX11_factOf_1 : tbX11_factOf_1.all (fun q => decide (decode cX11_factOf q.1 = .ok q.2)) = true := by decide +kernel
def tbX11_test_0 : List (Nat × Instr × Nat) := [(0, .iload_n 1, 1), (1, .bipush 60, 2), (3, .if_icmp .ne 16, 3), (6, .iload_n 0, 1), (7, .iload_n 2, 1), (8, .if_icmp .ge 7, 3), (11, .iconst 1, 1), (12, .goto 36, 3), (15, .iconst 0, 1), (16, .goto 32, 3), (19, .iload_n 1, 1), (20, .bipush 61, 2), (22, .if_icmp .ne 16, 3), (25, .iload_n 0, 1), (26, .iload_n 2, 1), (27, .if_icmp .ne 7, 3), (30, .iconst 1, 1), (31, .goto 17, 3), (34, .iconst 0, 1), (35, .goto 13, 3), (38, .iload_n 0, 1), (39, .iload_n 2, 1), (40, .if_icmp .le 7, 3), (43, .iconst 1, 1), (44, .goto 4, 3), (47, .iconst 0, 1), (48, .ireturn, 1)]
theorem dcX11_test_0 : tbX11_test_0.all (fun q => decide (decode cX11_test q.1 = .ok q.2)) = true := by decide +kernel
def tbX11_isSo_0 : List (Nat × Instr × Nat) := [(0, .iconst 0, 1), (1, .istore_n 2, 1), (2, .bipush 100, 2), (4, .aload_n 0, 1), (5, .getfield 28, 3), (8, .imul, 1), (9, .aload_n 0, 1), (10, .getfield 41, 3), (13, .iload_n 1, 1), (14, .iaload, 1), (15, .iadd, 1), (16, .istore_n 3, 1), (17, .iload_n 3, 1), (18, .bipush 100, 2), (20, .aload_n 0, 1), (21, .getfield 28, 3), (24, .imul, 1), (25, .aload_n 0, 1), (26, .getfield 44, 3), (29, .iload_n 1, 1), (30, .iaload, 1), (31, .iadd, 1), (32, .if_icmp .ge 181, 3), (35, .aload_n 0, 1), (36, .getfield 47, 3), (39, .iload_n 3, 1), (40, .iaload, 1), (41, .tableswitch 130 0 2 #[27, 64, 91], 27), (68, .aload_n 0, 1), (69, .getfield 62, 3), (72, .iload_n 2, 1), (73, .aload_n 0, 1), (74, .aload_n 0, 1), (75, .getfield 50, 3), (78, .iload_n 3, 1), (79, .iaload, 1), (80, .invokevirtual 191, 3), (83, .aload_n 0, 1), (84, .getfield 53, 3), (87, .iload_n 3, 1), (88, .iaload, 1), (89, .aload_n 0, 1), (90, .getfield 56, 3), (93, .iload_n 3, 1), (94, .iaload, 1), (95, .invokestatic 194, 3), (98, .bastore, 1), (99, .iinc 2 1, 3)]
theorem dcX11_isSo_0 : tbX11_isSo_0.all (fun q => decide (decode cX11_isSo q.1 = .ok q.2)) = true := by decide +kernel
def tbX11_isSo_1 : List (Nat × Instr × Nat) := [(102, .goto 105, 3), (105, .aload_n 0, 1), (106, .getfield 62, 3), (109, .iload_n 2, 1), (110, .iconst 1, 1), (111, .isub, 1), (112, .aload_n 0, 1), (113, .getfield 62, 3), (116, .iload_n 2, 1), (117, .iconst 1, 1), (118, .isub, 1), (119, .baload, 1), (120, .ifCond .ne 7, 3), (123, .iconst 1, 1), (124, .goto 4, 3), (127, .iconst 0, 1), (128, .bastore, 1), (129, .goto 78, 3), (132, .iinc 2 (-1), 3), (135, .aload_n 0, 1), (136, .getfield 62, 3), (139, .iload_n 2, 1), (140, .iconst 1, 1), (141, .isub, 1), (142, .aload_n 0, 1), (143, .getfield 62, 3), (146, .iload_n 2, 1), (147, .iconst 1, 1), (148, .isub, 1), (149, .baload, 1), (150, .ifCond .eq 16, 3), (153, .aload_n 0, 1), (154, .getfield 62, 3), (157, .iload_n 2, 1), (158, .baload, 1), (159, .ifCond .eq 7, 3), (162, .iconst 1, 1), (163, .goto 4, 3), (166, .iconst 0, 1), (167, .bastore, 1), (168, .goto 39, 3), (171, .iinc 2 (-1), 3), (174, .aload_n 0, 1), (175, .getfield 62, 3), (178, .iload_n 2, 1), (179, .iconst 1, 1), (180, .isub, 1), (181, .aload_n 0, 1)]
theorem dcX11_isSo_1 : tbX11_isSo_1.all (fun q => decide (decode cX11_isSo q.1 = .ok q.2)) = true := by decide +kernel
def tbX11_isSo_2 : List (Nat × Instr × Nat) := [(182, .getfield 62, 3), (185, .iload_n 2, 1), (186, .iconst 1, 1), (187, .isub, 1), (188, .baload, 1), (189, .ifCond .ne 12, 3), (192, .aload_n 0, 1), (193, .getfield 62, 3), (196, .iload_n 2, 1), (197, .baload, 1), (198, .ifCond .eq 7, 3), (201, .iconst 1, 1), (202, .goto 4, 3), (205, .iconst 0, 1), (206, .bastore, 1), (207, .iinc 3 1, 3), (210, .goto (-193), 3), (213, .aload_n 0, 1), (214, .getfield 62, 3), (217, .iconst 0, 1), (218, .baload, 1), (219, .ireturn, 1)]
theorem dcX11_isSo_2 : tbX11_isSo_2.all (fun q => decide (decode cX11_isSo q.1 = .ok q.2)) = true := by decide +kernel
def tbX11_sumOf_0 : List (Nat × Instr × Nat) := [(0, .iconst 0, 1), (1, .istore_n 2, 1), (2, .aload_n 0, 1), (3, .getfield 28, 3), (6, .ifCond .ge 5, 3), (9, .iconst 0, 1), (10, .ireturn, 1), (11, .bipush 10, 2), (13, .aload_n 0, 1), (14, .getfield 28, 3), (17, .imul, 1), (18, .istore_n 3, 1), (19, .iload_n 3, 1), (20, .bipush 10, 2), (22, .aload_n 0, 1), (23, .getfield 28, 3), (26, .imul, 1), (27, .aload_n 0, 1), (28, .getfield 32, 3), (31, .aload_n 0, 1), (32, .getfield 28, 3), (35, .iaload, 1), (36, .iadd, 1), (37, .if_icmp .ge 36, 3), (40, .aload_n 0, 1), (41, .getfield 35, 3), (44, .iload_n 3, 1), (45, .iaload, 1), (46, .iload_n 1, 1), (47, .if_icmp .ne 20, 3), (50, .aload_n 0, 1), (51, .iload_n 3, 1), (52, .invokevirtual 197, 3), (55, .ifCond .eq 12, 3), (58, .iload_n 2, 1), (59, .aload_n 0, 1), (60, .getfield 38, 3), (63, .iload_n 3, 1), (64, .iaload, 1), (65, .iadd, 1), (66, .istore_n 2, 1), (67, .iinc 3 1, 3), (70, .goto (-51), 3), (73, .iload_n 2, 1), (74, .ireturn, 1)]
theorem dcX11_sumOf_0 : tbX11_sumOf_0.all (fun q => decide (decode cX11_sumOf q.1 = .ok q.2)) = true := by decide +kernel
def tbX11_lastOf_0 : List (Nat × Instr × Nat) := [(0, .iload_n 1, 1), (1, .iconst 3, 1), (2, .if_icmp .ne 7, 3), (5, .iconst 3, 1), (6, .goto 23, 3), (9, .iload_n 1, 1), (10, .iconst 4, 1), (11, .if_icmp .ne 7, 3), (14, .iconst 5, 1), (15, .goto 14, 3), (18, .iload_n 1, 1), (19, .iconst 5, 1), (20, .if_icmp .ne 7, 3), (23, .iconst 2, 1), (24, .goto 5, 3), (27, .bipush 9, 2), (29, .istore_n 2, 1), (30, .aload_n 0, 1), (31, .getfield 28, 3), (34, .ifCond .ge 5, 3), (37, .iload_n 2, 1), (38, .ireturn, 1), (39, .bipush 10, 2), (41, .aload_n 0, 1), (42, .getfield 28, 3), (45, .imul, 1), (46, .istore_n 3, 1), (47, .iload_n 3, 1), (48, .bipush 10, 2), (50, .aload_n 0, 1), (51, .getfield 28, 3), (54, .imul, 1), (55, .aload_n 0, 1), (56, .getfield 32, 3), (59, .aload_n 0, 1), (60, .getfield 28, 3), (63, .iaload, 1), (64, .iadd, 1), (65, .if_icmp .ge 26, 3), (68, .aload_n 0, 1), (69, .getfield 35, 3), (72, .iload_n 3, 1), (73, .iaload, 1), (74, .iload_n 1, 1), (75, .if_icmp .ne 10, 3), (78, .aload_n 0, 1), (79, .getfield 38, 3), (82, .iload_n 3, 1)]
theorem dcX11_lastOf_0 : tbX11_lastOf_0.all (fun q => decide (decode cX11_lastOf q.1 = .ok q.2)) = true := by decide +kernel
def tbX11_lastOf_1 : List (Nat × Instr × Nat) := [(83, .iaload, 1), (84, .istore_n 2, 1), (85, .iinc 3 1, 3), (88, .goto (-41), 3), (91, .iload_n 2, 1), (92, .ireturn, 1)]
theorem dcX11_lastOf_1 : tbX11_lastOf_1.all (fun q => decide (decode cX11_lastOf q.1 = .ok q.2)) = true := by decide +kernel
def tbX11_fordHalves_0 : List (Nat × Instr × Nat) := [(0, .aload_n 0, 1), (1, .bipush 6, 2), (3, .invokevirtual 200, 3), (6, .ifCond .ne 7, 3), (9, .iconst 1, 1), (10, .goto 9, 3), (13, .aload_n 0, 1), (14, .bipush 6, 2), (16, .invokevirtual 200, 3), (19, .ireturn, 1)]
theorem dcX11_fordHalves_0 : tbX11_fordHalves_0.all (fun q => decide (decode cX11_fordHalves q.1 = .ok q.2)) = true := by decide +kernel
def tbX11_told_0 : List (Nat × Instr × Nat) := [(0, .iload_n 1, 1), (1, .iconst 0, 1), (2, .bipush 6, 2), (4, .invokestatic 112, 3), (7, .ifCond .ne 5, 3), (10, .iconst (-1), 1), (11, .ireturn, 1), (12, .iload_n 1, 1), (13, .iconst 2, 1), (14, .if_icmp .le 9, 3), (17, .aload_n 0, 1), (18, .iload_n 1, 1), (19, .invokevirtual 200, 3), (22, .ireturn, 1), (23, .aload_n 0, 1), (24, .invokevirtual 203, 3), (27, .ifCond .eq 8, 3), (30, .bipush (-3), 2), (32, .goto 8, 3), (35, .aload_n 0, 1), (36, .iload_n 1, 1), (37, .invokevirtual 206, 3), (40, .ireturn, 1)]
theorem dcX11_told_0 : tbX11_told_0.all (fun q => decide (decode cX11_told q.1 = .ok q.2)) = true := by decide +kernel
def tbX11_fearAs_0 : List (Nat × Instr × Nat) := [(0, .aload_n 0, 1), (1, .getfield 21, 3), (4, .aload_n 0, 1), (5, .getfield 18, 3), (8, .aload_n 0, 1), (9, .getfield 21, 3), (12, .bipush 12, 2), (14, .iaload, 1), (15, .iaload, 1), (16, .iaload, 1), (17, .istore_n 2, 1), (18, .iload_n 1, 1), (19, .iconst 2, 1), (20, .if_icmp .ne 7, 3), (23, .iload_n 2, 1), (24, .iconst 2, 1), (25, .idiv, 1), (26, .istore_n 2, 1), (27, .iload_n 1, 1), (28, .iconst 3, 1), (29, .if_icmp .ne 5, 3), (32, .iconst 0, 1), (33, .istore_n 2, 1), (34, .aload_n 0, 1), (35, .getfield 9, 3), (38, .aload_n 0, 1), (39, .getfield 21, 3), (42, .bipush 12, 2), (44, .iaload, 1), (45, .iaload, 1), (46, .istore_n 3, 1), (47, .iload_n 3, 1), (48, .iconst 1, 1), (49, .if_icmp .ne 7, 3), (52, .iconst 2, 1), (53, .iload_n 2, 1), (54, .imul, 1), (55, .ireturn, 1), (56, .iload_n 3, 1), (57, .iconst 4, 1), (58, .if_icmp .eq 5, 3), (61, .iload_n 2, 1), (62, .ireturn, 1), (63, .iconst 2, 1), (64, .iload_n 2, 1), (65, .imul, 1), (66, .aload_n 0, 1), (67, .getfield 15, 3)]
theorem dcX11_fearAs_0 : tbX11_fearAs_0.all (fun q => decide (decode cX11_fearAs q.1 = .ok q.2)) = true := by decide +kernel
def tbX11_fearAs_1 : List (Nat × Instr × Nat) := [(70, .aload_n 0, 1), (71, .getfield 21, 3), (74, .bipush 12, 2), (76, .iaload, 1), (77, .iaload, 1), (78, .aload_n 0, 1), (79, .getfield 21, 3), (82, .bipush 9, 2), (84, .iaload, 1), (85, .imul, 1), (86, .isub, 1), (87, .istore 4, 2), (89, .iload 4, 2), (91, .ifCond .ge 7, 3), (94, .iconst 0, 1), (95, .goto 5, 3), (98, .iload 4, 2), (100, .ireturn, 1)]
theorem dcX11_fearAs_1 : tbX11_fearAs_1.all (fun q => decide (decode cX11_fearAs q.1 = .ok q.2)) = true := by decide +kernel
def tbX11_lessBy_0 : List (Nat × Instr × Nat) := [(0, .aload_n 0, 1), (1, .getfield 9, 3), (4, .aload_n 0, 1), (5, .getfield 21, 3), (8, .bipush 12, 2), (10, .iaload, 1), (11, .iaload, 1), (12, .istore_n 3, 1), (13, .iload_n 1, 1), (14, .tableswitch 143 0 5 #[38, 44, 50, 70, 93, 112], 38), (52, .aload_n 0, 1), (53, .iconst 1, 1), (54, .invokevirtual 206, 3), (57, .ireturn, 1), (58, .aload_n 0, 1), (59, .iload_n 2, 1), (60, .invokevirtual 209, 3), (63, .ireturn, 1), (64, .iload_n 3, 1), (65, .iconst 2, 1), (66, .if_icmp .eq 8, 3), (69, .iload_n 3, 1), (70, .iconst 5, 1), (71, .if_icmp .ne 11, 3), (74, .aload_n 0, 1), (75, .iconst 2, 1), (76, .invokevirtual 206, 3), (79, .goto 4, 3), (82, .iconst 0, 1), (83, .ireturn, 1), (84, .iload_n 3, 1), (85, .iconst 3, 1), (86, .if_icmp .eq 9, 3), (89, .iload_n 3, 1), (90, .bipush 6, 2), (92, .if_icmp .ne 13, 3), (95, .aload_n 0, 1), (96, .getfield 21, 3), (99, .bipush 6, 2), (101, .iaload, 1), (102, .goto 4, 3), (105, .iconst 0, 1), (106, .ireturn, 1), (107, .iload_n 3, 1), (108, .iconst 5, 1), (109, .if_icmp .ne 15, 3), (112, .aload_n 0, 1), (113, .getfield 21, 3)]
theorem dcX11_lessBy_0 : tbX11_lessBy_0.all (fun q => decide (decode cX11_lessBy q.1 = .ok q.2)) = true := by decide +kernel
def tbX11_lessBy_1 : List (Nat × Instr × Nat) := [(116, .bipush 8, 2), (118, .iaload, 1), (119, .iconst 2, 1), (120, .idiv, 1), (121, .goto 4, 3), (124, .iconst 0, 1), (125, .ireturn, 1), (126, .iload_n 3, 1), (127, .bipush 6, 2), (129, .if_icmp .ne 26, 3), (132, .aload_n 0, 1), (133, .getfield 15, 3), (136, .aload_n 0, 1), (137, .getfield 21, 3), (140, .bipush 12, 2), (142, .iaload, 1), (143, .iaload, 1), (144, .aload_n 0, 1), (145, .getfield 21, 3), (148, .bipush 12, 2), (150, .iaload, 1), (151, .imul, 1), (152, .goto 4, 3), (155, .iconst 0, 1), (156, .ireturn, 1), (157, .aload_n 0, 1), (158, .getfield 21, 3), (161, .bipush 13, 2), (163, .iaload, 1), (164, .iconst 1, 1), (165, .if_icmp .ne 8, 3), (168, .bipush 15, 2), (170, .goto 4, 3), (173, .iconst 0, 1), (174, .ireturn, 1)]
theorem dcX11_lessBy_1 : tbX11_lessBy_1.all (fun q => decide (decode cX11_lessBy q.1 = .ok q.2)) = true := by decide +kernel
def tbX11_driveBy_0 : List (Nat × Instr × Nat) := [(0, .aload_n 0, 1), (1, .iconst 0, 1), (2, .invokevirtual 206, 3), (5, .istore_n 2, 1), (6, .iload_n 1, 1), (7, .iconst 1, 1), (8, .if_icmp .ne 16, 3), (11, .iload_n 2, 1), (12, .aload_n 0, 1), (13, .iconst 3, 1), (14, .invokevirtual 200, 3), (17, .aload_n 0, 1), (18, .getfield 212, 3), (21, .iadd, 1), (22, .iadd, 1), (23, .istore_n 2, 1), (24, .iload_n 1, 1), (25, .iconst 4, 1), (26, .if_icmp .ne 15, 3), (29, .iload_n 2, 1), (30, .aload_n 0, 1), (31, .getfield 21, 3), (34, .bipush 7, 2), (36, .iaload, 1), (37, .iconst 2, 1), (38, .idiv, 1), (39, .iadd, 1), (40, .istore_n 2, 1), (41, .iload_n 1, 1), (42, .bipush 7, 2), (44, .if_icmp .ne 11, 3), (47, .iload_n 2, 1), (48, .aload_n 0, 1), (49, .iconst 4, 1), (50, .invokevirtual 200, 3), (53, .iadd, 1), (54, .istore_n 2, 1), (55, .iload_n 1, 1), (56, .iconst 3, 1), (57, .if_icmp .ne 6, 3), (60, .iinc 2 (-20), 3), (63, .iconst 0, 1), (64, .istore_n 3, 1), (65, .iload_n 3, 1), (66, .bipush 6, 2), (68, .if_icmp .gt 18, 3), (71, .iload_n 2, 1), (72, .aload_n 0, 1)]
theorem dcX11_driveBy_0 : tbX11_driveBy_0.all (fun q => decide (decode cX11_driveBy q.1 = .ok q.2)) = true := by decide +kernel
def tbX11_driveBy_1 : List (Nat × Instr × Nat) := [(73, .iload_n 3, 1), (74, .iload_n 1, 1), (75, .invokevirtual 215, 3), (78, .isub, 1), (79, .istore_n 2, 1), (80, .iinc 3 1, 3), (83, .goto (-18), 3), (86, .iload_n 2, 1), (87, .aload_n 0, 1), (88, .getfield 218, 3), (91, .isub, 1), (92, .ireturn, 1)]
theorem dcX11_driveBy_1 : tbX11_driveBy_1.all (fun q => decide (decode cX11_driveBy q.1 = .ok q.2)) = true := by decide +kernel
def tbX11_isAct_0 : List (Nat × Instr × Nat) := [(0, .iload_n 0, 1), (1, .iconst 0, 1), (2, .bipush 7, 2), (4, .invokestatic 112, 3), (7, .ireturn, 1)]
theorem dcX11_isAct_0 : tbX11_isAct_0.all (fun q => decide (decode cX11_isAct q.1 = .ok q.2)) = true := by decide +kernel
def tbX11_drive_0 : List (Nat × Instr × Nat) := [(0, .iload_n 1, 1), (1, .invokestatic 221, 3), (4, .ifCond .ne 8, 3), (7, .ldc 224, 2), (9, .goto 20, 3), (12, .aload_n 0, 1), (13, .invokevirtual 203, 3), (16, .ifCond .eq 8, 3), (19, .ldc 225, 2), (21, .goto 8, 3), (24, .aload_n 0, 1), (25, .iload_n 1, 1), (26, .invokevirtual 226, 3), (29, .ireturn, 1)]
theorem dcX11_drive_0 : tbX11_drive_0.all (fun q => decide (decode cX11_drive q.1 = .ok q.2)) = true := by decide +kernel
def tbX11_wouldBy_0 : List (Nat × Instr × Nat) := [(0, .iload_n 1, 1), (1, .bipush 6, 2), (3, .if_icmp .ne 5, 3), (6, .iconst 1, 1), (7, .ireturn, 1), (8, .aload_n 0, 1), (9, .iload_n 1, 1), (10, .invokevirtual 226, 3), (13, .istore_n 2, 1), (14, .iload_n 2, 1), (15, .ifCond .le 7, 3), (18, .iconst 1, 1), (19, .goto 24, 3), (22, .iload_n 2, 1), (23, .bipush (-15), 2), (25, .if_icmp .le 7, 3), (28, .iconst 0, 1), (29, .goto 14, 3), (32, .iload_n 2, 1), (33, .bipush (-40), 2), (35, .if_icmp .le 7, 3), (38, .iconst 2, 1), (39, .goto 4, 3), (42, .iconst 3, 1), (43, .ireturn, 1)]
theorem dcX11_wouldBy_0 : tbX11_wouldBy_0.all (fun q => decide (decode cX11_wouldBy q.1 = .ok q.2)) = true := by decide +kernel
def tbX11_would_0 : List (Nat × Instr × Nat) := [(0, .iload_n 1, 1), (1, .invokestatic 221, 3), (4, .ifCond .ne 7, 3), (7, .iconst (-1), 1), (8, .goto 20, 3), (11, .aload_n 0, 1), (12, .invokevirtual 203, 3), (15, .ifCond .eq 8, 3), (18, .bipush (-5), 2), (20, .goto 8, 3), (23, .aload_n 0, 1), (24, .iload_n 1, 1), (25, .invokevirtual 229, 3), (28, .ireturn, 1)]
theorem dcX11_would_0 : tbX11_would_0.all (fun q => decide (decode cX11_would q.1 = .ok q.2)) = true := by decide +kernel
def tbX11_more_0 : List (Nat × Instr × Nat) := [(0, .aload_n 0, 1), (1, .getfield 21, 3), (4, .iload_n 1, 1), (5, .aload_n 0, 1), (6, .getfield 21, 3), (9, .iload_n 1, 1), (10, .iaload, 1), (11, .iload_n 2, 1), (12, .iadd, 1), (13, .aload_n 0, 1), (14, .iload_n 1, 1), (15, .invokevirtual 120, 3), (18, .invokestatic 187, 3), (21, .iastore, 1), (22, .return_, 1)]
theorem dcX11_more_0 : tbX11_more_0.all (fun q => decide (decode cX11_more q.1 = .ok q.2)) = true := by decide +kernel
def tbX11_does_0 : List (Nat × Instr × Nat) := [(0, .aload_n 0, 1), (1, .invokevirtual 203, 3), (4, .ifCond .eq 6, 3), (7, .bipush (-5), 2), (9, .ireturn, 1), (10, .aload_n 0, 1), (11, .getfield 18, 3), (14, .aload_n 0, 1), (15, .getfield 21, 3), (18, .bipush 12, 2), (20, .iaload, 1), (21, .iaload, 1), (22, .istore_n 2, 1), (23, .aload_n 0, 1), (24, .iload_n 1, 1), (25, .invokevirtual 229, 3), (28, .istore_n 3, 1), (29, .iload_n 1, 1), (30, .bipush 6, 2), (32, .if_icmp .ne 54, 3), (35, .aload_n 0, 1), (36, .getfield 21, 3), (39, .bipush 14, 2), (41, .dup2, 1), (42, .iaload, 1), (43, .aload_n 0, 1), (44, .invokevirtual 232, 3), (47, .iadd, 1), (48, .iastore, 1), (49, .aload_n 0, 1), (50, .getfield 21, 3), (53, .bipush 12, 2), (55, .dup2, 1), (56, .iaload, 1), (57, .iconst 1, 1), (58, .iadd, 1), (59, .iastore, 1), (60, .aload_n 0, 1), (61, .getfield 21, 3), (64, .bipush 9, 2), (66, .iconst 0, 1), (67, .iastore, 1), (68, .aload_n 0, 1), (69, .getfield 21, 3), (72, .bipush 13, 2), (74, .iconst 0, 1), (75, .iastore, 1), (76, .aload_n 0, 1)]
theorem dcX11_does_0 : tbX11_does_0.all (fun q => decide (decode cX11_does q.1 = .ok q.2)) = true := by decide +kernel
def tbX11_does_1 : List (Nat × Instr × Nat) := [(77, .bipush 6, 2), (79, .bipush 10, 2), (81, .invokevirtual 235, 3), (84, .iconst 1, 1), (85, .ireturn, 1), (86, .aload_n 0, 1), (87, .iconst 5, 1), (88, .invokevirtual 200, 3), (91, .istore 4, 2), (93, .iload_n 3, 1), (94, .tableswitch 142 0 2 #[70, 26, 102], 26), (120, .aload_n 0, 1), (121, .iload_n 2, 1), (122, .bipush (-5), 2), (124, .invokevirtual 235, 3), (127, .aload_n 0, 1), (128, .bipush 8, 2), (130, .iconst 1, 1), (131, .invokevirtual 235, 3), (134, .aload_n 0, 1), (135, .getfield 21, 3), (138, .bipush 9, 2), (140, .iconst 0, 1), (141, .iastore, 1), (142, .aload_n 0, 1), (143, .getfield 21, 3), (146, .bipush 13, 2), (148, .iconst 0, 1), (149, .iastore, 1), (150, .aload_n 0, 1), (151, .getfield 21, 3), (154, .bipush 12, 2), (156, .dup2, 1), (157, .iaload, 1), (158, .iconst 1, 1), (159, .iadd, 1), (160, .iastore, 1), (161, .goto 90, 3), (164, .iload_n 1, 1), (165, .bipush 7, 2), (167, .if_icmp .eq 18, 3), (170, .aload_n 0, 1), (171, .iload_n 2, 1), (172, .iload 4, 2), (174, .ineg, 1), (175, .invokevirtual 235, 3), (178, .aload_n 0, 1), (179, .bipush 9, 2)]
theorem dcX11_does_1 : tbX11_does_1.all (fun q => decide (decode cX11_does q.1 = .ok q.2)) = true := by decide +kernel
def tbX11_does_2 : List (Nat × Instr × Nat) := [(181, .iconst 1, 1), (182, .invokevirtual 235, 3), (185, .aload_n 0, 1), (186, .getfield 21, 3), (189, .bipush 13, 2), (191, .iconst 0, 1), (192, .iastore, 1), (193, .goto 58, 3), (196, .aload_n 0, 1), (197, .getfield 21, 3), (200, .bipush 12, 2), (202, .iaload, 1), (203, .ifCond .le 14, 3), (206, .aload_n 0, 1), (207, .getfield 21, 3), (210, .bipush 12, 2), (212, .dup2, 1), (213, .iaload, 1), (214, .iconst 1, 1), (215, .isub, 1), (216, .iastore, 1), (217, .aload_n 0, 1), (218, .getfield 21, 3), (221, .bipush 9, 2), (223, .iconst 0, 1), (224, .iastore, 1), (225, .aload_n 0, 1), (226, .getfield 21, 3), (229, .bipush 13, 2), (231, .iconst 0, 1), (232, .iastore, 1), (233, .goto 18, 3), (236, .aload_n 0, 1), (237, .getfield 21, 3), (240, .bipush 13, 2), (242, .iconst 1, 1), (243, .iastore, 1), (244, .aload_n 0, 1), (245, .bipush 8, 2), (247, .iconst (-1), 1), (248, .invokevirtual 235, 3), (251, .aload_n 0, 1), (252, .iload_n 1, 1), (253, .iload_n 3, 1), (254, .iconst 1, 1), (255, .if_icmp .ne 7, 3), (258, .iconst 1, 1), (259, .goto 4, 3)]
theorem dcX11_does_2 : tbX11_does_2.all (fun q => decide (decode cX11_does q.1 = .ok q.2)) = true := by decide +kernel
def tbX11_does_3 : List (Nat × Instr × Nat) := [(262, .iconst 0, 1), (263, .iload_n 2, 1), (264, .invokevirtual 239, 3), (267, .aload_n 0, 1), (268, .getfield 21, 3), (271, .bipush 14, 2), (273, .dup2, 1), (274, .iaload, 1), (275, .iconst 1, 1), (276, .iadd, 1), (277, .iastore, 1), (278, .iload_n 3, 1), (279, .ireturn, 1)]
theorem dcX11_does_3 : tbX11_does_3.all (fun q => decide (decode cX11_does q.1 = .ok q.2)) = true := by decide +kernel
def tbX11_driven_0 : List (Nat × Instr × Nat) := [(0, .iload_n 1, 1), (1, .iconst 4, 1), (2, .if_icmp .ne 26, 3), (5, .aload_n 0, 1), (6, .bipush 6, 2), (8, .iload_n 2, 1), (9, .ifCond .eq 7, 3), (12, .iconst (-1), 1), (13, .goto 4, 3), (16, .iconst 5, 1), (17, .invokevirtual 235, 3), (20, .aload_n 0, 1), (21, .bipush 7, 2), (23, .bipush (-3), 2), (25, .invokevirtual 235, 3), (28, .iload_n 1, 1), (29, .iconst 5, 1), (30, .if_icmp .ne 19, 3), (33, .aload_n 0, 1), (34, .bipush 10, 2), (36, .bipush (-5), 2), (38, .invokevirtual 235, 3), (41, .aload_n 0, 1), (42, .bipush 11, 2), (44, .bipush (-5), 2), (46, .invokevirtual 235, 3), (49, .iload_n 1, 1), (50, .bipush 7, 2), (52, .if_icmp .ne 21, 3), (55, .iload_n 2, 1), (56, .ifCond .ne 17, 3), (59, .aload_n 0, 1), (60, .iload_n 3, 1), (61, .iconst 3, 1), (62, .invokevirtual 235, 3), (65, .aload_n 0, 1), (66, .bipush 6, 2), (68, .bipush (-2), 2), (70, .invokevirtual 235, 3), (73, .iload_n 1, 1), (74, .iconst 1, 1), (75, .if_icmp .ne 14, 3), (78, .iload_n 2, 1), (79, .ifCond .ne 10, 3), (82, .aload_n 0, 1), (83, .bipush 6, 2), (85, .iconst (-1), 1), (86, .invokevirtual 235, 3)]
theorem dcX11_driven_0 : tbX11_driven_0.all (fun q => decide (decode cX11_driven q.1 = .ok q.2)) = true := by decide +kernel
def tbX11_driven_1 : List (Nat × Instr × Nat) := [(89, .return_, 1)]
theorem dcX11_driven_1 : tbX11_driven_1.all (fun q => decide (decode cX11_driven q.1 = .ok q.2)) = true := by decide +kernel
def tbX11_go_0 : List (Nat × Instr × Nat) := [(0, .iload_n 1, 1), (1, .invokestatic 221, 3), (4, .ifCond .ne 5, 3), (7, .iconst (-1), 1), (8, .ireturn, 1), (9, .aload_n 0, 1), (10, .getfield 21, 3), (13, .bipush 14, 2), (15, .iaload, 1), (16, .iload_n 1, 1), (17, .bipush 6, 2), (19, .if_icmp .ne 10, 3), (22, .aload_n 0, 1), (23, .invokevirtual 232, 3), (26, .goto 4, 3), (29, .iconst 1, 1), (30, .iadd, 1), (31, .sipush 9999, 3), (34, .if_icmp .le 6, 3), (37, .bipush (-3), 2), (39, .ireturn, 1), (40, .aload_n 0, 1), (41, .iload_n 1, 1), (42, .invokevirtual 243, 3), (45, .ireturn, 1)]
theorem dcX11_go_0 : tbX11_go_0.all (fun q => decide (decode cX11_go q.1 = .ok q.2)) = true := by decide +kernel
def tbX11_row_0 : List (Nat × Instr × Nat) := [(0, .iload_n 1, 1), (1, .iconst (-1), 1), (2, .if_icmp .ne 10, 3), (5, .aload_n 0, 1), (6, .iconst 0, 1), (7, .putfield 246, 3), (10, .iconst 0, 1), (11, .ireturn, 1), (12, .iload_n 1, 1), (13, .invokestatic 221, 3), (16, .ifCond .ne 5, 3), (19, .iconst (-1), 1), (20, .ireturn, 1), (21, .aload_n 0, 1), (22, .getfield 246, 3), (25, .bipush 12, 2), (27, .if_icmp .ne 6, 3), (30, .bipush (-4), 2), (32, .ireturn, 1), (33, .aload_n 0, 1), (34, .getfield 66, 3), (37, .aload_n 0, 1), (38, .getfield 246, 3), (41, .iload_n 1, 1), (42, .iastore, 1), (43, .aload_n 0, 1), (44, .dup, 1), (45, .getfield 246, 3), (48, .iconst 1, 1), (49, .iadd, 1), (50, .putfield 246, 3), (53, .aload_n 0, 1), (54, .getfield 246, 3), (57, .ireturn, 1)]
theorem dcX11_row_0 : tbX11_row_0.all (fun q => decide (decode cX11_row q.1 = .ok q.2)) = true := by decide +kernel
def tbX11_keepNow_0 : List (Nat × Instr × Nat) := [(0, .iconst 0, 1), (1, .istore_n 1, 1), (2, .iload_n 1, 1), (3, .bipush 15, 2), (5, .if_icmp .ge 21, 3), (8, .aload_n 0, 1), (9, .getfield 69, 3), (12, .iload_n 1, 1), (13, .aload_n 0, 1), (14, .getfield 21, 3), (17, .iload_n 1, 1), (18, .iaload, 1), (19, .iastore, 1), (20, .iinc 1 1, 3), (23, .goto (-21), 3), (26, .return_, 1)]
theorem dcX11_keepNow_0 : tbX11_keepNow_0.all (fun q => decide (decode cX11_keepNow q.1 = .ok q.2)) = true := by decide +kernel
def tbX11_layBack_0 : List (Nat × Instr × Nat) := [(0, .iconst 0, 1), (1, .istore_n 1, 1), (2, .iload_n 1, 1), (3, .bipush 15, 2), (5, .if_icmp .ge 21, 3), (8, .aload_n 0, 1), (9, .getfield 21, 3), (12, .iload_n 1, 1), (13, .aload_n 0, 1), (14, .getfield 69, 3), (17, .iload_n 1, 1), (18, .iaload, 1), (19, .iastore, 1), (20, .iinc 1 1, 3), (23, .goto (-21), 3), (26, .return_, 1)]
theorem dcX11_layBack_0 : tbX11_layBack_0.all (fun q => decide (decode cX11_layBack q.1 = .ok q.2)) = true := by decide +kernel
def tbX11_hand_0 : List (Nat × Instr × Nat) := [(0, .iload_n 2, 1), (1, .iconst 0, 1), (2, .bipush 15, 2), (4, .invokestatic 112, 3), (7, .ifCond .ne 5, 3), (10, .iconst (-1), 1), (11, .ireturn, 1), (12, .iload_n 1, 1), (13, .iconst 0, 1), (14, .aload_n 0, 1), (15, .getfield 246, 3), (18, .invokestatic 112, 3), (21, .ifCond .ne 6, 3), (24, .bipush (-2), 2), (26, .ireturn, 1), (27, .aload_n 0, 1), (28, .invokevirtual 249, 3), (31, .iconst 0, 1), (32, .istore_n 3, 1), (33, .iload_n 3, 1), (34, .iload_n 1, 1), (35, .if_icmp .ge 20, 3), (38, .aload_n 0, 1), (39, .aload_n 0, 1), (40, .getfield 66, 3), (43, .iload_n 3, 1), (44, .iaload, 1), (45, .invokevirtual 243, 3), (48, .pop, 1), (49, .iinc 3 1, 3), (52, .goto (-19), 3), (55, .aload_n 0, 1), (56, .iload_n 2, 1), (57, .invokevirtual 128, 3), (60, .istore_n 3, 1), (61, .aload_n 0, 1), (62, .invokevirtual 252, 3), (65, .iload_n 3, 1), (66, .ireturn, 1)]
theorem dcX11_hand_0 : tbX11_hand_0.all (fun q => decide (decode cX11_hand q.1 = .ok q.2)) = true := by decide +kernel
def tbX11_actOf_0 : List (Nat × Instr × Nat) := [(0, .iload_n 0, 1), (1, .istore_n 3, 1), (2, .iload_n 2, 1), (3, .iconst 1, 1), (4, .isub, 1), (5, .istore 4, 2), (7, .iload 4, 2), (9, .iload_n 1, 1), (10, .if_icmp .le 14, 3), (13, .iload_n 3, 1), (14, .bipush 7, 2), (16, .idiv, 1), (17, .istore_n 3, 1), (18, .iinc 4 (-1), 3), (21, .goto (-14), 3), (24, .iload_n 3, 1), (25, .bipush 7, 2), (27, .irem, 1), (28, .bipush 6, 2), (30, .if_icmp .ne 8, 3), (33, .bipush 7, 2), (35, .goto 7, 3), (38, .iload_n 3, 1), (39, .bipush 7, 2), (41, .irem, 1), (42, .ireturn, 1)]
theorem dcX11_actOf_0 : tbX11_actOf_0.all (fun q => decide (decode cX11_actOf q.1 = .ok q.2)) = true := by decide +kernel
def tbX11_rowsOf_0 : List (Nat × Instr × Nat) := [(0, .iconst 1, 1), (1, .istore_n 1, 1), (2, .iconst 0, 1), (3, .istore_n 2, 1), (4, .iload_n 2, 1), (5, .iload_n 0, 1), (6, .if_icmp .ge 14, 3), (9, .iload_n 1, 1), (10, .bipush 7, 2), (12, .imul, 1), (13, .istore_n 1, 1), (14, .iinc 2 1, 3), (17, .goto (-13), 3), (20, .iload_n 1, 1), (21, .ireturn, 1)]
theorem dcX11_rowsOf_0 : tbX11_rowsOf_0.all (fun q => decide (decode cX11_rowsOf q.1 = .ok q.2)) = true := by decide +kernel
def tbX11_atBehind_0 : List (Nat × Instr × Nat) := [(0, .aload_n 0, 1), (1, .invokevirtual 249, 3), (4, .iconst 0, 1), (5, .istore_n 3, 1), (6, .iload_n 3, 1), (7, .iload_n 2, 1), (8, .if_icmp .ge 20, 3), (11, .aload_n 0, 1), (12, .iload_n 1, 1), (13, .iload_n 3, 1), (14, .iload_n 2, 1), (15, .invokestatic 255, 3), (18, .invokevirtual 243, 3), (21, .pop, 1), (22, .iinc 3 1, 3), (25, .goto (-19), 3), (28, .aload_n 0, 1), (29, .getfield 21, 3), (32, .bipush 12, 2), (34, .iaload, 1), (35, .istore_n 3, 1), (36, .aload_n 0, 1), (37, .aload_n 0, 1), (38, .invokevirtual 124, 3), (41, .putfield 259, 3), (44, .aload_n 0, 1), (45, .invokevirtual 252, 3), (48, .iload_n 3, 1), (49, .ireturn, 1)]
theorem dcX11_atBehind_0 : tbX11_atBehind_0.all (fun q => decide (decode cX11_atBehind q.1 = .ok q.2)) = true := by decide +kernel
def tbX11_soonest_0 : List (Nat × Instr × Nat) := [(0, .iload_n 2, 1), (1, .iconst (-1), 1), (2, .iconst 3, 1), (3, .invokestatic 112, 3), (6, .ifCond .ne 5, 3), (9, .iconst (-1), 1), (10, .ireturn, 1), (11, .iload_n 1, 1), (12, .iconst 0, 1), (13, .iconst 4, 1), (14, .invokestatic 112, 3), (17, .ifCond .ne 6, 3), (20, .bipush (-2), 2), (22, .ireturn, 1), (23, .aload_n 0, 1), (24, .invokevirtual 203, 3), (27, .ifCond .eq 6, 3), (30, .bipush (-3), 2), (32, .ireturn, 1), (33, .iconst 1, 1), (34, .istore_n 3, 1), (35, .iload_n 3, 1), (36, .iload_n 1, 1), (37, .if_icmp .gt 75, 3), (40, .iconst 0, 1), (41, .istore 4, 2), (43, .iload 4, 2), (45, .iload_n 3, 1), (46, .invokestatic 262, 3), (49, .if_icmp .ge 57, 3), (52, .aload_n 0, 1), (53, .iload 4, 2), (55, .iload_n 3, 1), (56, .invokevirtual 265, 3), (59, .aload_n 0, 1), (60, .getfield 21, 3), (63, .bipush 12, 2), (65, .iaload, 1), (66, .iconst 1, 1), (67, .iadd, 1), (68, .if_icmp .eq 6, 3), (71, .goto 29, 3), (74, .iload_n 2, 1), (75, .ifCond .ge 7, 3), (78, .iload_n 3, 1), (79, .goto 20, 3), (82, .iload_n 2, 1), (83, .iload_n 3, 1)]
theorem dcX11_soonest_0 : tbX11_soonest_0.all (fun q => decide (decode cX11_soonest q.1 = .ok q.2)) = true := by decide +kernel
def tbX11_soonest_1 : List (Nat × Instr × Nat) := [(84, .if_icmp .ge 13, 3), (87, .iload 4, 2), (89, .iload_n 2, 1), (90, .iload_n 3, 1), (91, .invokestatic 255, 3), (94, .goto 5, 3), (97, .bipush (-5), 2), (99, .ireturn, 1), (100, .iinc 4 1, 3), (103, .goto (-60), 3), (106, .iinc 3 1, 3), (109, .goto (-74), 3), (112, .bipush (-5), 2), (114, .ireturn, 1)]
theorem dcX11_soonest_1 : tbX11_soonest_1.all (fun q => decide (decode cX11_soonest q.1 = .ok q.2)) = true := by decide +kernel
def tbX11_gentlest_0 : List (Nat × Instr × Nat) := [(0, .iload_n 1, 1), (1, .iconst 1, 1), (2, .iconst 4, 1), (3, .invokestatic 112, 3), (6, .ifCond .ne 6, 3), (9, .bipush (-2), 2), (11, .ireturn, 1), (12, .iload_n 2, 1), (13, .iconst (-1), 1), (14, .iload_n 1, 1), (15, .iconst 1, 1), (16, .isub, 1), (17, .invokestatic 112, 3), (20, .ifCond .ne 5, 3), (23, .iconst (-1), 1), (24, .ireturn, 1), (25, .aload_n 0, 1), (26, .invokevirtual 203, 3), (29, .ifCond .eq 6, 3), (32, .bipush (-3), 2), (34, .ireturn, 1), (35, .iconst (-1), 1), (36, .istore_n 3, 1), (37, .iconst 0, 1), (38, .istore 4, 2), (40, .iconst 0, 1), (41, .istore 5, 2), (43, .iload 5, 2), (45, .iload_n 1, 1), (46, .invokestatic 262, 3), (49, .if_icmp .ge 51, 3), (52, .aload_n 0, 1), (53, .iload 5, 2), (55, .iload_n 1, 1), (56, .invokevirtual 265, 3), (59, .aload_n 0, 1), (60, .getfield 21, 3), (63, .bipush 12, 2), (65, .iaload, 1), (66, .if_icmp .le 28, 3), (69, .iload_n 3, 1), (70, .ifCond .lt 15, 3), (73, .aload_n 0, 1), (74, .getfield 259, 3), (77, .iload 4, 2), (79, .if_icmp .lt 6, 3), (82, .goto 12, 3), (85, .iload 5, 2)]
theorem dcX11_gentlest_0 : tbX11_gentlest_0.all (fun q => decide (decode cX11_gentlest q.1 = .ok q.2)) = true := by decide +kernel
def tbX11_gentlest_1 : List (Nat × Instr × Nat) := [(87, .istore_n 3, 1), (88, .aload_n 0, 1), (89, .getfield 259, 3), (92, .istore 4, 2), (94, .iinc 5 1, 3), (97, .goto (-54), 3), (100, .iload_n 3, 1), (101, .ifCond .ge 8, 3), (104, .bipush (-5), 2), (106, .goto 18, 3), (109, .iload_n 2, 1), (110, .ifCond .ge 8, 3), (113, .iload 4, 2), (115, .goto 9, 3), (118, .iload_n 3, 1), (119, .iload_n 2, 1), (120, .iload_n 1, 1), (121, .invokestatic 255, 3), (124, .ireturn, 1)]
theorem dcX11_gentlest_1 : tbX11_gentlest_1.all (fun q => decide (decode cX11_gentlest q.1 = .ok q.2)) = true := by decide +kernel
def tbX11_why_0 : List (Nat × Instr × Nat) := [(0, .aload_n 0, 1), (1, .invokevirtual 203, 3), (4, .ifCond .ne 12, 3), (7, .aload_n 0, 1), (8, .iconst 0, 1), (9, .invokevirtual 229, 3), (12, .iconst 1, 1), (13, .if_icmp .ne 6, 3), (16, .bipush (-5), 2), (18, .ireturn, 1), (19, .iconst 0, 1), (20, .istore_n 1, 1), (21, .iconst 1, 1), (22, .istore_n 2, 1), (23, .iload_n 2, 1), (24, .bipush 6, 2), (26, .if_icmp .gt 26, 3), (29, .aload_n 0, 1), (30, .iload_n 2, 1), (31, .iconst 0, 1), (32, .invokevirtual 215, 3), (35, .aload_n 0, 1), (36, .iload_n 1, 1), (37, .iconst 0, 1), (38, .invokevirtual 215, 3), (41, .if_icmp .le 5, 3), (44, .iload_n 2, 1), (45, .istore_n 1, 1), (46, .iinc 2 1, 3), (49, .goto (-26), 3), (52, .iload_n 1, 1), (53, .ireturn, 1)]
theorem dcX11_why_0 : tbX11_why_0.all (fun q => decide (decode cX11_why q.1 = .ok q.2)) = true := by decide +kernel
def tbX11_waitsFor_0 : List (Nat × Instr × Nat) := [(0, .aload_n 0, 1), (1, .invokevirtual 249, 3), (4, .bipush (-5), 2), (6, .istore_n 1, 1), (7, .iconst 1, 1), (8, .istore_n 2, 1), (9, .iload_n 2, 1), (10, .bipush 60, 2), (12, .if_icmp .gt 40, 3), (15, .iload_n 1, 1), (16, .ifCond .ge 36, 3), (19, .aload_n 0, 1), (20, .iconst 0, 1), (21, .invokevirtual 243, 3), (24, .pop, 1), (25, .aload_n 0, 1), (26, .getfield 21, 3), (29, .bipush 12, 2), (31, .iaload, 1), (32, .aload_n 0, 1), (33, .getfield 69, 3), (36, .bipush 12, 2), (38, .iaload, 1), (39, .iconst 1, 1), (40, .iadd, 1), (41, .if_icmp .ne 5, 3), (44, .iload_n 2, 1), (45, .istore_n 1, 1), (46, .iinc 2 1, 3), (49, .goto (-40), 3), (52, .aload_n 0, 1), (53, .invokevirtual 252, 3), (56, .iload_n 1, 1), (57, .ireturn, 1)]
theorem dcX11_waitsFor_0 : tbX11_waitsFor_0.all (fun q => decide (decode cX11_waitsFor q.1 = .ok q.2)) = true := by decide +kernel
def tbX11_waits_0 : List (Nat × Instr × Nat) := [(0, .aload_n 0, 1), (1, .invokevirtual 203, 3), (4, .ifCond .eq 8, 3), (7, .bipush (-3), 2), (9, .goto 7, 3), (12, .aload_n 0, 1), (13, .invokevirtual 268, 3), (16, .ireturn, 1)]
theorem dcX11_waits_0 : tbX11_waits_0.all (fun q => decide (decode cX11_waits q.1 = .ok q.2)) = true := by decide +kernel
def tbX11_round_0 : List (Nat × Instr × Nat) := [(0, .aload_n 0, 1), (1, .invokevirtual 203, 3), (4, .ifCond .eq 6, 3), (7, .bipush (-3), 2), (9, .ireturn, 1), (10, .aload_n 0, 1), (11, .invokevirtual 268, 3), (14, .istore_n 1, 1), (15, .iload_n 1, 1), (16, .ifCond .lt 11, 3), (19, .aload_n 0, 1), (20, .invokevirtual 232, 3), (23, .iload_n 1, 1), (24, .if_icmp .ge 7, 3), (27, .iconst 1, 1), (28, .goto 4, 3), (31, .iconst 0, 1), (32, .ireturn, 1)]
theorem dcX11_round_0 : tbX11_round_0.all (fun q => decide (decode cX11_round q.1 = .ok q.2)) = true := by decide +kernel
def tbX11_shiftLoad_0 : List (Nat × Instr × Nat) := [(0, .aload_n 0, 1), (1, .invokevirtual 203, 3), (4, .ifCond .eq 6, 3), (7, .ldc 225, 2), (9, .ireturn, 1), (10, .iconst 0, 1), (11, .istore_n 1, 1), (12, .aload_n 0, 1), (13, .iconst 2, 1), (14, .invokevirtual 206, 3), (17, .istore_n 2, 1), (18, .aload_n 0, 1), (19, .getfield 21, 3), (22, .bipush 10, 2), (24, .iaload, 1), (25, .istore_n 3, 1), (26, .aload_n 0, 1), (27, .getfield 21, 3), (30, .bipush 11, 2), (32, .iaload, 1), (33, .istore 4, 2), (35, .iconst 1, 1), (36, .istore 5, 2), (38, .iload 5, 2), (40, .bipush 99, 2), (42, .if_icmp .gt 114, 3), (45, .iconst 1, 1), (46, .istore 6, 2), (48, .iload 6, 2), (50, .iconst (-1), 1), (51, .if_icmp .lt 99, 3), (54, .iload_n 3, 1), (55, .iload 6, 2), (57, .iload 5, 2), (59, .imul, 1), (60, .isub, 1), (61, .iconst 0, 1), (62, .bipush 99, 2), (64, .invokestatic 112, 3), (67, .ifCond .eq 77, 3), (70, .iload 4, 2), (72, .iload 6, 2), (74, .iload 5, 2), (76, .imul, 1), (77, .iadd, 1), (78, .iconst 0, 1), (79, .bipush 99, 2), (81, .invokestatic 112, 3)]
theorem dcX11_shiftLoad_0 : tbX11_shiftLoad_0.all (fun q => decide (decode cX11_shiftLoad q.1 = .ok q.2)) = true := by decide +kernel
def tbX11_shiftLoad_1 : List (Nat × Instr × Nat) := [(84, .ifCond .ne 6, 3), (87, .goto 57, 3), (90, .aload_n 0, 1), (91, .getfield 21, 3), (94, .bipush 10, 2), (96, .iload_n 3, 1), (97, .iload 6, 2), (99, .iload 5, 2), (101, .imul, 1), (102, .isub, 1), (103, .iastore, 1), (104, .aload_n 0, 1), (105, .getfield 21, 3), (108, .bipush 11, 2), (110, .iload 4, 2), (112, .iload 6, 2), (114, .iload 5, 2), (116, .imul, 1), (117, .iadd, 1), (118, .iastore, 1), (119, .aload_n 0, 1), (120, .iconst 2, 1), (121, .invokevirtual 206, 3), (124, .istore 7, 2), (126, .iload 7, 2), (128, .iload_n 2, 1), (129, .if_icmp .lt 6, 3), (132, .goto 12, 3), (135, .iload 6, 2), (137, .iload 5, 2), (139, .imul, 1), (140, .istore_n 1, 1), (141, .iload 7, 2), (143, .istore_n 2, 1), (144, .iinc 6 (-2), 3), (147, .goto (-99), 3), (150, .iinc 5 1, 3), (153, .goto (-115), 3), (156, .aload_n 0, 1), (157, .getfield 21, 3), (160, .bipush 10, 2), (162, .iload_n 3, 1), (163, .iastore, 1), (164, .aload_n 0, 1), (165, .getfield 21, 3), (168, .bipush 11, 2), (170, .iload 4, 2), (172, .iastore, 1)]
theorem dcX11_shiftLoad_1 : tbX11_shiftLoad_1.all (fun q => decide (decode cX11_shiftLoad q.1 = .ok q.2)) = true := by decide +kernel
def tbX11_shiftLoad_2 : List (Nat × Instr × Nat) := [(173, .iload_n 1, 1), (174, .ireturn, 1)]
theorem dcX11_shiftLoad_2 : tbX11_shiftLoad_2.all (fun q => decide (decode cX11_shiftLoad q.1 = .ok q.2)) = true := by decide +kernel
def tbX11_wander_0 : List (Nat × Instr × Nat) := [(0, .iload_n 1, 1), (1, .iconst 0, 1), (2, .bipush 10, 2), (4, .invokestatic 112, 3), (7, .ifCond .ne 6, 3), (10, .bipush (-2), 2), (12, .ireturn, 1), (13, .aload_n 0, 1), (14, .getfield 271, 3), (17, .istore_n 2, 1), (18, .aload_n 0, 1), (19, .iload_n 1, 1), (20, .putfield 271, 3), (23, .iload_n 2, 1), (24, .ireturn, 1)]
theorem dcX11_wander_0 : tbX11_wander_0.all (fun q => decide (decode cX11_wander q.1 = .ok q.2)) = true := by decide +kernel
def tbX11_lowest_0 : List (Nat × Instr × Nat) := [(0, .lload_n 0, 1), (1, .lconst 0, 1), (2, .lcmp, 1), (3, .ifCond .ne 14, 3), (6, .iload 4, 2), (8, .ifCond .eq 7, 3), (11, .lconst 0, 1), (12, .goto 4, 3), (15, .lconst 1, 1), (16, .lreturn, 1), (17, .lload_n 0, 1), (18, .lstore 5, 2), (20, .lload_n 2, 1), (21, .lstore 7, 2), (23, .lload 7, 2), (25, .lconst 0, 1), (26, .lcmp, 1), (27, .ifCond .eq 21, 3), (30, .lload 5, 2), (32, .lload 7, 2), (34, .lrem, 1), (35, .lstore 9, 2), (37, .lload 7, 2), (39, .lstore 5, 2), (41, .lload 9, 2), (43, .lstore 7, 2), (45, .goto (-22), 3), (48, .iload 4, 2), (50, .ifCond .eq 10, 3), (53, .lload_n 0, 1), (54, .lload 5, 2), (56, .ldiv, 1), (57, .goto 7, 3), (60, .lload_n 2, 1), (61, .lload 5, 2), (63, .ldiv, 1), (64, .lreturn, 1)]
theorem dcX11_lowest_0 : tbX11_lowest_0.all (fun q => decide (decode cX11_lowest q.1 = .ok q.2)) = true := by decide +kernel
def tbX11_sure_0 : List (Nat × Instr × Nat) := [(0, .iload_n 1, 1), (1, .iconst 1, 1), (2, .bipush 6, 2), (4, .invokestatic 112, 3), (7, .ifCond .eq 20, 3), (10, .iload_n 1, 1), (11, .aload_n 0, 1), (12, .getfield 246, 3), (15, .if_icmp .gt 12, 3), (18, .iload_n 2, 1), (19, .iconst 0, 1), (20, .iconst 1, 1), (21, .invokestatic 112, 3), (24, .ifCond .ne 7, 3), (27, .ldc2_w 274, 3), (30, .lreturn, 1), (31, .lconst 0, 1), (32, .lstore_n 3, 1), (33, .lconst 1, 1), (34, .lstore 5, 2), (36, .iconst 0, 1), (37, .istore 7, 2), (39, .iload 7, 2), (41, .iload_n 1, 1), (42, .if_icmp .ge 17, 3), (45, .lload 5, 2), (47, .ldc2_w 276, 3), (50, .lmul, 1), (51, .lstore 5, 2), (53, .iinc 7 1, 3), (56, .goto (-17), 3), (59, .iconst 0, 1), (60, .istore 7, 2), (62, .iload 7, 2), (64, .iconst 1, 1), (65, .iload_n 1, 1), (66, .ishl, 1), (67, .if_icmp .ge 145, 3), (70, .aload_n 0, 1), (71, .invokevirtual 249, 3), (74, .lconst 1, 1), (75, .lstore 8, 2), (77, .iconst 0, 1), (78, .istore 10, 2), (80, .iload 10, 2), (82, .iload_n 1, 1), (83, .if_icmp .ge 92, 3), (86, .iload 7, 2)]
theorem dcX11_sure_0 : tbX11_sure_0.all (fun q => decide (decode cX11_sure q.1 = .ok q.2)) = true := by decide +kernel
def tbX11_sure_1 : List (Nat × Instr × Nat) := [(88, .iload 10, 2), (90, .ishr, 1), (91, .iconst 1, 1), (92, .iand, 1), (93, .iconst 1, 1), (94, .if_icmp .ne 7, 3), (97, .iconst 1, 1), (98, .goto 4, 3), (101, .iconst 0, 1), (102, .istore 11, 2), (104, .aload_n 0, 1), (105, .iload 11, 2), (107, .ifCond .eq 20, 3), (110, .aload_n 0, 1), (111, .getfield 66, 3), (114, .iload 10, 2), (116, .iaload, 1), (117, .bipush 6, 2), (119, .if_icmp .eq 8, 3), (122, .bipush 10, 2), (124, .goto 4, 3), (127, .iconst 0, 1), (128, .putfield 218, 3), (131, .lload 8, 2), (133, .iload 11, 2), (135, .ifCond .eq 11, 3), (138, .aload_n 0, 1), (139, .getfield 271, 3), (142, .i2l, 1), (143, .goto 11, 3), (146, .bipush 10, 2), (148, .aload_n 0, 1), (149, .getfield 271, 3), (152, .isub, 1), (153, .i2l, 1), (154, .lmul, 1), (155, .lstore 8, 2), (157, .aload_n 0, 1), (158, .aload_n 0, 1), (159, .getfield 66, 3), (162, .iload 10, 2), (164, .iaload, 1), (165, .invokevirtual 243, 3), (168, .pop, 1), (169, .iinc 10 1, 3), (172, .goto (-92), 3), (175, .aload_n 0, 1), (176, .iconst 0, 1)]
theorem dcX11_sure_1 : tbX11_sure_1.all (fun q => decide (decode cX11_sure q.1 = .ok q.2)) = true := by decide +kernel
def tbX11_sure_2 : List (Nat × Instr × Nat) := [(177, .putfield 218, 3), (180, .aload_n 0, 1), (181, .getfield 21, 3), (184, .bipush 12, 2), (186, .iaload, 1), (187, .aload_n 0, 1), (188, .getfield 69, 3), (191, .bipush 12, 2), (193, .iaload, 1), (194, .if_icmp .le 8, 3), (197, .lload_n 3, 1), (198, .lload 8, 2), (200, .ladd, 1), (201, .lstore_n 3, 1), (202, .aload_n 0, 1), (203, .invokevirtual 252, 3), (206, .iinc 7 1, 3), (209, .goto (-147), 3), (212, .lload_n 3, 1), (213, .lload 5, 2), (215, .iload_n 2, 1), (216, .ifCond .ne 7, 3), (219, .iconst 1, 1), (220, .goto 4, 3), (223, .iconst 0, 1), (224, .invokestatic 278, 3), (227, .lreturn, 1)]
theorem dcX11_sure_2 : tbX11_sure_2.all (fun q => decide (decode cX11_sure q.1 = .ok q.2)) = true := by decide +kernel
def tbX11_days_0 : List (Nat × Instr × Nat) := [(0, .iload_n 2, 1), (1, .iconst 0, 1), (2, .iconst 2, 1), (3, .invokestatic 112, 3), (6, .ifCond .ne 5, 3), (9, .iconst (-1), 1), (10, .ireturn, 1), (11, .iload_n 1, 1), (12, .iconst 0, 1), (13, .bipush 99, 2), (15, .invokestatic 112, 3), (18, .ifCond .ne 6, 3), (21, .bipush (-2), 2), (23, .ireturn, 1), (24, .aload_n 0, 1), (25, .invokevirtual 249, 3), (28, .iconst 0, 1), (29, .istore_n 3, 1), (30, .iload_n 3, 1), (31, .iload_n 1, 1), (32, .if_icmp .ge 63, 3), (35, .aload_n 0, 1), (36, .getfield 21, 3), (39, .bipush 12, 2), (41, .iconst 0, 1), (42, .iastore, 1), (43, .aload_n 0, 1), (44, .getfield 21, 3), (47, .bipush 9, 2), (49, .iconst 0, 1), (50, .iastore, 1), (51, .aload_n 0, 1), (52, .getfield 21, 3), (55, .bipush 13, 2), (57, .iconst 0, 1), (58, .iastore, 1), (59, .iconst 0, 1), (60, .istore 4, 2), (62, .iload 4, 2), (64, .aload_n 0, 1), (65, .getfield 246, 3), (68, .if_icmp .ge 21, 3), (71, .aload_n 0, 1), (72, .aload_n 0, 1), (73, .getfield 66, 3), (76, .iload 4, 2), (78, .iaload, 1), (79, .invokevirtual 243, 3)]
theorem dcX11_days_0 : tbX11_days_0.all (fun q => decide (decode cX11_days q.1 = .ok q.2)) = true := by decide +kernel
def tbX11_days_1 : List (Nat × Instr × Nat) := [(82, .pop, 1), (83, .iinc 4 1, 3), (86, .goto (-24), 3), (89, .iinc 3 1, 3), (92, .goto (-62), 3), (95, .iload_n 2, 1), (96, .ifCond .ne 10, 3), (99, .aload_n 0, 1), (100, .invokevirtual 124, 3), (103, .goto 25, 3), (106, .iload_n 2, 1), (107, .iconst 1, 1), (108, .if_icmp .ne 13, 3), (111, .aload_n 0, 1), (112, .getfield 21, 3), (115, .bipush 6, 2), (117, .iaload, 1), (118, .goto 10, 3), (121, .aload_n 0, 1), (122, .getfield 21, 3), (125, .bipush 12, 2), (127, .iaload, 1), (128, .istore_n 3, 1), (129, .aload_n 0, 1), (130, .invokevirtual 252, 3), (133, .iload_n 3, 1), (134, .ireturn, 1)]
theorem dcX11_days_1 : tbX11_days_1.all (fun q => decide (decode cX11_days q.1 = .ok q.2)) = true := by decide +kernel
def tbX11_beast_0 : List (Nat × Instr × Nat) := [(0, .iload_n 1, 1), (1, .iconst (-1), 1), (2, .if_icmp .ne 10, 3), (5, .aload_n 0, 1), (6, .iconst 0, 1), (7, .putfield 282, 3), (10, .iconst 0, 1), (11, .ireturn, 1), (12, .iload_n 1, 1), (13, .iconst 0, 1), (14, .bipush 99, 2), (16, .invokestatic 112, 3), (19, .ifCond .ne 6, 3), (22, .bipush (-2), 2), (24, .ireturn, 1), (25, .aload_n 0, 1), (26, .getfield 282, 3), (29, .iconst 4, 1), (30, .if_icmp .ne 6, 3), (33, .bipush (-4), 2), (35, .ireturn, 1), (36, .aload_n 0, 1), (37, .getfield 72, 3), (40, .aload_n 0, 1), (41, .getfield 282, 3), (44, .iload_n 1, 1), (45, .iastore, 1), (46, .aload_n 0, 1), (47, .dup, 1), (48, .getfield 282, 3), (51, .iconst 1, 1), (52, .iadd, 1), (53, .putfield 282, 3), (56, .aload_n 0, 1), (57, .getfield 282, 3), (60, .ireturn, 1)]
theorem dcX11_beast_0 : tbX11_beast_0.all (fun q => decide (decode cX11_beast q.1 = .ok q.2)) = true := by decide +kernel
def tbX11_string_0 : List (Nat × Instr × Nat) := [(0, .iload_n 1, 1), (1, .iconst 0, 1), (2, .iconst 2, 1), (3, .invokestatic 112, 3), (6, .ifCond .ne 5, 3), (9, .iconst (-1), 1), (10, .ireturn, 1), (11, .aload_n 0, 1), (12, .invokevirtual 203, 3), (15, .ifCond .eq 6, 3), (18, .bipush (-3), 2), (20, .ireturn, 1), (21, .aload_n 0, 1), (22, .getfield 282, 3), (25, .ifCond .ne 6, 3), (28, .bipush (-5), 2), (30, .ireturn, 1), (31, .iconst 0, 1), (32, .istore_n 2, 1), (33, .iconst 1, 1), (34, .istore_n 3, 1), (35, .iload_n 3, 1), (36, .aload_n 0, 1), (37, .getfield 282, 3), (40, .if_icmp .ge 26, 3), (43, .aload_n 0, 1), (44, .getfield 72, 3), (47, .iload_n 3, 1), (48, .iaload, 1), (49, .aload_n 0, 1), (50, .getfield 72, 3), (53, .iload_n 2, 1), (54, .iaload, 1), (55, .if_icmp .ge 5, 3), (58, .iload_n 3, 1), (59, .istore_n 2, 1), (60, .iinc 3 1, 3), (63, .goto (-28), 3), (66, .iload_n 1, 1), (67, .ifCond .ne 5, 3), (70, .iload_n 2, 1), (71, .ireturn, 1), (72, .aload_n 0, 1), (73, .getfield 21, 3), (76, .aload_n 0, 1), (77, .getfield 18, 3), (80, .aload_n 0, 1), (81, .getfield 21, 3)]
theorem dcX11_string_0 : tbX11_string_0.all (fun q => decide (decode cX11_string q.1 = .ok q.2)) = true := by decide +kernel
def tbX11_string_1 : List (Nat × Instr × Nat) := [(84, .bipush 12, 2), (86, .iaload, 1), (87, .iaload, 1), (88, .iaload, 1), (89, .aload_n 0, 1), (90, .getfield 72, 3), (93, .iload_n 2, 1), (94, .iaload, 1), (95, .isub, 1), (96, .istore_n 3, 1), (97, .iload_n 3, 1), (98, .ifCond .ge 7, 3), (101, .iconst 0, 1), (102, .goto 7, 3), (105, .iload_n 3, 1), (106, .bipush 10, 2), (108, .idiv, 1), (109, .istore 4, 2), (111, .iload_n 1, 1), (112, .iconst 1, 1), (113, .if_icmp .ne 6, 3), (116, .iload 4, 2), (118, .ireturn, 1), (119, .aload_n 0, 1), (120, .iload 4, 2), (122, .putfield 212, 3), (125, .aload_n 0, 1), (126, .iconst 1, 1), (127, .invokevirtual 229, 3), (130, .iconst 1, 1), (131, .if_icmp .ne 7, 3), (134, .iconst 1, 1), (135, .goto 4, 3), (138, .iconst 0, 1), (139, .istore 5, 2), (141, .aload_n 0, 1), (142, .iconst 0, 1), (143, .putfield 212, 3), (146, .iload 5, 2), (148, .ireturn, 1)]
theorem dcX11_string_1 : tbX11_string_1.all (fun q => decide (decode cX11_string q.1 = .ok q.2)) = true := by decide +kernel
def tbX11_film_0 : List (Nat × Instr × Nat) := [(0, .iload_n 1, 1), (1, .iconst (-1), 1), (2, .if_icmp .ne 10, 3), (5, .aload_n 0, 1), (6, .iconst 0, 1), (7, .putfield 285, 3), (10, .iconst 0, 1), (11, .ireturn, 1), (12, .iload_n 1, 1), (13, .iconst 0, 1), (14, .iconst 3, 1), (15, .invokestatic 112, 3), (18, .ifCond .ne 5, 3), (21, .iconst (-1), 1), (22, .ireturn, 1), (23, .aload_n 0, 1), (24, .getfield 285, 3), (27, .bipush 12, 2), (29, .if_icmp .ne 6, 3), (32, .bipush (-4), 2), (34, .ireturn, 1), (35, .aload_n 0, 1), (36, .getfield 75, 3), (39, .aload_n 0, 1), (40, .getfield 285, 3), (43, .iload_n 1, 1), (44, .iastore, 1), (45, .aload_n 0, 1), (46, .dup, 1), (47, .getfield 285, 3), (50, .iconst 1, 1), (51, .iadd, 1), (52, .putfield 285, 3), (55, .aload_n 0, 1), (56, .getfield 285, 3), (59, .ireturn, 1)]
theorem dcX11_film_0 : tbX11_film_0.all (fun q => decide (decode cX11_film q.1 = .ok q.2)) = true := by decide +kernel
def tbX11_off_0 : List (Nat × Instr × Nat) := [(0, .aload_n 0, 1), (1, .invokevirtual 249, 3), (4, .bipush (-5), 2), (6, .istore_n 1, 1), (7, .iconst 0, 1), (8, .istore_n 2, 1), (9, .iload_n 2, 1), (10, .aload_n 0, 1), (11, .getfield 246, 3), (14, .if_icmp .ge 42, 3), (17, .iload_n 2, 1), (18, .aload_n 0, 1), (19, .getfield 285, 3), (22, .if_icmp .ge 34, 3), (25, .iload_n 1, 1), (26, .ifCond .ge 30, 3), (29, .aload_n 0, 1), (30, .aload_n 0, 1), (31, .getfield 66, 3), (34, .iload_n 2, 1), (35, .iaload, 1), (36, .invokevirtual 243, 3), (39, .aload_n 0, 1), (40, .getfield 75, 3), (43, .iload_n 2, 1), (44, .iaload, 1), (45, .if_icmp .eq 5, 3), (48, .iload_n 2, 1), (49, .istore_n 1, 1), (50, .iinc 2 1, 3), (53, .goto (-44), 3), (56, .aload_n 0, 1), (57, .invokevirtual 252, 3), (60, .iload_n 1, 1), (61, .ireturn, 1)]
theorem dcX11_off_0 : tbX11_off_0.all (fun q => decide (decode cX11_off q.1 = .ok q.2)) = true := by decide +kernel
def tbX11_isTape_0 : List (Nat × Instr × Nat) := [(0, .iload_n 0, 1), (1, .iconst 0, 1), (2, .iconst 5, 1), (3, .invokestatic 112, 3), (6, .ireturn, 1)]
theorem dcX11_isTape_0 : tbX11_isTape_0.all (fun q => decide (decode cX11_isTape q.1 = .ok q.2)) = true := by decide +kernel
def tbX11_judge_0 : List (Nat × Instr × Nat) := [(0, .iload_n 1, 1), (1, .invokestatic 288, 3), (4, .ifCond .ne 5, 3), (7, .iconst (-1), 1), (8, .ireturn, 1), (9, .aload_n 0, 1), (10, .getfield 78, 3), (13, .iload_n 1, 1), (14, .iaload, 1), (15, .ifCond .le 6, 3), (18, .bipush (-12), 2), (20, .ireturn, 1), (21, .aload_n 0, 1), (22, .getfield 246, 3), (25, .ifCond .ne 6, 3), (28, .bipush (-5), 2), (30, .ireturn, 1), (31, .aload_n 0, 1), (32, .getfield 78, 3), (35, .iload_n 1, 1), (36, .iaload, 1), (37, .ifCond .lt 7, 3), (40, .iload_n 2, 1), (41, .ifCond .ge 6, 3), (44, .bipush 100, 2), (46, .ireturn, 1), (47, .aload_n 0, 1), (48, .invokevirtual 249, 3), (51, .bipush (-5), 2), (53, .istore_n 3, 1), (54, .iconst 0, 1), (55, .istore 4, 2), (57, .iload 4, 2), (59, .aload_n 0, 1), (60, .getfield 246, 3), (63, .if_icmp .ge 80, 3), (66, .iload_n 3, 1), (67, .ifCond .ge 76, 3), (70, .iload_n 2, 1), (71, .i2l, 1), (72, .iload 4, 2), (74, .i2l, 1), (75, .ladd, 1), (76, .aload_n 0, 1), (77, .getfield 81, 3), (80, .iload_n 1, 1), (81, .iaload, 1), (82, .i2l, 1)]
theorem dcX11_judge_0 : tbX11_judge_0.all (fun q => decide (decode cX11_judge q.1 = .ok q.2)) = true := by decide +kernel
def tbX11_judge_1 : List (Nat × Instr × Nat) := [(83, .lcmp, 1), (84, .ifCond .lt 12, 3), (87, .bipush 100, 2), (89, .iload 4, 2), (91, .iadd, 1), (92, .istore_n 3, 1), (93, .goto 44, 3), (96, .aload_n 0, 1), (97, .aload_n 0, 1), (98, .getfield 66, 3), (101, .iload 4, 2), (103, .iaload, 1), (104, .invokevirtual 243, 3), (107, .pop, 1), (108, .aload_n 0, 1), (109, .getfield 84, 3), (112, .bipush 60, 2), (114, .iload_n 1, 1), (115, .imul, 1), (116, .iload_n 2, 1), (117, .iadd, 1), (118, .iload 4, 2), (120, .iadd, 1), (121, .laload, 1), (122, .aload_n 0, 1), (123, .getfield 21, 3), (126, .bipush 12, 2), (128, .iaload, 1), (129, .i2l, 1), (130, .lcmp, 1), (131, .ifCond .eq 6, 3), (134, .iload 4, 2), (136, .istore_n 3, 1), (137, .iinc 4 1, 3), (140, .goto (-83), 3), (143, .aload_n 0, 1), (144, .invokevirtual 252, 3), (147, .iload_n 3, 1), (148, .ireturn, 1)]
theorem dcX11_judge_1 : tbX11_judge_1.all (fun q => decide (decode cX11_judge q.1 = .ok q.2)) = true := by decide +kernel
def tbX11_image_0 : List (Nat × Instr × Nat) := [(0, .aload_n 0, 1), (1, .iconst 1, 1), (2, .putfield 291, 3), (5, .aload_n 0, 1), (6, .aload_n 0, 1), (7, .getfield 28, 3), (10, .putfield 295, 3), (13, .aload_n 0, 1), (14, .aload_n 0, 1), (15, .getfield 271, 3), (18, .putfield 298, 3), (21, .aload_n 0, 1), (22, .aload_n 0, 1), (23, .getfield 246, 3), (26, .putfield 301, 3), (29, .aload_n 0, 1), (30, .aload_n 0, 1), (31, .getfield 285, 3), (34, .putfield 304, 3), (37, .aload_n 0, 1), (38, .aload_n 0, 1), (39, .getfield 282, 3), (42, .putfield 307, 3), (45, .iconst 0, 1), (46, .istore_n 1, 1), (47, .iload_n 1, 1), (48, .bipush 15, 2), (50, .if_icmp .ge 21, 3), (53, .aload_n 0, 1), (54, .getfield 91, 3), (57, .iload_n 1, 1), (58, .aload_n 0, 1), (59, .getfield 21, 3), (62, .iload_n 1, 1), (63, .iaload, 1), (64, .iastore, 1), (65, .iinc 1 1, 3), (68, .goto (-21), 3), (71, .iconst 0, 1), (72, .istore_n 1, 1), (73, .iload_n 1, 1), (74, .bipush 12, 2), (76, .if_icmp .ge 33, 3), (79, .aload_n 0, 1), (80, .getfield 94, 3), (83, .iload_n 1, 1), (84, .aload_n 0, 1), (85, .getfield 66, 3)]
theorem dcX11_image_0 : tbX11_image_0.all (fun q => decide (decode cX11_image q.1 = .ok q.2)) = true := by decide +kernel
def tbX11_image_1 : List (Nat × Instr × Nat) := [(88, .iload_n 1, 1), (89, .iaload, 1), (90, .iastore, 1), (91, .aload_n 0, 1), (92, .getfield 97, 3), (95, .iload_n 1, 1), (96, .aload_n 0, 1), (97, .getfield 75, 3), (100, .iload_n 1, 1), (101, .iaload, 1), (102, .iastore, 1), (103, .iinc 1 1, 3), (106, .goto (-33), 3), (109, .iconst 0, 1), (110, .istore_n 1, 1), (111, .iload_n 1, 1), (112, .iconst 4, 1), (113, .if_icmp .ge 21, 3), (116, .aload_n 0, 1), (117, .getfield 100, 3), (120, .iload_n 1, 1), (121, .aload_n 0, 1), (122, .getfield 72, 3), (125, .iload_n 1, 1), (126, .iaload, 1), (127, .iastore, 1), (128, .iinc 1 1, 3), (131, .goto (-20), 3), (134, .aload_n 0, 1), (135, .getfield 21, 3), (138, .bipush 12, 2), (140, .iaload, 1), (141, .ireturn, 1)]
theorem dcX11_image_1 : tbX11_image_1.all (fun q => decide (decode cX11_image q.1 = .ok q.2)) = true := by decide +kernel
def tbX11_undo_0 : List (Nat × Instr × Nat) := [(0, .aload_n 0, 1), (1, .getfield 291, 3), (4, .ifCond .ne 6, 3), (7, .bipush (-3), 2), (9, .ireturn, 1), (10, .aload_n 0, 1), (11, .aload_n 0, 1), (12, .getfield 295, 3), (15, .putfield 28, 3), (18, .aload_n 0, 1), (19, .aload_n 0, 1), (20, .getfield 298, 3), (23, .putfield 271, 3), (26, .aload_n 0, 1), (27, .aload_n 0, 1), (28, .getfield 301, 3), (31, .putfield 246, 3), (34, .aload_n 0, 1), (35, .aload_n 0, 1), (36, .getfield 304, 3), (39, .putfield 285, 3), (42, .aload_n 0, 1), (43, .aload_n 0, 1), (44, .getfield 307, 3), (47, .putfield 282, 3), (50, .iconst 0, 1), (51, .istore_n 1, 1), (52, .iload_n 1, 1), (53, .bipush 15, 2), (55, .if_icmp .ge 21, 3), (58, .aload_n 0, 1), (59, .getfield 21, 3), (62, .iload_n 1, 1), (63, .aload_n 0, 1), (64, .getfield 91, 3), (67, .iload_n 1, 1), (68, .iaload, 1), (69, .iastore, 1), (70, .iinc 1 1, 3), (73, .goto (-21), 3), (76, .iconst 0, 1), (77, .istore_n 1, 1), (78, .iload_n 1, 1), (79, .bipush 12, 2), (81, .if_icmp .ge 33, 3), (84, .aload_n 0, 1), (85, .getfield 66, 3), (88, .iload_n 1, 1)]
theorem dcX11_undo_0 : tbX11_undo_0.all (fun q => decide (decode cX11_undo q.1 = .ok q.2)) = true := by decide +kernel
def tbX11_undo_1 : List (Nat × Instr × Nat) := [(89, .aload_n 0, 1), (90, .getfield 94, 3), (93, .iload_n 1, 1), (94, .iaload, 1), (95, .iastore, 1), (96, .aload_n 0, 1), (97, .getfield 75, 3), (100, .iload_n 1, 1), (101, .aload_n 0, 1), (102, .getfield 97, 3), (105, .iload_n 1, 1), (106, .iaload, 1), (107, .iastore, 1), (108, .iinc 1 1, 3), (111, .goto (-33), 3), (114, .iconst 0, 1), (115, .istore_n 1, 1), (116, .iload_n 1, 1), (117, .iconst 4, 1), (118, .if_icmp .ge 21, 3), (121, .aload_n 0, 1), (122, .getfield 72, 3), (125, .iload_n 1, 1), (126, .aload_n 0, 1), (127, .getfield 100, 3), (130, .iload_n 1, 1), (131, .iaload, 1), (132, .iastore, 1), (133, .iinc 1 1, 3), (136, .goto (-20), 3), (139, .aload_n 0, 1), (140, .getfield 21, 3), (143, .bipush 12, 2), (145, .iaload, 1), (146, .ireturn, 1)]
theorem dcX11_undo_1 : tbX11_undo_1.all (fun q => decide (decode cX11_undo q.1 = .ok q.2)) = true := by decide +kernel
def tbX11_ran_0 : List (Nat × Instr × Nat) := [(0, .aload_n 0, 1), (1, .getfield 310, 3), (4, .bipush 20, 2), (6, .if_icmp .ge 13, 3), (9, .aload_n 0, 1), (10, .getfield 103, 3), (13, .aload_n 0, 1), (14, .getfield 310, 3), (17, .iload_n 1, 1), (18, .iastore, 1), (19, .aload_n 0, 1), (20, .dup, 1), (21, .getfield 310, 3), (24, .iconst 1, 1), (25, .iadd, 1), (26, .putfield 310, 3), (29, .return_, 1)]
theorem dcX11_ran_0 : tbX11_ran_0.all (fun q => decide (decode cX11_ran q.1 = .ok q.2)) = true := by decide +kernel
def tbX11_plainHolds_0 : List (Nat × Instr × Nat) := [(0, .aload_n 0, 1), (1, .bipush 10, 2), (3, .invokevirtual 313, 3), (6, .iload_n 2, 1), (7, .iload_n 1, 1), (8, .iadd, 1), (9, .ireturn, 1)]
theorem dcX11_plainHolds_0 : tbX11_plainHolds_0.all (fun q => decide (decode cX11_plainHolds q.1 = .ok q.2)) = true := by decide +kernel
def tbX11_holding_0 : List (Nat × Instr × Nat) := [(0, .aload_n 0, 1), (1, .getfield 9, 3), (4, .iload_n 1, 1), (5, .iaload, 1), (6, .tableswitch 98 2 6 #[34, 98, 64, 49, 78], 34), (40, .aload_n 0, 1), (41, .bipush 30, 2), (43, .invokevirtual 313, 3), (46, .aload_n 0, 1), (47, .iload_n 1, 1), (48, .iload_n 2, 1), (49, .iconst 3, 1), (50, .imul, 1), (51, .invokevirtual 316, 3), (54, .ireturn, 1), (55, .aload_n 0, 1), (56, .bipush 30, 2), (58, .invokevirtual 313, 3), (61, .aload_n 0, 1), (62, .iload_n 1, 1), (63, .iload_n 2, 1), (64, .iconst 3, 1), (65, .imul, 1), (66, .invokevirtual 316, 3), (69, .ireturn, 1), (70, .aload_n 0, 1), (71, .bipush 50, 2), (73, .invokevirtual 313, 3), (76, .aload_n 0, 1), (77, .iload_n 1, 1), (78, .iload_n 2, 1), (79, .invokevirtual 316, 3), (82, .ineg, 1), (83, .ireturn, 1), (84, .aload_n 0, 1), (85, .bipush 71, 2), (87, .invokevirtual 313, 3), (90, .aload_n 0, 1), (91, .iload_n 1, 1), (92, .iload_n 2, 1), (93, .invokevirtual 316, 3), (96, .aload_n 0, 1), (97, .getfield 15, 3), (100, .iload_n 1, 1), (101, .iaload, 1), (102, .ixor, 1), (103, .ireturn, 1), (104, .aload_n 0, 1)]
theorem dcX11_holding_0 : tbX11_holding_0.all (fun q => decide (decode cX11_holding q.1 = .ok q.2)) = true := by decide +kernel
def tbX11_holding_1 : List (Nat × Instr × Nat) := [(105, .iload_n 1, 1), (106, .iload_n 2, 1), (107, .invokevirtual 316, 3), (110, .ireturn, 1)]
theorem dcX11_holding_1 : tbX11_holding_1.all (fun q => decide (decode cX11_holding q.1 = .ok q.2)) = true := by decide +kernel
def tbX11_plainChooses_0 : List (Nat × Instr × Nat) := [(0, .aload_n 0, 1), (1, .bipush 11, 2), (3, .invokevirtual 313, 3), (6, .aload_n 0, 1), (7, .iload_n 1, 1), (8, .iload_n 2, 1), (9, .invokevirtual 319, 3), (12, .aload_n 0, 1), (13, .getfield 15, 3), (16, .iload_n 1, 1), (17, .iaload, 1), (18, .isub, 1), (19, .ireturn, 1)]
theorem dcX11_plainChooses_0 : tbX11_plainChooses_0.all (fun q => decide (decode cX11_plainChooses q.1 = .ok q.2)) = true := by decide +kernel
def tbX11_fearedChooses_0 : List (Nat × Instr × Nat) := [(0, .aload_n 0, 1), (1, .bipush 20, 2), (3, .invokevirtual 313, 3), (6, .aload_n 0, 1), (7, .iload_n 1, 1), (8, .iload_n 2, 1), (9, .invokevirtual 322, 3), (12, .bipush 6, 2), (14, .ixor, 1), (15, .ireturn, 1)]
theorem dcX11_fearedChooses_0 : tbX11_fearedChooses_0.all (fun q => decide (decode cX11_fearedChooses q.1 = .ok q.2)) = true := by decide +kernel
def tbX11_chooses_0 : List (Nat × Instr × Nat) := [(0, .aload_n 0, 1), (1, .getfield 9, 3), (4, .iload_n 1, 1), (5, .iaload, 1), (6, .lookupswitch 63 #[(1, 34), (4, 41), (6, 56)], 34), (40, .aload_n 0, 1), (41, .iload_n 1, 1), (42, .iload_n 2, 1), (43, .invokevirtual 325, 3), (46, .ireturn, 1), (47, .aload_n 0, 1), (48, .bipush 51, 2), (50, .invokevirtual 313, 3), (53, .aload_n 0, 1), (54, .iload_n 1, 1), (55, .iload_n 2, 1), (56, .iconst 1, 1), (57, .iadd, 1), (58, .invokevirtual 325, 3), (61, .ireturn, 1), (62, .aload_n 0, 1), (63, .iload_n 1, 1), (64, .iload_n 2, 1), (65, .invokevirtual 328, 3), (68, .ireturn, 1), (69, .aload_n 0, 1), (70, .iload_n 1, 1), (71, .iload_n 2, 1), (72, .invokevirtual 322, 3), (75, .ireturn, 1)]
theorem dcX11_chooses_0 : tbX11_chooses_0.all (fun q => decide (decode cX11_chooses q.1 = .ok q.2)) = true := by decide +kernel
def tbX11_calledChooses_0 : List (Nat × Instr × Nat) := [(0, .aload_n 0, 1), (1, .bipush 70, 2), (3, .invokevirtual 313, 3), (6, .aload_n 0, 1), (7, .iload_n 1, 1), (8, .iload_n 2, 1), (9, .invokevirtual 322, 3), (12, .istore_n 3, 1), (13, .iload_n 3, 1), (14, .aload_n 0, 1), (15, .iload_n 1, 1), (16, .iconst 2, 1), (17, .invokevirtual 316, 3), (20, .iadd, 1), (21, .ireturn, 1)]
theorem dcX11_calledChooses_0 : tbX11_calledChooses_0.all (fun q => decide (decode cX11_calledChooses q.1 = .ok q.2)) = true := by decide +kernel
def tbX11_plainTells_0 : List (Nat × Instr × Nat) := [(0, .aload_n 0, 1), (1, .bipush 12, 2), (3, .invokevirtual 313, 3), (6, .aload_n 0, 1), (7, .iload_n 1, 1), (8, .iload_n 2, 1), (9, .invokevirtual 331, 3), (12, .iconst 2, 1), (13, .imul, 1), (14, .ireturn, 1)]
theorem dcX11_plainTells_0 : tbX11_plainTells_0.all (fun q => decide (decode cX11_plainTells q.1 = .ok q.2)) = true := by decide +kernel
def tbX11_telling_0 : List (Nat × Instr × Nat) := [(0, .aload_n 0, 1), (1, .getfield 9, 3), (4, .iload_n 1, 1), (5, .iaload, 1), (6, .tableswitch 59 3 6 #[45, 59, 30, 52], 30), (36, .aload_n 0, 1), (37, .bipush 60, 2), (39, .invokevirtual 313, 3), (42, .aload_n 0, 1), (43, .iload_n 1, 1), (44, .iload_n 2, 1), (45, .iload_n 1, 1), (46, .isub, 1), (47, .invokevirtual 334, 3), (50, .ireturn, 1), (51, .aload_n 0, 1), (52, .iload_n 1, 1), (53, .iload_n 2, 1), (54, .invokevirtual 337, 3), (57, .ireturn, 1), (58, .aload_n 0, 1), (59, .iload_n 1, 1), (60, .iload_n 2, 1), (61, .invokevirtual 337, 3), (64, .ireturn, 1), (65, .aload_n 0, 1), (66, .iload_n 1, 1), (67, .iload_n 2, 1), (68, .invokevirtual 334, 3), (71, .ireturn, 1)]
theorem dcX11_telling_0 : tbX11_telling_0.all (fun q => decide (decode cX11_telling q.1 = .ok q.2)) = true := by decide +kernel
def tbX11_spoiltTells_0 : List (Nat × Instr × Nat) := [(0, .aload_n 0, 1), (1, .bipush 40, 2), (3, .invokevirtual 313, 3), (6, .aload_n 0, 1), (7, .iload_n 1, 1), (8, .iload_n 2, 1), (9, .invokevirtual 334, 3), (12, .istore_n 3, 1), (13, .iload_n 3, 1), (14, .aload_n 0, 1), (15, .iload_n 1, 1), (16, .iconst 1, 1), (17, .invokevirtual 331, 3), (20, .iadd, 1), (21, .ireturn, 1)]
theorem dcX11_spoiltTells_0 : tbX11_spoiltTells_0.all (fun q => decide (decode cX11_spoiltTells q.1 = .ok q.2)) = true := by decide +kernel
def tbX11_part_0 : List (Nat × Instr × Nat) := [(0, .aload_n 0, 1), (1, .iconst 0, 1), (2, .putfield 310, 3), (5, .aload_n 0, 1), (6, .iload_n 1, 1), (7, .invokevirtual 116, 3), (10, .ifCond .eq 12, 3), (13, .iload_n 2, 1), (14, .iconst 0, 1), (15, .iconst 2, 1), (16, .invokestatic 112, 3), (19, .ifCond .ne 5, 3), (22, .iconst 0, 1), (23, .ireturn, 1), (24, .iload_n 2, 1), (25, .ifCond .ne 12, 3), (28, .aload_n 0, 1), (29, .iload_n 1, 1), (30, .iload_n 3, 1), (31, .invokevirtual 319, 3), (34, .goto 23, 3), (37, .iload_n 2, 1), (38, .iconst 1, 1), (39, .if_icmp .ne 12, 3), (42, .aload_n 0, 1), (43, .iload_n 1, 1), (44, .iload_n 3, 1), (45, .invokevirtual 331, 3), (48, .goto 9, 3), (51, .aload_n 0, 1), (52, .iload_n 1, 1), (53, .iload_n 3, 1), (54, .invokevirtual 340, 3), (57, .ireturn, 1)]
theorem dcX11_part_0 : tbX11_part_0.all (fun q => decide (decode cX11_part q.1 = .ok q.2)) = true := by decide +kernel
def tbX11_trace_0 : List (Nat × Instr × Nat) := [(0, .iload_n 1, 1), (1, .iconst 0, 1), (2, .aload_n 0, 1), (3, .getfield 310, 3), (6, .iconst 1, 1), (7, .isub, 1), (8, .invokestatic 112, 3), (11, .ifCond .eq 18, 3), (14, .iload_n 1, 1), (15, .bipush 20, 2), (17, .if_icmp .ge 12, 3), (20, .aload_n 0, 1), (21, .getfield 103, 3), (24, .iload_n 1, 1), (25, .iaload, 1), (26, .goto 4, 3), (29, .iconst (-1), 1), (30, .ireturn, 1)]
theorem dcX11_trace_0 : tbX11_trace_0.all (fun q => decide (decode cX11_trace q.1 = .ok q.2)) = true := by decide +kernel
def tbX11_isUnder_0 : List (Nat × Instr × Nat) := [(0, .iload_n 1, 1), (1, .ifCond .eq 39, 3), (4, .iload_n 0, 1), (5, .iload_n 1, 1), (6, .if_icmp .eq 34, 3), (9, .iload_n 1, 1), (10, .iconst 1, 1), (11, .if_icmp .ne 8, 3), (14, .iload_n 0, 1), (15, .iconst 4, 1), (16, .if_icmp .eq 24, 3), (19, .iload_n 1, 1), (20, .iconst 2, 1), (21, .if_icmp .ne 8, 3), (24, .iload_n 0, 1), (25, .iconst 5, 1), (26, .if_icmp .eq 14, 3), (29, .iload_n 1, 1), (30, .iconst 3, 1), (31, .if_icmp .ne 13, 3), (34, .iload_n 0, 1), (35, .bipush 6, 2), (37, .if_icmp .ne 7, 3), (40, .iconst 1, 1), (41, .goto 4, 3), (44, .iconst 0, 1), (45, .ireturn, 1)]
theorem dcX11_isUnder_0 : tbX11_isUnder_0.all (fun q => decide (decode cX11_isUnder q.1 = .ok q.2)) = true := by decide +kernel
def tbX11_taken_0 : List (Nat × Instr × Nat) := [(0, .iload_n 2, 1), (1, .iconst 0, 1), (2, .bipush 6, 2), (4, .invokestatic 112, 3), (7, .ifCond .ne 6, 3), (10, .bipush (-2), 2), (12, .ireturn, 1), (13, .aload_n 0, 1), (14, .iload_n 1, 1), (15, .invokevirtual 116, 3), (18, .ifCond .ne 6, 3), (21, .bipush (-11), 2), (23, .ireturn, 1), (24, .aload_n 0, 1), (25, .getfield 9, 3), (28, .iload_n 1, 1), (29, .iaload, 1), (30, .iload_n 2, 1), (31, .invokestatic 343, 3), (34, .ifCond .eq 12, 3), (37, .aload_n 0, 1), (38, .getfield 9, 3), (41, .iload_n 1, 1), (42, .iaload, 1), (43, .goto 5, 3), (46, .bipush (-12), 2), (48, .ireturn, 1)]
theorem dcX11_taken_0 : tbX11_taken_0.all (fun q => decide (decode cX11_taken q.1 = .ok q.2)) = true := by decide +kernel
def tbX11_count_0 : List (Nat × Instr × Nat) := [(0, .iload_n 1, 1), (1, .tableswitch 78 0 6 #[43, 48, 53, 58, 63, 68, 73], 43), (44, .aload_n 0, 1), (45, .getfield 109, 3), (48, .ireturn, 1), (49, .aload_n 0, 1), (50, .getfield 150, 3), (53, .ireturn, 1), (54, .aload_n 0, 1), (55, .getfield 246, 3), (58, .ireturn, 1), (59, .aload_n 0, 1), (60, .getfield 285, 3), (63, .ireturn, 1), (64, .aload_n 0, 1), (65, .getfield 282, 3), (68, .ireturn, 1), (69, .aload_n 0, 1), (70, .getfield 131, 3), (73, .ireturn, 1), (74, .aload_n 0, 1), (75, .getfield 310, 3), (78, .ireturn, 1), (79, .bipush (-2), 2), (81, .ireturn, 1)]
theorem dcX11_count_0 : tbX11_count_0.all (fun q => decide (decode cX11_count q.1 = .ok q.2)) = true := by decide +kernel
def tbX11_tape_0 : List (Nat × Instr × Nat) := [(0, .iload_n 1, 1), (1, .invokestatic 288, 3), (4, .ifCond .ne 5, 3), (7, .iconst (-1), 1), (8, .ireturn, 1), (9, .iload_n 2, 1), (10, .iconst (-1), 1), (11, .iconst 4, 1), (12, .invokestatic 112, 3), (15, .ifCond .ne 6, 3), (18, .bipush (-2), 2), (20, .ireturn, 1), (21, .iload_n 2, 1), (22, .iconst (-1), 1), (23, .if_icmp .ne 12, 3), (26, .aload_n 0, 1), (27, .getfield 78, 3), (30, .iload_n 1, 1), (31, .iconst (-1), 1), (32, .iastore, 1), (33, .iconst 1, 1), (34, .ireturn, 1), (35, .iload_n 3, 1), (36, .bipush 60, 2), (38, .if_icmp .le 6, 3), (41, .bipush (-2), 2), (43, .ireturn, 1), (44, .iload_n 3, 1), (45, .ifCond .ge 6, 3), (48, .bipush (-14), 2), (50, .ireturn, 1), (51, .aload_n 0, 1), (52, .getfield 78, 3), (55, .iload_n 1, 1), (56, .iload_n 2, 1), (57, .iastore, 1), (58, .aload_n 0, 1), (59, .getfield 81, 3), (62, .iload_n 1, 1), (63, .iload_n 3, 1), (64, .iastore, 1), (65, .iconst 0, 1), (66, .istore 4, 2), (68, .iload 4, 2), (70, .iload_n 3, 1), (71, .if_icmp .ge 22, 3), (74, .aload_n 0, 1), (75, .getfield 84, 3)]
theorem dcX11_tape_0 : tbX11_tape_0.all (fun q => decide (decode cX11_tape q.1 = .ok q.2)) = true := by decide +kernel
def tbX11_tape_1 : List (Nat × Instr × Nat) := [(78, .bipush 60, 2), (80, .iload_n 1, 1), (81, .imul, 1), (82, .iload 4, 2), (84, .iadd, 1), (85, .lconst 0, 1), (86, .lastore, 1), (87, .iinc 4 1, 3), (90, .goto (-22), 3), (93, .iconst 1, 1), (94, .ireturn, 1)]
theorem dcX11_tape_1 : tbX11_tape_1.all (fun q => decide (decode cX11_tape q.1 = .ok q.2)) = true := by decide +kernel
def tbX11_as_0 : List (Nat × Instr × Nat) := [(0, .iload_n 0, 1), (1, .tableswitch 47 0 3 #[31, 36, 41, 45], 31), (32, .lload_n 1, 1), (33, .l2i, 1), (34, .i2b, 1), (35, .i2l, 1), (36, .lreturn, 1), (37, .lload_n 1, 1), (38, .l2i, 1), (39, .i2s, 1), (40, .i2l, 1), (41, .lreturn, 1), (42, .lload_n 1, 1), (43, .l2i, 1), (44, .i2l, 1), (45, .lreturn, 1), (46, .lload_n 1, 1), (47, .lreturn, 1), (48, .lload_n 1, 1), (49, .lconst 0, 1), (50, .lcmp, 1), (51, .ifCond .ne 7, 3), (54, .lconst 0, 1), (55, .goto 4, 3), (58, .lconst 1, 1), (59, .lreturn, 1)]
theorem dcX11_as_0 : tbX11_as_0.all (fun q => decide (decode cX11_as q.1 = .ok q.2)) = true := by decide +kernel
def tbX11_item_0 : List (Nat × Instr × Nat) := [(0, .iload_n 1, 1), (1, .invokestatic 288, 3), (4, .ifCond .ne 5, 3), (7, .iconst (-1), 1), (8, .ireturn, 1), (9, .aload_n 0, 1), (10, .getfield 78, 3), (13, .iload_n 1, 1), (14, .iaload, 1), (15, .ifCond .ge 6, 3), (18, .bipush (-11), 2), (20, .ireturn, 1), (21, .iload_n 2, 1), (22, .iconst 0, 1), (23, .aload_n 0, 1), (24, .getfield 81, 3), (27, .iload_n 1, 1), (28, .iaload, 1), (29, .iconst 1, 1), (30, .isub, 1), (31, .invokestatic 112, 3), (34, .ifCond .ne 6, 3), (37, .bipush (-13), 2), (39, .ireturn, 1), (40, .aload_n 0, 1), (41, .getfield 84, 3), (44, .bipush 60, 2), (46, .iload_n 1, 1), (47, .imul, 1), (48, .iload_n 2, 1), (49, .iadd, 1), (50, .aload_n 0, 1), (51, .getfield 78, 3), (54, .iload_n 1, 1), (55, .iaload, 1), (56, .lload_n 3, 1), (57, .invokestatic 347, 3), (60, .lastore, 1), (61, .iconst 1, 1), (62, .ireturn, 1)]
theorem dcX11_item_0 : tbX11_item_0.all (fun q => decide (decode cX11_item q.1 = .ok q.2)) = true := by decide +kernel
def tbX11_read_0 : List (Nat × Instr × Nat) := [(0, .iload_n 1, 1), (1, .invokestatic 288, 3), (4, .ifCond .eq 42, 3), (7, .aload_n 0, 1), (8, .getfield 78, 3), (11, .iload_n 1, 1), (12, .iaload, 1), (13, .ifCond .lt 33, 3), (16, .iload_n 2, 1), (17, .iconst 0, 1), (18, .aload_n 0, 1), (19, .getfield 81, 3), (22, .iload_n 1, 1), (23, .iaload, 1), (24, .iconst 1, 1), (25, .isub, 1), (26, .invokestatic 112, 3), (29, .ifCond .eq 17, 3), (32, .aload_n 0, 1), (33, .getfield 84, 3), (36, .bipush 60, 2), (38, .iload_n 1, 1), (39, .imul, 1), (40, .iload_n 2, 1), (41, .iadd, 1), (42, .laload, 1), (43, .goto 6, 3), (46, .ldc2_w 274, 3), (49, .lreturn, 1)]
theorem dcX11_read_0 : tbX11_read_0.all (fun q => decide (decode cX11_read q.1 = .ok q.2)) = true := by decide +kernel
def tbX11_shift_0 : List (Nat × Instr × Nat) := [(0, .iload_n 1, 1), (1, .invokestatic 288, 3), (4, .ifCond .eq 10, 3), (7, .iload_n 3, 1), (8, .invokestatic 288, 3), (11, .ifCond .ne 5, 3), (14, .iconst (-1), 1), (15, .ireturn, 1), (16, .aload_n 0, 1), (17, .getfield 78, 3), (20, .iload_n 1, 1), (21, .iaload, 1), (22, .ifCond .lt 12, 3), (25, .aload_n 0, 1), (26, .getfield 78, 3), (29, .iload_n 3, 1), (30, .iaload, 1), (31, .ifCond .ge 6, 3), (34, .bipush (-11), 2), (36, .ireturn, 1), (37, .aload_n 0, 1), (38, .getfield 78, 3), (41, .iload_n 1, 1), (42, .iaload, 1), (43, .aload_n 0, 1), (44, .getfield 78, 3), (47, .iload_n 3, 1), (48, .iaload, 1), (49, .if_icmp .eq 6, 3), (52, .bipush (-12), 2), (54, .ireturn, 1), (55, .iload 5, 2), (57, .ifCond .lt 47, 3), (60, .iload_n 2, 1), (61, .ifCond .lt 43, 3), (64, .iload 4, 2), (66, .ifCond .lt 38, 3), (69, .iload_n 2, 1), (70, .i2l, 1), (71, .iload 5, 2), (73, .i2l, 1), (74, .ladd, 1), (75, .aload_n 0, 1), (76, .getfield 81, 3), (79, .iload_n 1, 1), (80, .iaload, 1), (81, .i2l, 1), (82, .lcmp, 1)]
theorem dcX11_shift_0 : tbX11_shift_0.all (fun q => decide (decode cX11_shift q.1 = .ok q.2)) = true := by decide +kernel
def tbX11_shift_1 : List (Nat × Instr × Nat) := [(83, .ifCond .gt 21, 3), (86, .iload 4, 2), (88, .i2l, 1), (89, .iload 5, 2), (91, .i2l, 1), (92, .ladd, 1), (93, .aload_n 0, 1), (94, .getfield 81, 3), (97, .iload_n 3, 1), (98, .iaload, 1), (99, .i2l, 1), (100, .lcmp, 1), (101, .ifCond .le 6, 3), (104, .bipush (-13), 2), (106, .ireturn, 1), (107, .iconst 0, 1), (108, .istore 6, 2), (110, .iload 6, 2), (112, .iload 5, 2), (114, .if_icmp .ge 30, 3), (117, .aload_n 0, 1), (118, .getfield 88, 3), (121, .iload 6, 2), (123, .aload_n 0, 1), (124, .getfield 84, 3), (127, .bipush 60, 2), (129, .iload_n 1, 1), (130, .imul, 1), (131, .iload_n 2, 1), (132, .iadd, 1), (133, .iload 6, 2), (135, .iadd, 1), (136, .laload, 1), (137, .lastore, 1), (138, .iinc 6 1, 3), (141, .goto (-31), 3), (144, .iconst 0, 1), (145, .istore 6, 2), (147, .iload 6, 2), (149, .iload 5, 2), (151, .if_icmp .ge 31, 3), (154, .aload_n 0, 1), (155, .getfield 84, 3), (158, .bipush 60, 2), (160, .iload_n 3, 1), (161, .imul, 1), (162, .iload 4, 2), (164, .iadd, 1)]
theorem dcX11_shift_1 : tbX11_shift_1.all (fun q => decide (decode cX11_shift q.1 = .ok q.2)) = true := by decide +kernel
def tbX11_shift_2 : List (Nat × Instr × Nat) := [(165, .iload 6, 2), (167, .iadd, 1), (168, .aload_n 0, 1), (169, .getfield 88, 3), (172, .iload 6, 2), (174, .laload, 1), (175, .lastore, 1), (176, .iinc 6 1, 3), (179, .goto (-32), 3), (182, .iload 5, 2), (184, .ireturn, 1)]
theorem dcX11_shift_2 : tbX11_shift_2.all (fun q => decide (decode cX11_shift q.1 = .ok q.2)) = true := by decide +kernel
def tbJ11_isValidCodePoint_9a6ad_0 : List (Nat × Instr × Nat) := [(0, .iload_n 0, 1), (1, .bipush 16, 2), (3, .iushr, 1), (4, .istore_n 1, 1), (5, .iload_n 1, 1), (6, .bipush 17, 2), (8, .if_icmp .ge 7, 3), (11, .iconst 1, 1), (12, .goto 4, 3), (15, .iconst 0, 1), (16, .ireturn, 1)]
theorem dcJ11_isValidCodePoint_9a6ad_0 : tbJ11_isValidCodePoint_9a6ad_0.all (fun q => decide (decode cJ11_isValidCodePoint_9a6ad q.1 = .ok q.2)) = true := by decide +kernel
def tbJ11_highSurrogate_5068e_0 : List (Nat × Instr × Nat) := [(0, .iload_n 0, 1), (1, .bipush 10, 2), (3, .iushr, 1), (4, .ldc 110, 2), (6, .iadd, 1), (7, .i2c, 1), (8, .ireturn, 1)]
theorem dcJ11_highSurrogate_5068e_0 : tbJ11_highSurrogate_5068e_0.all (fun q => decide (decode cJ11_highSurrogate_5068e q.1 = .ok q.2)) = true := by decide +kernel
def tbJ11_lowSurrogate_5068e_0 : List (Nat × Instr × Nat) := [(0, .iload_n 0, 1), (1, .sipush 1023, 3), (4, .iand, 1), (5, .ldc 76, 2), (7, .iadd, 1), (8, .i2c, 1), (9, .ireturn, 1)]
theorem dcJ11_lowSurrogate_5068e_0 : tbJ11_lowSurrogate_5068e_0.all (fun q => decide (decode cJ11_lowSurrogate_5068e q.1 = .ok q.2)) = true := by decide +kernel
def tbJ9_abs_0f7a4_0 : List (Nat × Instr × Nat) := [(0, .iload_n 0, 1), (1, .ifCond .ge 8, 3), (4, .iload_n 0, 1), (5, .ineg, 1), (6, .goto 4, 3), (9, .iload_n 0, 1), (10, .ireturn, 1)]
theorem dcJ9_abs_0f7a4_0 : tbJ9_abs_0f7a4_0.all (fun q => decide (decode cJ9_abs_0f7a4 q.1 = .ok q.2)) = true := by decide +kernel
def tbJ9_max_7cf53_0 : List (Nat × Instr × Nat) := [(0, .iload_n 0, 1), (1, .iload_n 1, 1), (2, .if_icmp .lt 7, 3), (5, .iload_n 0, 1), (6, .goto 4, 3), (9, .iload_n 1, 1), (10, .ireturn, 1)]
theorem dcJ9_max_7cf53_0 : tbJ9_max_7cf53_0.all (fun q => decide (decode cJ9_max_7cf53 q.1 = .ok q.2)) = true := by decide +kernel
def tbJ9_min_7cf53_0 : List (Nat × Instr × Nat) := [(0, .iload_n 0, 1), (1, .iload_n 1, 1), (2, .if_icmp .gt 7, 3), (5, .iload_n 0, 1), (6, .goto 4, 3), (9, .iload_n 1, 1), (10, .ireturn, 1)]
theorem dcJ9_min_7cf53_0 : tbJ9_min_7cf53_0.all (fun q => decide (decode cJ9_min_7cf53 q.1 = .ok q.2)) = true := by decide +kernel
def tbJ0_length_8abf5_0 : List (Nat × Instr × Nat) := [(0, .aload_n 0, 1), (1, .getfield 9, 3), (4, .arraylength, 1), (5, .aload_n 0, 1), (6, .invokevirtual 335, 3), (9, .ishr, 1), (10, .ireturn, 1)]
theorem dcJ0_length_8abf5_0 : tbJ0_length_8abf5_0.all (fun q => decide (decode cJ0_length_8abf5 q.1 = .ok q.2)) = true := by decide +kernel
def tbJ0_charAt_5068e_0 : List (Nat × Instr × Nat) := [(0, .aload_n 0, 1), (1, .invokevirtual 492, 3), (4, .ifCond .eq 12, 3), (7, .aload_n 0, 1), (8, .getfield 9, 3), (11, .iload_n 1, 1), (12, .invokestatic 495, 3), (15, .ireturn, 1), (16, .aload_n 0, 1), (17, .getfield 9, 3), (20, .iload_n 1, 1), (21, .invokestatic 498, 3), (24, .ireturn, 1)]
theorem dcJ0_charAt_5068e_0 : tbJ0_charAt_5068e_0.all (fun q => decide (decode cJ0_charAt_5068e q.1 = .ok q.2)) = true := by decide +kernel
def tbJ0_indexOf_0f7a4_0 : List (Nat × Instr × Nat) := [(0, .aload_n 0, 1), (1, .iload_n 1, 1), (2, .iconst 0, 1), (3, .invokevirtual 633, 3), (6, .ireturn, 1)]
theorem dcJ0_indexOf_0f7a4_0 : tbJ0_indexOf_0f7a4_0.all (fun q => decide (decode cJ0_indexOf_0f7a4 q.1 = .ok q.2)) = true := by decide +kernel
def tbJ0_indexOf_7cf53_0 : List (Nat × Instr × Nat) := [(0, .aload_n 0, 1), (1, .invokevirtual 492, 3), (4, .ifCond .eq 19, 3), (7, .aload_n 0, 1), (8, .getfield 9, 3), (11, .iload_n 1, 1), (12, .iload_n 2, 1), (13, .aload_n 0, 1), (14, .invokevirtual 505, 3), (17, .invokestatic 637, 3), (20, .goto 16, 3), (23, .aload_n 0, 1), (24, .getfield 9, 3), (27, .iload_n 1, 1), (28, .iload_n 2, 1), (29, .aload_n 0, 1), (30, .invokevirtual 505, 3), (33, .invokestatic 640, 3), (36, .ireturn, 1)]
theorem dcJ0_indexOf_7cf53_0 : tbJ0_indexOf_7cf53_0.all (fun q => decide (decode cJ0_indexOf_7cf53 q.1 = .ok q.2)) = true := by decide +kernel
def tbJ0_coder_7d493_0 : List (Nat × Instr × Nat) := [(0, .getstatic 38, 3), (3, .ifCond .eq 10, 3), (6, .aload_n 0, 1), (7, .getfield 15, 3), (10, .goto 4, 3), (13, .iconst 1, 1), (14, .ireturn, 1)]
theorem dcJ0_coder_7d493_0 : tbJ0_coder_7d493_0.all (fun q => decide (decode cJ0_coder_7d493 q.1 = .ok q.2)) = true := by decide +kernel
def tbJ0_isLatin1_aae02_0 : List (Nat × Instr × Nat) := [(0, .getstatic 38, 3), (3, .ifCond .eq 14, 3), (6, .aload_n 0, 1), (7, .getfield 15, 3), (10, .ifCond .ne 7, 3), (13, .iconst 1, 1), (14, .goto 4, 3), (17, .iconst 0, 1), (18, .ireturn, 1)]
theorem dcJ0_isLatin1_aae02_0 : tbJ0_isLatin1_aae02_0.all (fun q => decide (decode cJ0_isLatin1_aae02 q.1 = .ok q.2)) = true := by decide +kernel
def tbJ0_checkIndex_df160_0 : List (Nat × Instr × Nat) := [(0, .iload_n 0, 1), (1, .iload_n 1, 1), (2, .getstatic 1053, 3), (5, .invokestatic 1059, 3), (8, .pop, 1), (9, .return_, 1)]
theorem dcJ0_checkIndex_df160_0 : tbJ0_checkIndex_df160_0.all (fun q => decide (decode cJ0_checkIndex_df160 q.1 = .ok q.2)) = true := by decide +kernel
def tbJ0_checkBoundsBeginEnd_23922_0 : List (Nat × Instr × Nat) := [(0, .iload_n 0, 1), (1, .iload_n 1, 1), (2, .iload_n 2, 1), (3, .getstatic 1053, 3), (6, .invokestatic 1062, 3), (9, .pop, 1), (10, .return_, 1)]
theorem dcJ0_checkBoundsBeginEnd_23922_0 : tbJ0_checkBoundsBeginEnd_23922_0.all (fun q => decide (decode cJ0_checkBoundsBeginEnd_23922 q.1 = .ok q.2)) = true := by decide +kernel
def tbJ1_charAt_3b067_0 : List (Nat × Instr × Nat) := [(0, .iload_n 1, 1), (1, .aload_n 0, 1), (2, .arraylength, 1), (3, .invokestatic 9, 3), (6, .aload_n 0, 1), (7, .iload_n 1, 1), (8, .baload, 1), (9, .sipush 255, 3), (12, .iand, 1), (13, .i2c, 1), (14, .ireturn, 1)]
theorem dcJ1_charAt_3b067_0 : tbJ1_charAt_3b067_0.all (fun q => decide (decode cJ1_charAt_3b067 q.1 = .ok q.2)) = true := by decide +kernel
def tbJ1_canEncode_9a6ad_0 : List (Nat × Instr × Nat) := [(0, .iload_n 0, 1), (1, .ifCond .lt 14, 3), (4, .iload_n 0, 1), (5, .sipush 255, 3), (8, .if_icmp .gt 7, 3), (11, .iconst 1, 1), (12, .goto 4, 3), (15, .iconst 0, 1), (16, .ireturn, 1)]
theorem dcJ1_canEncode_9a6ad_0 : tbJ1_canEncode_9a6ad_0.all (fun q => decide (decode cJ1_canEncode_9a6ad q.1 = .ok q.2)) = true := by decide +kernel
def tbJ1_indexOf_4cfef_0 : List (Nat × Instr × Nat) := [(0, .iload_n 1, 1), (1, .invokestatic 88, 3), (4, .ifCond .ne 5, 3), (7, .iconst (-1), 1), (8, .ireturn, 1), (9, .iload_n 2, 1), (10, .iconst 0, 1), (11, .invokestatic 92, 3), (14, .istore_n 2, 1), (15, .iload_n 3, 1), (16, .aload_n 0, 1), (17, .arraylength, 1), (18, .invokestatic 38, 3), (21, .istore_n 3, 1), (22, .iload_n 2, 1), (23, .iload_n 3, 1), (24, .if_icmp .lt 5, 3), (27, .iconst (-1), 1), (28, .ireturn, 1), (29, .aload_n 0, 1), (30, .iload_n 1, 1), (31, .iload_n 2, 1), (32, .iload_n 3, 1), (33, .invokestatic 95, 3), (36, .ireturn, 1)]
theorem dcJ1_indexOf_4cfef_0 : tbJ1_indexOf_4cfef_0.all (fun q => decide (decode cJ1_indexOf_4cfef q.1 = .ok q.2)) = true := by decide +kernel
def tbJ1_indexOfChar_4cfef_0 : List (Nat × Instr × Nat) := [(0, .iload_n 1, 1), (1, .i2b, 1), (2, .istore 4, 2), (4, .iload_n 2, 1), (5, .istore 5, 2), (7, .iload 5, 2), (9, .iload_n 3, 1), (10, .if_icmp .ge 21, 3), (13, .aload_n 0, 1), (14, .iload 5, 2), (16, .baload, 1), (17, .iload 4, 2), (19, .if_icmp .ne 6, 3), (22, .iload 5, 2), (24, .ireturn, 1), (25, .iinc 5 1, 3), (28, .goto (-21), 3), (31, .iconst (-1), 1), (32, .ireturn, 1)]
theorem dcJ1_indexOfChar_4cfef_0 : tbJ1_indexOfChar_4cfef_0.all (fun q => decide (decode cJ1_indexOfChar_4cfef q.1 = .ok q.2)) = true := by decide +kernel
def tbJ2_getChar_3b067_0 : List (Nat × Instr × Nat) := [(0, .getstatic 44, 3), (3, .ifCond .ne 25, 3), (6, .iload_n 1, 1), (7, .ifCond .lt 11, 3), (10, .iload_n 1, 1), (11, .aload_n 0, 1), (12, .invokestatic 48, 3), (15, .if_icmp .lt 13, 3), (18, .new 52, 3), (21, .dup, 1), (22, .ldc 54, 2), (24, .invokespecial 56, 3), (27, .athrow, 1), (28, .iload_n 1, 1), (29, .iconst 1, 1), (30, .ishl, 1), (31, .istore_n 1, 1), (32, .aload_n 0, 1), (33, .iload_n 1, 1), (34, .iinc 1 1, 3), (37, .baload, 1), (38, .sipush 255, 3), (41, .iand, 1), (42, .getstatic 59, 3), (45, .ishl, 1), (46, .aload_n 0, 1), (47, .iload_n 1, 1), (48, .baload, 1), (49, .sipush 255, 3), (52, .iand, 1), (53, .getstatic 63, 3), (56, .ishl, 1), (57, .ior, 1), (58, .i2c, 1), (59, .ireturn, 1)]
theorem dcJ2_getChar_3b067_0 : tbJ2_getChar_3b067_0.all (fun q => decide (decode cJ2_getChar_3b067 q.1 = .ok q.2)) = true := by decide +kernel
def tbJ2_length_9d52b_0 : List (Nat × Instr × Nat) := [(0, .aload_n 0, 1), (1, .arraylength, 1), (2, .iconst 1, 1), (3, .ishr, 1), (4, .ireturn, 1)]
theorem dcJ2_length_9d52b_0 : tbJ2_length_9d52b_0.all (fun q => decide (decode cJ2_length_9d52b q.1 = .ok q.2)) = true := by decide +kernel
def tbJ2_indexOf_4cfef_0 : List (Nat × Instr × Nat) := [(0, .iload_n 2, 1), (1, .iconst 0, 1), (2, .invokestatic 224, 3), (5, .istore_n 2, 1), (6, .iload_n 3, 1), (7, .aload_n 0, 1), (8, .arraylength, 1), (9, .iconst 1, 1), (10, .ishr, 1), (11, .invokestatic 183, 3), (14, .istore_n 3, 1), (15, .iload_n 2, 1), (16, .iload_n 3, 1), (17, .if_icmp .lt 5, 3), (20, .iconst (-1), 1), (21, .ireturn, 1), (22, .iload_n 1, 1), (23, .ldc 227, 2), (25, .if_icmp .ge 11, 3), (28, .aload_n 0, 1), (29, .iload_n 1, 1), (30, .iload_n 2, 1), (31, .iload_n 3, 1), (32, .invokestatic 228, 3), (35, .ireturn, 1), (36, .aload_n 0, 1), (37, .iload_n 1, 1), (38, .iload_n 2, 1), (39, .iload_n 3, 1), (40, .invokestatic 232, 3), (43, .ireturn, 1)]
theorem dcJ2_indexOf_4cfef_0 : tbJ2_indexOf_4cfef_0.all (fun q => decide (decode cJ2_indexOf_4cfef q.1 = .ok q.2)) = true := by decide +kernel
def tbJ2_indexOfChar_4cfef_0 : List (Nat × Instr × Nat) := [(0, .iload_n 2, 1), (1, .iload_n 3, 1), (2, .aload_n 0, 1), (3, .invokestatic 96, 3), (6, .aload_n 0, 1), (7, .iload_n 1, 1), (8, .iload_n 2, 1), (9, .iload_n 3, 1), (10, .invokestatic 244, 3), (13, .ireturn, 1)]
theorem dcJ2_indexOfChar_4cfef_0 : tbJ2_indexOfChar_4cfef_0.all (fun q => decide (decode cJ2_indexOfChar_4cfef q.1 = .ok q.2)) = true := by decide +kernel
def tbJ2_indexOfCharUnsafe_4cfef_0 : List (Nat × Instr × Nat) := [(0, .iload_n 2, 1), (1, .istore 4, 2), (3, .iload 4, 2), (5, .iload_n 3, 1), (6, .if_icmp .ge 22, 3), (9, .aload_n 0, 1), (10, .iload 4, 2), (12, .invokestatic 71, 3), (15, .iload_n 1, 1), (16, .if_icmp .ne 6, 3), (19, .iload 4, 2), (21, .ireturn, 1), (22, .iinc 4 1, 3), (25, .goto (-22), 3), (28, .iconst (-1), 1), (29, .ireturn, 1)]
theorem dcJ2_indexOfCharUnsafe_4cfef_0 : tbJ2_indexOfCharUnsafe_4cfef_0.all (fun q => decide (decode cJ2_indexOfCharUnsafe_4cfef q.1 = .ok q.2)) = true := by decide +kernel
def tbJ2_indexOfSupplementary_4cfef_0 : List (Nat × Instr × Nat) := [(0, .iload_n 1, 1), (1, .invokestatic 164, 3), (4, .ifCond .eq 65, 3), (7, .iload_n 1, 1), (8, .invokestatic 157, 3), (11, .istore 4, 2), (13, .iload_n 1, 1), (14, .invokestatic 161, 3), (17, .istore 5, 2), (19, .iload_n 2, 1), (20, .iload_n 3, 1), (21, .aload_n 0, 1), (22, .invokestatic 96, 3), (25, .iload_n 2, 1), (26, .istore 6, 2), (28, .iload 6, 2), (30, .iload_n 3, 1), (31, .iconst 1, 1), (32, .isub, 1), (33, .if_icmp .ge 36, 3), (36, .aload_n 0, 1), (37, .iload 6, 2), (39, .invokestatic 71, 3), (42, .iload 4, 2), (44, .if_icmp .ne 19, 3), (47, .aload_n 0, 1), (48, .iload 6, 2), (50, .iconst 1, 1), (51, .iadd, 1), (52, .invokestatic 71, 3), (55, .iload 5, 2), (57, .if_icmp .ne 6, 3), (60, .iload 6, 2), (62, .ireturn, 1), (63, .iinc 6 1, 3), (66, .goto (-38), 3), (69, .iconst (-1), 1), (70, .ireturn, 1)]
theorem dcJ2_indexOfSupplementary_4cfef_0 : tbJ2_indexOfSupplementary_4cfef_0.all (fun q => decide (decode cJ2_indexOfSupplementary_4cfef q.1 = .ok q.2)) = true := by decide +kernel
def tbJ2_charAt_3b067_0 : List (Nat × Instr × Nat) := [(0, .iload_n 1, 1), (1, .aload_n 0, 1), (2, .invokestatic 67, 3), (5, .aload_n 0, 1), (6, .iload_n 1, 1), (7, .invokestatic 71, 3), (10, .ireturn, 1)]
theorem dcJ2_charAt_3b067_0 : tbJ2_charAt_3b067_0.all (fun q => decide (decode cJ2_charAt_3b067 q.1 = .ok q.2)) = true := by decide +kernel
def tbJ2_checkIndex_2214a_0 : List (Nat × Instr × Nat) := [(0, .iload_n 0, 1), (1, .aload_n 1, 1), (2, .invokestatic 48, 3), (5, .invokestatic 414, 3), (8, .return_, 1)]
theorem dcJ2_checkIndex_2214a_0 : tbJ2_checkIndex_2214a_0.all (fun q => decide (decode cJ2_checkIndex_2214a q.1 = .ok q.2)) = true := by decide +kernel
def tbJ2_checkBoundsBeginEnd_d044e_0 : List (Nat × Instr × Nat) := [(0, .iload_n 0, 1), (1, .iload_n 1, 1), (2, .aload_n 2, 1), (3, .invokestatic 48, 3), (6, .invokestatic 241, 3), (9, .return_, 1)]
theorem dcJ2_checkBoundsBeginEnd_d044e_0 : tbJ2_checkBoundsBeginEnd_d044e_0.all (fun q => decide (decode cJ2_checkBoundsBeginEnd_d044e q.1 = .ok q.2)) = true := by decide +kernel
def tbJ7_rangeCheck_23922_0 : List (Nat × Instr × Nat) := [(0, .iload_n 1, 1), (1, .iload_n 2, 1), (2, .if_icmp .le 44, 3), (5, .new 43, 3), (8, .dup, 1), (9, .new 45, 3), (12, .dup, 1), (13, .invokespecial 47, 3), (16, .ldc 48, 2), (18, .invokevirtual 50, 3), (21, .iload_n 1, 1), (22, .invokevirtual 54, 3), (25, .ldc 57, 2), (27, .invokevirtual 50, 3), (30, .iload_n 2, 1), (31, .invokevirtual 54, 3), (34, .ldc 59, 2), (36, .invokevirtual 50, 3), (39, .invokevirtual 61, 3), (42, .invokespecial 65, 3), (45, .athrow, 1), (46, .iload_n 1, 1), (47, .ifCond .ge 12, 3), (50, .new 68, 3), (53, .dup, 1), (54, .iload_n 1, 1), (55, .invokespecial 70, 3), (58, .athrow, 1), (59, .iload_n 2, 1), (60, .iload_n 0, 1), (61, .if_icmp .le 12, 3), (64, .new 68, 3), (67, .dup, 1), (68, .iload_n 2, 1), (69, .invokespecial 70, 3), (72, .athrow, 1), (73, .return_, 1)]
theorem dcJ7_rangeCheck_23922_0 : tbJ7_rangeCheck_23922_0.all (fun q => decide (decode cJ7_rangeCheck_23922 q.1 = .ok q.2)) = true := by decide +kernel
def tbJ7_fill_d0a16_0 : List (Nat × Instr × Nat) := [(0, .iconst 0, 1), (1, .istore_n 3, 1), (2, .aload_n 0, 1), (3, .arraylength, 1), (4, .istore 4, 2), (6, .iload_n 3, 1), (7, .iload 4, 2), (9, .if_icmp .ge 13, 3), (12, .aload_n 0, 1), (13, .iload_n 3, 1), (14, .lload_n 1, 1), (15, .lastore, 1), (16, .iinc 3 1, 3), (19, .goto (-13), 3), (22, .return_, 1)]
theorem dcJ7_fill_d0a16_0 : tbJ7_fill_d0a16_0.all (fun q => decide (decode cJ7_fill_d0a16 q.1 = .ok q.2)) = true := by decide +kernel
def tbJ7_fill_fda19_0 : List (Nat × Instr × Nat) := [(0, .aload_n 0, 1), (1, .arraylength, 1), (2, .iload_n 1, 1), (3, .iload_n 2, 1), (4, .invokestatic 13, 3), (7, .iload_n 1, 1), (8, .istore 4, 2), (10, .iload 4, 2), (12, .iload_n 2, 1), (13, .if_icmp .ge 14, 3), (16, .aload_n 0, 1), (17, .iload 4, 2), (19, .iload_n 3, 1), (20, .iastore, 1), (21, .iinc 4 1, 3), (24, .goto (-14), 3), (27, .return_, 1)]
theorem dcJ7_fill_fda19_0 : tbJ7_fill_fda19_0.all (fun q => decide (decode cJ7_fill_fda19 q.1 = .ok q.2)) = true := by decide +kernel
def tbJ3_checkIndex_8e157_0 : List (Nat × Instr × Nat) := [(0, .iload_n 0, 1), (1, .ifCond .lt 8, 3), (4, .iload_n 0, 1), (5, .iload_n 1, 1), (6, .if_icmp .lt 10, 3), (9, .aload_n 2, 1), (10, .iload_n 0, 1), (11, .iload_n 1, 1), (12, .invokestatic 95, 3), (15, .athrow, 1), (16, .iload_n 0, 1), (17, .ireturn, 1)]
theorem dcJ3_checkIndex_8e157_0 : tbJ3_checkIndex_8e157_0.all (fun q => decide (decode cJ3_checkIndex_8e157 q.1 = .ok q.2)) = true := by decide +kernel
def tbJ3_checkFromToIndex_8c36e_0 : List (Nat × Instr × Nat) := [(0, .iload_n 0, 1), (1, .ifCond .lt 13, 3), (4, .iload_n 0, 1), (5, .iload_n 1, 1), (6, .if_icmp .gt 8, 3), (9, .iload_n 1, 1), (10, .iload_n 2, 1), (11, .if_icmp .le 11, 3), (14, .aload_n 3, 1), (15, .iload_n 0, 1), (16, .iload_n 1, 1), (17, .iload_n 2, 1), (18, .invokestatic 99, 3), (21, .athrow, 1), (22, .iload_n 0, 1), (23, .ireturn, 1)]
theorem dcJ3_checkFromToIndex_8c36e_0 : tbJ3_checkFromToIndex_8c36e_0.all (fun q => decide (decode cJ3_checkFromToIndex_8c36e q.1 = .ok q.2)) = true := by decide +kernel
def tbL_law_0 : List (Nat × Instr × Nat) := [(0, .new 7, 3), (3, .dup, 1), (4, .invokespecial 9, 3), (7, .astore_n 1, 1), (8, .new 10, 3), (11, .dup, 1), (12, .invokespecial 12, 3), (15, .astore_n 2, 1), (16, .iconst 0, 1), (17, .istore_n 3, 1), (18, .iload_n 3, 1), (19, .aload_n 0, 1), (20, .arraylength, 1), (21, .bipush 6, 2), (23, .isub, 1), (24, .if_icmp .gt 1174, 3), (27, .aload_n 0, 1), (28, .iload_n 3, 1), (29, .iaload, 1), (30, .bipush 63, 2), (32, .iand, 1), (33, .tableswitch 1159 0 35 #[159, 202, 235, 268, 291, 314, 327, 350, 373, 396, 419, 442, 475, 508, 541, 554, 567, 580, 593, 616, 650, 683, 706, 729, 752, 765, 798, 811, 824, 867, 890, 923, 946, 989, 1062, 1096], 159), (192, .aload_n 1, 1), (193, .aload_n 0, 1), (194, .iload_n 3, 1), (195, .iconst 1, 1), (196, .iadd, 1), (197, .iaload, 1), (198, .aload_n 0, 1), (199, .iload_n 3, 1), (200, .iconst 2, 1), (201, .iadd, 1), (202, .iaload, 1), (203, .aload_n 0, 1), (204, .iload_n 3, 1), (205, .iconst 3, 1), (206, .iadd, 1), (207, .iaload, 1), (208, .invokevirtual 13, 3), (211, .aload_n 2, 1), (212, .aload_n 0, 1), (213, .iload_n 3, 1), (214, .iconst 1, 1), (215, .iadd, 1), (216, .iaload, 1), (217, .aload_n 0, 1), (218, .iload_n 3, 1), (219, .iconst 2, 1)]
theorem dcL_law_0 : tbL_law_0.all (fun q => decide (decode cL_law q.1 = .ok q.2)) = true := by decide +kernel
def tbL_law_1 : List (Nat × Instr × Nat) := [(220, .iadd, 1), (221, .iaload, 1), (222, .aload_n 0, 1), (223, .iload_n 3, 1), (224, .iconst 3, 1), (225, .iadd, 1), (226, .iaload, 1), (227, .invokevirtual 17, 3), (230, .if_icmp .eq 962, 3), (233, .iconst 0, 1), (234, .ireturn, 1), (235, .aload_n 1, 1), (236, .aload_n 0, 1), (237, .iload_n 3, 1), (238, .iconst 1, 1), (239, .iadd, 1), (240, .iaload, 1), (241, .aload_n 0, 1), (242, .iload_n 3, 1), (243, .iconst 2, 1), (244, .iadd, 1), (245, .iaload, 1), (246, .invokevirtual 18, 3), (249, .aload_n 2, 1), (250, .aload_n 0, 1), (251, .iload_n 3, 1), (252, .iconst 1, 1), (253, .iadd, 1), (254, .iaload, 1), (255, .aload_n 0, 1), (256, .iload_n 3, 1), (257, .iconst 2, 1), (258, .iadd, 1), (259, .iaload, 1), (260, .invokevirtual 22, 3), (263, .if_icmp .eq 929, 3), (266, .iconst 0, 1), (267, .ireturn, 1), (268, .aload_n 1, 1), (269, .aload_n 0, 1), (270, .iload_n 3, 1), (271, .iconst 1, 1), (272, .iadd, 1), (273, .iaload, 1), (274, .aload_n 0, 1), (275, .iload_n 3, 1), (276, .iconst 2, 1), (277, .iadd, 1)]
theorem dcL_law_1 : tbL_law_1.all (fun q => decide (decode cL_law q.1 = .ok q.2)) = true := by decide +kernel
def tbL_law_2 : List (Nat × Instr × Nat) := [(278, .iaload, 1), (279, .invokevirtual 23, 3), (282, .aload_n 2, 1), (283, .aload_n 0, 1), (284, .iload_n 3, 1), (285, .iconst 1, 1), (286, .iadd, 1), (287, .iaload, 1), (288, .aload_n 0, 1), (289, .iload_n 3, 1), (290, .iconst 2, 1), (291, .iadd, 1), (292, .iaload, 1), (293, .invokevirtual 26, 3), (296, .if_icmp .eq 896, 3), (299, .iconst 0, 1), (300, .ireturn, 1), (301, .aload_n 1, 1), (302, .aload_n 0, 1), (303, .iload_n 3, 1), (304, .iconst 1, 1), (305, .iadd, 1), (306, .iaload, 1), (307, .invokevirtual 27, 3), (310, .aload_n 2, 1), (311, .aload_n 0, 1), (312, .iload_n 3, 1), (313, .iconst 1, 1), (314, .iadd, 1), (315, .iaload, 1), (316, .invokevirtual 31, 3), (319, .if_icmp .eq 873, 3), (322, .iconst 0, 1), (323, .ireturn, 1), (324, .aload_n 1, 1), (325, .aload_n 0, 1), (326, .iload_n 3, 1), (327, .iconst 1, 1), (328, .iadd, 1), (329, .iaload, 1), (330, .invokevirtual 32, 3), (333, .aload_n 2, 1), (334, .aload_n 0, 1), (335, .iload_n 3, 1), (336, .iconst 1, 1), (337, .iadd, 1), (338, .iaload, 1), (339, .invokevirtual 35, 3)]
theorem dcL_law_2 : tbL_law_2.all (fun q => decide (decode cL_law q.1 = .ok q.2)) = true := by decide +kernel
def tbL_law_3 : List (Nat × Instr × Nat) := [(342, .if_icmp .eq 850, 3), (345, .iconst 0, 1), (346, .ireturn, 1), (347, .aload_n 1, 1), (348, .invokevirtual 36, 3), (351, .aload_n 2, 1), (352, .invokevirtual 40, 3), (355, .if_icmp .eq 837, 3), (358, .iconst 0, 1), (359, .ireturn, 1), (360, .aload_n 1, 1), (361, .aload_n 0, 1), (362, .iload_n 3, 1), (363, .iconst 1, 1), (364, .iadd, 1), (365, .iaload, 1), (366, .invokevirtual 41, 3), (369, .aload_n 2, 1), (370, .aload_n 0, 1), (371, .iload_n 3, 1), (372, .iconst 1, 1), (373, .iadd, 1), (374, .iaload, 1), (375, .invokevirtual 44, 3), (378, .if_icmp .eq 814, 3), (381, .iconst 0, 1), (382, .ireturn, 1), (383, .aload_n 1, 1), (384, .aload_n 0, 1), (385, .iload_n 3, 1), (386, .iconst 1, 1), (387, .iadd, 1), (388, .iaload, 1), (389, .invokevirtual 45, 3), (392, .aload_n 2, 1), (393, .aload_n 0, 1), (394, .iload_n 3, 1), (395, .iconst 1, 1), (396, .iadd, 1), (397, .iaload, 1), (398, .invokevirtual 48, 3), (401, .if_icmp .eq 791, 3), (404, .iconst 0, 1), (405, .ireturn, 1), (406, .aload_n 1, 1), (407, .aload_n 0, 1), (408, .iload_n 3, 1), (409, .iconst 1, 1)]
theorem dcL_law_3 : tbL_law_3.all (fun q => decide (decode cL_law q.1 = .ok q.2)) = true := by decide +kernel
def tbL_law_4 : List (Nat × Instr × Nat) := [(410, .iadd, 1), (411, .iaload, 1), (412, .invokevirtual 49, 3), (415, .aload_n 2, 1), (416, .aload_n 0, 1), (417, .iload_n 3, 1), (418, .iconst 1, 1), (419, .iadd, 1), (420, .iaload, 1), (421, .invokevirtual 52, 3), (424, .if_icmp .eq 768, 3), (427, .iconst 0, 1), (428, .ireturn, 1), (429, .aload_n 1, 1), (430, .aload_n 0, 1), (431, .iload_n 3, 1), (432, .iconst 1, 1), (433, .iadd, 1), (434, .iaload, 1), (435, .invokevirtual 53, 3), (438, .aload_n 2, 1), (439, .aload_n 0, 1), (440, .iload_n 3, 1), (441, .iconst 1, 1), (442, .iadd, 1), (443, .iaload, 1), (444, .invokevirtual 56, 3), (447, .if_icmp .eq 745, 3), (450, .iconst 0, 1), (451, .ireturn, 1), (452, .aload_n 1, 1), (453, .aload_n 0, 1), (454, .iload_n 3, 1), (455, .iconst 1, 1), (456, .iadd, 1), (457, .iaload, 1), (458, .invokevirtual 57, 3), (461, .aload_n 2, 1), (462, .aload_n 0, 1), (463, .iload_n 3, 1), (464, .iconst 1, 1), (465, .iadd, 1), (466, .iaload, 1), (467, .invokevirtual 60, 3), (470, .if_icmp .eq 722, 3), (473, .iconst 0, 1), (474, .ireturn, 1), (475, .aload_n 1, 1)]
theorem dcL_law_4 : tbL_law_4.all (fun q => decide (decode cL_law q.1 = .ok q.2)) = true := by decide +kernel
def tbL_law_5 : List (Nat × Instr × Nat) := [(476, .aload_n 0, 1), (477, .iload_n 3, 1), (478, .iconst 1, 1), (479, .iadd, 1), (480, .iaload, 1), (481, .aload_n 0, 1), (482, .iload_n 3, 1), (483, .iconst 2, 1), (484, .iadd, 1), (485, .iaload, 1), (486, .invokevirtual 61, 3), (489, .aload_n 2, 1), (490, .aload_n 0, 1), (491, .iload_n 3, 1), (492, .iconst 1, 1), (493, .iadd, 1), (494, .iaload, 1), (495, .aload_n 0, 1), (496, .iload_n 3, 1), (497, .iconst 2, 1), (498, .iadd, 1), (499, .iaload, 1), (500, .invokevirtual 64, 3), (503, .if_icmp .eq 689, 3), (506, .iconst 0, 1), (507, .ireturn, 1), (508, .aload_n 1, 1), (509, .aload_n 0, 1), (510, .iload_n 3, 1), (511, .iconst 1, 1), (512, .iadd, 1), (513, .iaload, 1), (514, .aload_n 0, 1), (515, .iload_n 3, 1), (516, .iconst 2, 1), (517, .iadd, 1), (518, .iaload, 1), (519, .invokevirtual 65, 3), (522, .aload_n 2, 1), (523, .aload_n 0, 1), (524, .iload_n 3, 1), (525, .iconst 1, 1), (526, .iadd, 1), (527, .iaload, 1), (528, .aload_n 0, 1), (529, .iload_n 3, 1), (530, .iconst 2, 1), (531, .iadd, 1)]
theorem dcL_law_5 : tbL_law_5.all (fun q => decide (decode cL_law q.1 = .ok q.2)) = true := by decide +kernel
def tbL_law_6 : List (Nat × Instr × Nat) := [(532, .iaload, 1), (533, .invokevirtual 68, 3), (536, .if_icmp .eq 656, 3), (539, .iconst 0, 1), (540, .ireturn, 1), (541, .aload_n 1, 1), (542, .aload_n 0, 1), (543, .iload_n 3, 1), (544, .iconst 1, 1), (545, .iadd, 1), (546, .iaload, 1), (547, .aload_n 0, 1), (548, .iload_n 3, 1), (549, .iconst 2, 1), (550, .iadd, 1), (551, .iaload, 1), (552, .invokevirtual 69, 3), (555, .aload_n 2, 1), (556, .aload_n 0, 1), (557, .iload_n 3, 1), (558, .iconst 1, 1), (559, .iadd, 1), (560, .iaload, 1), (561, .aload_n 0, 1), (562, .iload_n 3, 1), (563, .iconst 2, 1), (564, .iadd, 1), (565, .iaload, 1), (566, .invokevirtual 72, 3), (569, .if_icmp .eq 623, 3), (572, .iconst 0, 1), (573, .ireturn, 1), (574, .aload_n 1, 1), (575, .invokevirtual 73, 3), (578, .aload_n 2, 1), (579, .invokevirtual 76, 3), (582, .if_icmp .eq 610, 3), (585, .iconst 0, 1), (586, .ireturn, 1), (587, .aload_n 1, 1), (588, .invokevirtual 77, 3), (591, .aload_n 2, 1), (592, .invokevirtual 80, 3), (595, .if_icmp .eq 597, 3), (598, .iconst 0, 1), (599, .ireturn, 1), (600, .aload_n 1, 1), (601, .invokevirtual 81, 3)]
theorem dcL_law_6 : tbL_law_6.all (fun q => decide (decode cL_law q.1 = .ok q.2)) = true := by decide +kernel
def tbL_law_7 : List (Nat × Instr × Nat) := [(604, .aload_n 2, 1), (605, .invokevirtual 84, 3), (608, .if_icmp .eq 584, 3), (611, .iconst 0, 1), (612, .ireturn, 1), (613, .aload_n 1, 1), (614, .invokevirtual 85, 3), (617, .aload_n 2, 1), (618, .invokevirtual 88, 3), (621, .if_icmp .eq 571, 3), (624, .iconst 0, 1), (625, .ireturn, 1), (626, .aload_n 1, 1), (627, .aload_n 0, 1), (628, .iload_n 3, 1), (629, .iconst 1, 1), (630, .iadd, 1), (631, .iaload, 1), (632, .invokevirtual 89, 3), (635, .aload_n 2, 1), (636, .aload_n 0, 1), (637, .iload_n 3, 1), (638, .iconst 1, 1), (639, .iadd, 1), (640, .iaload, 1), (641, .invokevirtual 92, 3), (644, .if_icmp .eq 548, 3), (647, .iconst 0, 1), (648, .ireturn, 1), (649, .aload_n 1, 1), (650, .aload_n 0, 1), (651, .iload_n 3, 1), (652, .iconst 1, 1), (653, .iadd, 1), (654, .iaload, 1), (655, .aload_n 0, 1), (656, .iload_n 3, 1), (657, .iconst 2, 1), (658, .iadd, 1), (659, .iaload, 1), (660, .invokevirtual 93, 3), (663, .aload_n 2, 1), (664, .aload_n 0, 1), (665, .iload_n 3, 1), (666, .iconst 1, 1), (667, .iadd, 1), (668, .iaload, 1), (669, .aload_n 0, 1)]
theorem dcL_law_7 : tbL_law_7.all (fun q => decide (decode cL_law q.1 = .ok q.2)) = true := by decide +kernel
def tbL_law_8 : List (Nat × Instr × Nat) := [(670, .iload_n 3, 1), (671, .iconst 2, 1), (672, .iadd, 1), (673, .iaload, 1), (674, .invokevirtual 97, 3), (677, .lcmp, 1), (678, .ifCond .eq 514, 3), (681, .iconst 0, 1), (682, .ireturn, 1), (683, .aload_n 1, 1), (684, .aload_n 0, 1), (685, .iload_n 3, 1), (686, .iconst 1, 1), (687, .iadd, 1), (688, .iaload, 1), (689, .aload_n 0, 1), (690, .iload_n 3, 1), (691, .iconst 2, 1), (692, .iadd, 1), (693, .iaload, 1), (694, .invokevirtual 98, 3), (697, .aload_n 2, 1), (698, .aload_n 0, 1), (699, .iload_n 3, 1), (700, .iconst 1, 1), (701, .iadd, 1), (702, .iaload, 1), (703, .aload_n 0, 1), (704, .iload_n 3, 1), (705, .iconst 2, 1), (706, .iadd, 1), (707, .iaload, 1), (708, .invokevirtual 101, 3), (711, .if_icmp .eq 481, 3), (714, .iconst 0, 1), (715, .ireturn, 1), (716, .aload_n 1, 1), (717, .aload_n 0, 1), (718, .iload_n 3, 1), (719, .iconst 1, 1), (720, .iadd, 1), (721, .iaload, 1), (722, .invokevirtual 102, 3), (725, .aload_n 2, 1), (726, .aload_n 0, 1), (727, .iload_n 3, 1), (728, .iconst 1, 1), (729, .iadd, 1)]
theorem dcL_law_8 : tbL_law_8.all (fun q => decide (decode cL_law q.1 = .ok q.2)) = true := by decide +kernel
def tbL_law_9 : List (Nat × Instr × Nat) := [(730, .iaload, 1), (731, .invokevirtual 105, 3), (734, .if_icmp .eq 458, 3), (737, .iconst 0, 1), (738, .ireturn, 1), (739, .aload_n 1, 1), (740, .aload_n 0, 1), (741, .iload_n 3, 1), (742, .iconst 1, 1), (743, .iadd, 1), (744, .iaload, 1), (745, .invokevirtual 106, 3), (748, .aload_n 2, 1), (749, .aload_n 0, 1), (750, .iload_n 3, 1), (751, .iconst 1, 1), (752, .iadd, 1), (753, .iaload, 1), (754, .invokevirtual 109, 3), (757, .if_icmp .eq 435, 3), (760, .iconst 0, 1), (761, .ireturn, 1), (762, .aload_n 1, 1), (763, .aload_n 0, 1), (764, .iload_n 3, 1), (765, .iconst 1, 1), (766, .iadd, 1), (767, .iaload, 1), (768, .invokevirtual 110, 3), (771, .aload_n 2, 1), (772, .aload_n 0, 1), (773, .iload_n 3, 1), (774, .iconst 1, 1), (775, .iadd, 1), (776, .iaload, 1), (777, .invokevirtual 113, 3), (780, .if_icmp .eq 412, 3), (783, .iconst 0, 1), (784, .ireturn, 1), (785, .aload_n 1, 1), (786, .invokevirtual 114, 3), (789, .aload_n 2, 1), (790, .invokevirtual 117, 3), (793, .if_icmp .eq 399, 3), (796, .iconst 0, 1), (797, .ireturn, 1), (798, .aload_n 1, 1), (799, .aload_n 0, 1)]
theorem dcL_law_9 : tbL_law_9.all (fun q => decide (decode cL_law q.1 = .ok q.2)) = true := by decide +kernel
def tbL_law_10 : List (Nat × Instr × Nat) := [(800, .iload_n 3, 1), (801, .iconst 1, 1), (802, .iadd, 1), (803, .iaload, 1), (804, .aload_n 0, 1), (805, .iload_n 3, 1), (806, .iconst 2, 1), (807, .iadd, 1), (808, .iaload, 1), (809, .invokevirtual 118, 3), (812, .aload_n 2, 1), (813, .aload_n 0, 1), (814, .iload_n 3, 1), (815, .iconst 1, 1), (816, .iadd, 1), (817, .iaload, 1), (818, .aload_n 0, 1), (819, .iload_n 3, 1), (820, .iconst 2, 1), (821, .iadd, 1), (822, .iaload, 1), (823, .invokevirtual 121, 3), (826, .if_icmp .eq 366, 3), (829, .iconst 0, 1), (830, .ireturn, 1), (831, .aload_n 1, 1), (832, .invokevirtual 122, 3), (835, .aload_n 2, 1), (836, .invokevirtual 125, 3), (839, .if_icmp .eq 353, 3), (842, .iconst 0, 1), (843, .ireturn, 1), (844, .aload_n 1, 1), (845, .invokevirtual 126, 3), (848, .aload_n 2, 1), (849, .invokevirtual 129, 3), (852, .if_icmp .eq 340, 3), (855, .iconst 0, 1), (856, .ireturn, 1), (857, .aload_n 1, 1), (858, .aload_n 0, 1), (859, .iload_n 3, 1), (860, .iconst 1, 1), (861, .iadd, 1), (862, .iaload, 1), (863, .aload_n 0, 1), (864, .iload_n 3, 1), (865, .iconst 2, 1)]
theorem dcL_law_10 : tbL_law_10.all (fun q => decide (decode cL_law q.1 = .ok q.2)) = true := by decide +kernel
def tbL_law_11 : List (Nat × Instr × Nat) := [(866, .iadd, 1), (867, .iaload, 1), (868, .aload_n 0, 1), (869, .iload_n 3, 1), (870, .iconst 3, 1), (871, .iadd, 1), (872, .iaload, 1), (873, .invokevirtual 130, 3), (876, .aload_n 2, 1), (877, .aload_n 0, 1), (878, .iload_n 3, 1), (879, .iconst 1, 1), (880, .iadd, 1), (881, .iaload, 1), (882, .aload_n 0, 1), (883, .iload_n 3, 1), (884, .iconst 2, 1), (885, .iadd, 1), (886, .iaload, 1), (887, .aload_n 0, 1), (888, .iload_n 3, 1), (889, .iconst 3, 1), (890, .iadd, 1), (891, .iaload, 1), (892, .invokevirtual 133, 3), (895, .if_icmp .eq 297, 3), (898, .iconst 0, 1), (899, .ireturn, 1), (900, .aload_n 1, 1), (901, .aload_n 0, 1), (902, .iload_n 3, 1), (903, .iconst 1, 1), (904, .iadd, 1), (905, .iaload, 1), (906, .invokevirtual 134, 3), (909, .aload_n 2, 1), (910, .aload_n 0, 1), (911, .iload_n 3, 1), (912, .iconst 1, 1), (913, .iadd, 1), (914, .iaload, 1), (915, .invokevirtual 137, 3), (918, .if_icmp .eq 274, 3), (921, .iconst 0, 1), (922, .ireturn, 1), (923, .aload_n 1, 1), (924, .aload_n 0, 1), (925, .iload_n 3, 1)]
theorem dcL_law_11 : tbL_law_11.all (fun q => decide (decode cL_law q.1 = .ok q.2)) = true := by decide +kernel
def tbL_law_12 : List (Nat × Instr × Nat) := [(926, .iconst 1, 1), (927, .iadd, 1), (928, .iaload, 1), (929, .aload_n 0, 1), (930, .iload_n 3, 1), (931, .iconst 2, 1), (932, .iadd, 1), (933, .iaload, 1), (934, .invokevirtual 138, 3), (937, .aload_n 2, 1), (938, .aload_n 0, 1), (939, .iload_n 3, 1), (940, .iconst 1, 1), (941, .iadd, 1), (942, .iaload, 1), (943, .aload_n 0, 1), (944, .iload_n 3, 1), (945, .iconst 2, 1), (946, .iadd, 1), (947, .iaload, 1), (948, .invokevirtual 141, 3), (951, .if_icmp .eq 241, 3), (954, .iconst 0, 1), (955, .ireturn, 1), (956, .aload_n 1, 1), (957, .aload_n 0, 1), (958, .iload_n 3, 1), (959, .iconst 1, 1), (960, .iadd, 1), (961, .iaload, 1), (962, .invokevirtual 142, 3), (965, .aload_n 2, 1), (966, .aload_n 0, 1), (967, .iload_n 3, 1), (968, .iconst 1, 1), (969, .iadd, 1), (970, .iaload, 1), (971, .invokevirtual 145, 3), (974, .if_icmp .eq 218, 3), (977, .iconst 0, 1), (978, .ireturn, 1), (979, .aload_n 1, 1), (980, .aload_n 0, 1), (981, .iload_n 3, 1), (982, .iconst 1, 1), (983, .iadd, 1), (984, .iaload, 1), (985, .aload_n 0, 1)]
theorem dcL_law_12 : tbL_law_12.all (fun q => decide (decode cL_law q.1 = .ok q.2)) = true := by decide +kernel
def tbL_law_13 : List (Nat × Instr × Nat) := [(986, .iload_n 3, 1), (987, .iconst 2, 1), (988, .iadd, 1), (989, .iaload, 1), (990, .aload_n 0, 1), (991, .iload_n 3, 1), (992, .iconst 3, 1), (993, .iadd, 1), (994, .iaload, 1), (995, .invokevirtual 146, 3), (998, .aload_n 2, 1), (999, .aload_n 0, 1), (1000, .iload_n 3, 1), (1001, .iconst 1, 1), (1002, .iadd, 1), (1003, .iaload, 1), (1004, .aload_n 0, 1), (1005, .iload_n 3, 1), (1006, .iconst 2, 1), (1007, .iadd, 1), (1008, .iaload, 1), (1009, .aload_n 0, 1), (1010, .iload_n 3, 1), (1011, .iconst 3, 1), (1012, .iadd, 1), (1013, .iaload, 1), (1014, .invokevirtual 149, 3), (1017, .if_icmp .eq 175, 3), (1020, .iconst 0, 1), (1021, .ireturn, 1), (1022, .aload_n 1, 1), (1023, .aload_n 0, 1), (1024, .iload_n 3, 1), (1025, .iconst 1, 1), (1026, .iadd, 1), (1027, .iaload, 1), (1028, .aload_n 0, 1), (1029, .iload_n 3, 1), (1030, .iconst 2, 1), (1031, .iadd, 1), (1032, .iaload, 1), (1033, .aload_n 0, 1), (1034, .iload_n 3, 1), (1035, .iconst 3, 1), (1036, .iadd, 1), (1037, .iaload, 1), (1038, .i2l, 1), (1039, .bipush 32, 2)]
theorem dcL_law_13 : tbL_law_13.all (fun q => decide (decode cL_law q.1 = .ok q.2)) = true := by decide +kernel
def tbL_law_14 : List (Nat × Instr × Nat) := [(1041, .lshl, 1), (1042, .aload_n 0, 1), (1043, .iload_n 3, 1), (1044, .iconst 4, 1), (1045, .iadd, 1), (1046, .iaload, 1), (1047, .i2l, 1), (1048, .ldc2_w 150, 3), (1051, .land, 1), (1052, .lor, 1), (1053, .invokevirtual 152, 3), (1056, .aload_n 2, 1), (1057, .aload_n 0, 1), (1058, .iload_n 3, 1), (1059, .iconst 1, 1), (1060, .iadd, 1), (1061, .iaload, 1), (1062, .aload_n 0, 1), (1063, .iload_n 3, 1), (1064, .iconst 2, 1), (1065, .iadd, 1), (1066, .iaload, 1), (1067, .aload_n 0, 1), (1068, .iload_n 3, 1), (1069, .iconst 3, 1), (1070, .iadd, 1), (1071, .iaload, 1), (1072, .i2l, 1), (1073, .bipush 32, 2), (1075, .lshl, 1), (1076, .aload_n 0, 1), (1077, .iload_n 3, 1), (1078, .iconst 4, 1), (1079, .iadd, 1), (1080, .iaload, 1), (1081, .i2l, 1), (1082, .ldc2_w 150, 3), (1085, .land, 1), (1086, .lor, 1), (1087, .invokevirtual 156, 3), (1090, .if_icmp .eq 102, 3), (1093, .iconst 0, 1), (1094, .ireturn, 1), (1095, .aload_n 1, 1), (1096, .aload_n 0, 1), (1097, .iload_n 3, 1), (1098, .iconst 1, 1), (1099, .iadd, 1)]
theorem dcL_law_14 : tbL_law_14.all (fun q => decide (decode cL_law q.1 = .ok q.2)) = true := by decide +kernel
def tbL_law_15 : List (Nat × Instr × Nat) := [(1100, .iaload, 1), (1101, .aload_n 0, 1), (1102, .iload_n 3, 1), (1103, .iconst 2, 1), (1104, .iadd, 1), (1105, .iaload, 1), (1106, .invokevirtual 157, 3), (1109, .aload_n 2, 1), (1110, .aload_n 0, 1), (1111, .iload_n 3, 1), (1112, .iconst 1, 1), (1113, .iadd, 1), (1114, .iaload, 1), (1115, .aload_n 0, 1), (1116, .iload_n 3, 1), (1117, .iconst 2, 1), (1118, .iadd, 1), (1119, .iaload, 1), (1120, .invokevirtual 160, 3), (1123, .lcmp, 1), (1124, .ifCond .eq 68, 3), (1127, .iconst 0, 1), (1128, .ireturn, 1), (1129, .aload_n 1, 1), (1130, .aload_n 0, 1), (1131, .iload_n 3, 1), (1132, .iconst 1, 1), (1133, .iadd, 1), (1134, .iaload, 1), (1135, .aload_n 0, 1), (1136, .iload_n 3, 1), (1137, .iconst 2, 1), (1138, .iadd, 1), (1139, .iaload, 1), (1140, .aload_n 0, 1), (1141, .iload_n 3, 1), (1142, .iconst 3, 1), (1143, .iadd, 1), (1144, .iaload, 1), (1145, .aload_n 0, 1), (1146, .iload_n 3, 1), (1147, .iconst 4, 1), (1148, .iadd, 1), (1149, .iaload, 1), (1150, .aload_n 0, 1), (1151, .iload_n 3, 1), (1152, .iconst 5, 1), (1153, .iadd, 1)]
theorem dcL_law_15 : tbL_law_15.all (fun q => decide (decode cL_law q.1 = .ok q.2)) = true := by decide +kernel
def tbL_law_16 : List (Nat × Instr × Nat) := [(1154, .iaload, 1), (1155, .invokevirtual 161, 3), (1158, .aload_n 2, 1), (1159, .aload_n 0, 1), (1160, .iload_n 3, 1), (1161, .iconst 1, 1), (1162, .iadd, 1), (1163, .iaload, 1), (1164, .aload_n 0, 1), (1165, .iload_n 3, 1), (1166, .iconst 2, 1), (1167, .iadd, 1), (1168, .iaload, 1), (1169, .aload_n 0, 1), (1170, .iload_n 3, 1), (1171, .iconst 3, 1), (1172, .iadd, 1), (1173, .iaload, 1), (1174, .aload_n 0, 1), (1175, .iload_n 3, 1), (1176, .iconst 4, 1), (1177, .iadd, 1), (1178, .iaload, 1), (1179, .aload_n 0, 1), (1180, .iload_n 3, 1), (1181, .iconst 5, 1), (1182, .iadd, 1), (1183, .iaload, 1), (1184, .invokevirtual 165, 3), (1187, .if_icmp .eq 5, 3), (1190, .iconst 0, 1), (1191, .ireturn, 1), (1192, .iinc 3 6, 3), (1195, .goto (-1177), 3), (1198, .iconst 1, 1), (1199, .ireturn, 1)]
theorem dcL_law_16 : tbL_law_16.all (fun q => decide (decode cL_law q.1 = .ok q.2)) = true := by decide +kernel
end
section
/-! The state of both sides: whole numbers by (component, member), rows of them, rows of longs, the law that holds (a ref that changes). -/
abbrev STt : Type := (Nat → Nat → Int32) × (Nat → Nat → Nat → Int32) × (Nat → Nat → Nat → Int64) × Nat
def sS (g : STt) (c i : Nat) (v : Int32) : STt := (fun c' i' => if c' = c ∧ i' = i then v else g.1 c' i', g.2)
def sA (g : STt) (c i : Nat) (f : Nat → Int32) : STt := (g.1, fun c' i' => if c' = c ∧ i' = i then f else g.2.1 c' i', g.2.2)
def sL (g : STt) (c i : Nat) (f : Nat → Int64) : STt := (g.1, g.2.1, fun c' i' => if c' = c ∧ i' = i then f else g.2.2.1 c' i', g.2.2.2)
def sW (g : STt) (k : Nat) : STt := (g.1, g.2.1, g.2.2.1, k)
/-- an index within -/
def inB (i : Int32) (n : Nat) : Bool := decide (0 ≤ i.toInt) && decide (i.toInt < (n : Int))
theorem inB_in {i : Int32} {n : Nat} (h : inB i n = true) : vp_in i n := by
  simp only [inB, Bool.and_eq_true, decide_eq_true_eq] at h
  exact vp_in_iff.mpr h
theorem inB_lt {i : Int32} {n : Nat} (h : inB i n = true) : i.toNatClampNeg < n := Nat.not_le.mp fun q => inB_in h (Or.inr q)
def bnd {α β γ : Type} (x : Option (α × β)) (f : α → β → Option γ) : Option γ := match x with
  | none => none
  | some q => f q.1 q.2
theorem bnd_s {α β γ : Type} {x : Option (α × β)} {f : α → β → Option γ} {r : γ} (h : bnd x f = some r) : ∃ a b, x = some (a, b) ∧ f a b = some r := by
  cases x with
  | none => cases h
  | some q => exact ⟨q.1, q.2, rfl, h⟩
def bnd1 {α γ : Type} (x : Option α) (f : α → Option γ) : Option γ := match x with
  | none => none
  | some q => f q
theorem bnd1_s {α γ : Type} {x : Option α} {f : α → Option γ} {r : γ} (h : bnd1 x f = some r) : ∃ a, x = some a ∧ f a = some r := by
  cases x with
  | none => cases h
  | some q => exact ⟨q, rfl, h⟩
def ocase {γ : Type} (x : Option Nat) (a : γ) (f : Nat → γ) : γ := match x with
  | none => a
  | some q => f q
theorem gd_t {p : Prop} [Decidable p] {α : Type} {x : Option α} {r : α} (h : (if p then x else none) = some r) : p ∧ x = some r := by
  by_cases hp : p
  · exact ⟨hp, by rwa [if_pos hp] at h⟩
  · rw [if_neg hp] at h; cases h
theorem if_t {p : Prop} [Decidable p] {α : Type} {x y r : α} (hp : p) (h : (if p then x else y) = r) : x = r := by rwa [if_pos hp] at h
theorem if_f {p : Prop} [Decidable p] {α : Type} {x y r : α} (hp : ¬ p) (h : (if p then x else y) = r) : y = r := by rwa [if_neg hp] at h
def iterO {σ τ : Type} (F : (σ → Option τ) → σ → Option τ) : Nat → σ → Option τ
  | 0, _ => none
  | n + 1, s => F (iterO F n) s
theorem iterO_ind {σ τ : Type} {F : (σ → Option τ) → σ → Option τ} (P : σ → τ → Prop) (hF : ∀ K : σ → Option τ, (∀ s r, K s = some r → P s r) → ∀ s r, F K s = some r → P s r) : ∀ (n : Nat) (s : σ) (r : τ), iterO F n s = some r → P s r := by
  intro n
  induction n with
  | zero => intro s r h; cases h
  | succ n ih => intro s r h; exact hF (iterO F n) ih s r h
theorem iterO_succ {σ τ : Type} (F : (σ → Option τ) → σ → Option τ) (n : Nat) (s : σ) : iterO F (n + 1) s = F (iterO F n) s := rfl

abbrev WEt : Type := va_G × (Nat → ClassId) × (Nat → Nat → Nat) × (Nat → Prop) × (Nat → Nat)
def aE (E : WEt) (fam i : Nat) : Nat := E.2.2.1 fam i
def tyE (E : WEt) : List (ClassId × FieldType) := [(E.2.1 0, .int), (E.2.1 1, .long), (E.2.1 2, .boolean), (E.2.1 3, .byte), (E.2.1 4, .object "DonkeyBridge$Law"), (E.2.1 5, .object "DonkeyBridge$Tape"), (E.2.1 6, .object "DonkeyBridge$Donkey")]
def oV (E : WEt) (fam : Nat) (x : Option Nat) : Value := match x with
  | none => .null
  | some k => .ref (aE E fam k)
def lnS : Nat → Nat
  | 0 => 100
  | 1 => 12
  | 2 => 12
  | 3 => 4
  | 4 => 12
  | 5 => 12
  | 6 => 4
  | _ => 20
def cellsC (E : WEt) (g : STt) : va_W := [(aE E 0 0, .inr (10, [.ref (aE E 1 (0)), .ref (aE E 5 (0)), .ref (aE E 6 (0)), .ref (aE E 21 (6)), .int (g.1 0 0), .ref (aE E 7 (0)), .ref (aE E 10 (0)), .ref (aE E 14 (0)), .ref (aE E 15 (0)), .ref (aE E 16 (0)), .ref (aE E 16 (1)), .int (g.1 1 0)])),
  (aE E 1 0, .inr (4, [.ref (aE E 2 (0)), .ref (aE E 3 (0)), .ref (aE E 4 (0)), .int (g.1 2 0)])),
  (aE E 2 0, .inl (E.2.1 0, 10, .inl (g.2.1 3 0))),
  (aE E 3 0, .inl (E.2.1 0, 10, .inl (g.2.1 4 0))),
  (aE E 4 0, .inl (E.2.1 0, 10, .inl (g.2.1 5 0))),
  (aE E 5 0, .inr (7, [.ref (aE E 17 (0)), .int (g.1 6 0)])),
  (aE E 6 0, .inl (E.2.1 4, 6, .inr (.inr (.inr (.inr (fun j => if j < 6 then some (aE E 21 (j)) else none)))))),
  (aE E 7 0, .inr (9, [.ref (aE E 1 (0)), .ref (aE E 21 g.2.2.2), .ref (aE E 8 (0)), .ref (aE E 9 (0))])),
  (aE E 8 0, .inl (E.2.1 0, 9, .inl (g.2.1 7 0))),
  (aE E 9 0, .inl (E.2.1 0, 7, .inl (g.2.1 8 0))),
  (aE E 10 0, .inr (8, [.ref (aE E 7 (0)), .ref (aE E 16 (0)), .ref (aE E 11 (0)), .ref (aE E 19 (9)), .ref (aE E 12 (0)), .ref (aE E 13 (0)), .int (g.1 9 0), .int (g.1 10 0), .int (g.1 11 0)])),
  (aE E 11 0, .inl (E.2.1 6, 7, .inr (.inr (.inr (.inr (fun j => if j < 7 then some (aE E 19 (2 + j)) else none)))))),
  (aE E 12 0, .inl (E.2.1 0, 4, .inl (g.2.1 12 0))),
  (aE E 13 0, .inl (E.2.1 0, 4, .inl (g.2.1 13 0))),
  (aE E 14 0, .inr (0, [.ref (aE E 1 (0)), .ref (aE E 17 (7)), .int (g.1 14 0), .int (g.1 15 0), .int (g.1 16 0), .int (g.1 17 0)])),
  (aE E 15 0, .inl (E.2.1 5, 6, .inr (.inr (.inr (.inr (fun j => if j < 6 then some (aE E 26 (j)) else none)))))),
  (aE E 16 0, .inr (3, [.ref (aE E 19 (0)), .ref (aE E 17 (1 + 3 * 0)), .ref (aE E 17 (2 + 3 * 0)), .ref (aE E 17 (3 + 3 * 0)), .int (g.1 18 0), .int (g.1 19 0)])),
  (aE E 16 1, .inr (3, [.ref (aE E 19 (1)), .ref (aE E 17 (1 + 3 * 1)), .ref (aE E 17 (2 + 3 * 1)), .ref (aE E 17 (3 + 3 * 1)), .int (g.1 18 1), .int (g.1 19 1)])),
  (aE E 17 0, .inr (5, [.ref (aE E 18 (0)), .int (g.1 20 0)])),
  (aE E 18 0, .inl (E.2.1 0, lnS 0, .inl (g.2.1 21 0))),
  (aE E 17 1, .inr (5, [.ref (aE E 18 (1)), .int (g.1 20 1)])),
  (aE E 18 1, .inl (E.2.1 0, lnS 1, .inl (g.2.1 21 1))),
  (aE E 17 2, .inr (5, [.ref (aE E 18 (2)), .int (g.1 20 2)])),
  (aE E 18 2, .inl (E.2.1 0, lnS 2, .inl (g.2.1 21 2))),
  (aE E 17 3, .inr (5, [.ref (aE E 18 (3)), .int (g.1 20 3)])),
  (aE E 18 3, .inl (E.2.1 0, lnS 3, .inl (g.2.1 21 3))),
  (aE E 17 4, .inr (5, [.ref (aE E 18 (4)), .int (g.1 20 4)])),
  (aE E 18 4, .inl (E.2.1 0, lnS 4, .inl (g.2.1 21 4))),
  (aE E 17 5, .inr (5, [.ref (aE E 18 (5)), .int (g.1 20 5)])),
  (aE E 18 5, .inl (E.2.1 0, lnS 5, .inl (g.2.1 21 5))),
  (aE E 17 6, .inr (5, [.ref (aE E 18 (6)), .int (g.1 20 6)])),
  (aE E 18 6, .inl (E.2.1 0, lnS 6, .inl (g.2.1 21 6))),
  (aE E 17 7, .inr (5, [.ref (aE E 18 (7)), .int (g.1 20 7)])),
  (aE E 18 7, .inl (E.2.1 0, lnS 7, .inl (g.2.1 21 7))),
  (aE E 19 0, .inr (1, [.ref (aE E 20 (0))])),
  (aE E 20 0, .inl (E.2.1 0, 15, .inl (g.2.1 22 0))),
  (aE E 19 1, .inr (1, [.ref (aE E 20 (1))])),
  (aE E 20 1, .inl (E.2.1 0, 15, .inl (g.2.1 22 1))),
  (aE E 19 2, .inr (1, [.ref (aE E 20 (2))])),
  (aE E 20 2, .inl (E.2.1 0, 15, .inl (g.2.1 22 2))),
  (aE E 19 3, .inr (1, [.ref (aE E 20 (3))])),
  (aE E 20 3, .inl (E.2.1 0, 15, .inl (g.2.1 22 3))),
  (aE E 19 4, .inr (1, [.ref (aE E 20 (4))])),
  (aE E 20 4, .inl (E.2.1 0, 15, .inl (g.2.1 22 4))),
  (aE E 19 5, .inr (1, [.ref (aE E 20 (5))])),
  (aE E 20 5, .inl (E.2.1 0, 15, .inl (g.2.1 22 5))),
  (aE E 19 6, .inr (1, [.ref (aE E 20 (6))])),
  (aE E 20 6, .inl (E.2.1 0, 15, .inl (g.2.1 22 6))),
  (aE E 19 7, .inr (1, [.ref (aE E 20 (7))])),
  (aE E 20 7, .inl (E.2.1 0, 15, .inl (g.2.1 22 7))),
  (aE E 19 8, .inr (1, [.ref (aE E 20 (8))])),
  (aE E 20 8, .inl (E.2.1 0, 15, .inl (g.2.1 22 8))),
  (aE E 19 9, .inr (1, [.ref (aE E 20 (9))])),
  (aE E 20 9, .inl (E.2.1 0, 15, .inl (g.2.1 22 9))),
  (aE E 21 0, .inr (2, [.ref (aE E 22 (0)), .ref (aE E 23 (0)), .ref (aE E 24 (0)), .int (g.1 23 0), .ref (aE E 25 (0)), .int (g.1 24 0)])),
  (aE E 22 0, .inl (E.2.1 0, 10, .inl (g.2.1 25 0))),
  (aE E 23 0, .inl (E.2.1 0, 10, .inl (g.2.1 26 0))),
  (aE E 24 0, .inl (E.2.1 0, 10, .inl (g.2.1 27 0))),
  (aE E 25 0, .inl (E.2.1 0, 100, .inl (g.2.1 28 0))),
  (aE E 21 1, .inr (2, [.ref (aE E 22 (1)), .ref (aE E 23 (1)), .ref (aE E 24 (1)), .int (g.1 23 1), .ref (aE E 25 (1)), .int (g.1 24 1)])),
  (aE E 22 1, .inl (E.2.1 0, 10, .inl (g.2.1 25 1))),
  (aE E 23 1, .inl (E.2.1 0, 10, .inl (g.2.1 26 1))),
  (aE E 24 1, .inl (E.2.1 0, 10, .inl (g.2.1 27 1))),
  (aE E 25 1, .inl (E.2.1 0, 100, .inl (g.2.1 28 1))),
  (aE E 21 2, .inr (2, [.ref (aE E 22 (2)), .ref (aE E 23 (2)), .ref (aE E 24 (2)), .int (g.1 23 2), .ref (aE E 25 (2)), .int (g.1 24 2)])),
  (aE E 22 2, .inl (E.2.1 0, 10, .inl (g.2.1 25 2))),
  (aE E 23 2, .inl (E.2.1 0, 10, .inl (g.2.1 26 2))),
  (aE E 24 2, .inl (E.2.1 0, 10, .inl (g.2.1 27 2))),
  (aE E 25 2, .inl (E.2.1 0, 100, .inl (g.2.1 28 2))),
  (aE E 21 3, .inr (2, [.ref (aE E 22 (3)), .ref (aE E 23 (3)), .ref (aE E 24 (3)), .int (g.1 23 3), .ref (aE E 25 (3)), .int (g.1 24 3)])),
  (aE E 22 3, .inl (E.2.1 0, 10, .inl (g.2.1 25 3))),
  (aE E 23 3, .inl (E.2.1 0, 10, .inl (g.2.1 26 3))),
  (aE E 24 3, .inl (E.2.1 0, 10, .inl (g.2.1 27 3))),
  (aE E 25 3, .inl (E.2.1 0, 100, .inl (g.2.1 28 3))),
  (aE E 21 4, .inr (2, [.ref (aE E 22 (4)), .ref (aE E 23 (4)), .ref (aE E 24 (4)), .int (g.1 23 4), .ref (aE E 25 (4)), .int (g.1 24 4)])),
  (aE E 22 4, .inl (E.2.1 0, 10, .inl (g.2.1 25 4))),
  (aE E 23 4, .inl (E.2.1 0, 10, .inl (g.2.1 26 4))),
  (aE E 24 4, .inl (E.2.1 0, 10, .inl (g.2.1 27 4))),
  (aE E 25 4, .inl (E.2.1 0, 100, .inl (g.2.1 28 4))),
  (aE E 21 5, .inr (2, [.ref (aE E 22 (5)), .ref (aE E 23 (5)), .ref (aE E 24 (5)), .int (g.1 23 5), .ref (aE E 25 (5)), .int (g.1 24 5)])),
  (aE E 22 5, .inl (E.2.1 0, 10, .inl (g.2.1 25 5))),
  (aE E 23 5, .inl (E.2.1 0, 10, .inl (g.2.1 26 5))),
  (aE E 24 5, .inl (E.2.1 0, 10, .inl (g.2.1 27 5))),
  (aE E 25 5, .inl (E.2.1 0, 100, .inl (g.2.1 28 5))),
  (aE E 21 6, .inr (2, [.ref (aE E 22 (6)), .ref (aE E 23 (6)), .ref (aE E 24 (6)), .int (g.1 23 6), .ref (aE E 25 (6)), .int (g.1 24 6)])),
  (aE E 22 6, .inl (E.2.1 0, 10, .inl (g.2.1 25 6))),
  (aE E 23 6, .inl (E.2.1 0, 10, .inl (g.2.1 26 6))),
  (aE E 24 6, .inl (E.2.1 0, 10, .inl (g.2.1 27 6))),
  (aE E 25 6, .inl (E.2.1 0, 100, .inl (g.2.1 28 6))),
  (aE E 26 0, .inr (6, [.ref (aE E 27 (0)), .int (g.1 29 0), .int (g.1 30 0)])),
  (aE E 27 0, .inl (E.2.1 1, 60, .inr (.inl (g.2.2.1 31 0)))),
  (aE E 26 1, .inr (6, [.ref (aE E 27 (1)), .int (g.1 29 1), .int (g.1 30 1)])),
  (aE E 27 1, .inl (E.2.1 1, 60, .inr (.inl (g.2.2.1 31 1)))),
  (aE E 26 2, .inr (6, [.ref (aE E 27 (2)), .int (g.1 29 2), .int (g.1 30 2)])),
  (aE E 27 2, .inl (E.2.1 1, 60, .inr (.inl (g.2.2.1 31 2)))),
  (aE E 26 3, .inr (6, [.ref (aE E 27 (3)), .int (g.1 29 3), .int (g.1 30 3)])),
  (aE E 27 3, .inl (E.2.1 1, 60, .inr (.inl (g.2.2.1 31 3)))),
  (aE E 26 4, .inr (6, [.ref (aE E 27 (4)), .int (g.1 29 4), .int (g.1 30 4)])),
  (aE E 27 4, .inl (E.2.1 1, 60, .inr (.inl (g.2.2.1 31 4)))),
  (aE E 26 5, .inr (6, [.ref (aE E 27 (5)), .int (g.1 29 5), .int (g.1 30 5)])),
  (aE E 27 5, .inl (E.2.1 1, 60, .inr (.inl (g.2.2.1 31 5))))]
def cellsM (E : WEt) (g : STt) : va_W := [(aE E 28 0, .inr (11, [.int (g.1 32 0), .int (g.1 33 0), .ref (aE E 29 (0)), .ref (aE E 30 (0)), .ref (aE E 31 (0)), .ref (aE E 32 (0)), .ref (aE E 33 (0)), .int (g.1 34 0), .int (g.1 35 0), .int (g.1 36 0), .ref (aE E 34 (0)), .ref (aE E 35 (0)), .ref (aE E 36 (0)), .ref (aE E 37 (0)), .ref (aE E 38 (0)), .ref (aE E 39 (0)), .ref (aE E 40 (0)), .ref (aE E 41 (0)), .ref (aE E 42 (0)), .int (g.1 37 0), .int (g.1 38 0), .int (g.1 39 0), .ref (aE E 43 (0)), .ref (aE E 44 (0)), .int (g.1 40 0), .int (g.1 41 0), .int (g.1 42 0), .ref (aE E 45 (0)), .ref (aE E 46 (0)), .int (g.1 43 0), .int (g.1 44 0), .int (g.1 45 0), .ref (aE E 47 (0)), .int (g.1 46 0), .ref (aE E 48 (0)), .ref (aE E 49 (0)), .ref (aE E 50 (0)), .ref (aE E 51 (0)), .ref (aE E 52 (0)), .int (g.1 47 0), .int (g.1 48 0), .int (g.1 49 0), .int (g.1 50 0), .int (g.1 51 0), .int (g.1 52 0), .ref (aE E 53 (0)), .ref (aE E 54 (0)), .ref (aE E 55 (0)), .ref (aE E 56 (0)), .int (g.1 53 0), .ref (aE E 57 (0))])),
  (aE E 29 0, .inl (E.2.1 0, 10, .inl (g.2.1 54 0))),
  (aE E 30 0, .inl (E.2.1 0, 10, .inl (g.2.1 55 0))),
  (aE E 31 0, .inl (E.2.1 0, 10, .inl (g.2.1 56 0))),
  (aE E 32 0, .inl (E.2.1 0, 15, .inl (g.2.1 57 0))),
  (aE E 33 0, .inl (E.2.1 3, 100, .inl (g.2.1 58 0))),
  (aE E 34 0, .inl (E.2.1 0, 7, .inl (g.2.1 59 0))),
  (aE E 35 0, .inl (E.2.1 0, 70, .inl (g.2.1 60 0))),
  (aE E 36 0, .inl (E.2.1 0, 70, .inl (g.2.1 61 0))),
  (aE E 37 0, .inl (E.2.1 0, 70, .inl (g.2.1 62 0))),
  (aE E 38 0, .inl (E.2.1 0, 70, .inl (g.2.1 63 0))),
  (aE E 39 0, .inl (E.2.1 0, 700, .inl (g.2.1 64 0))),
  (aE E 40 0, .inl (E.2.1 0, 700, .inl (g.2.1 65 0))),
  (aE E 41 0, .inl (E.2.1 0, 700, .inl (g.2.1 66 0))),
  (aE E 42 0, .inl (E.2.1 0, 700, .inl (g.2.1 67 0))),
  (aE E 43 0, .inl (E.2.1 0, 31, .inl (g.2.1 68 0))),
  (aE E 44 0, .inl (E.2.1 2, 100, .inl (g.2.1 69 0))),
  (aE E 45 0, .inl (E.2.1 0, 12, .inl (g.2.1 70 0))),
  (aE E 46 0, .inl (E.2.1 0, 15, .inl (g.2.1 71 0))),
  (aE E 47 0, .inl (E.2.1 0, 4, .inl (g.2.1 72 0))),
  (aE E 48 0, .inl (E.2.1 0, 12, .inl (g.2.1 73 0))),
  (aE E 49 0, .inl (E.2.1 0, 6, .inl (g.2.1 74 0))),
  (aE E 50 0, .inl (E.2.1 0, 6, .inl (g.2.1 75 0))),
  (aE E 51 0, .inl (E.2.1 1, 360, .inr (.inl (g.2.2.1 76 0)))),
  (aE E 52 0, .inl (E.2.1 1, 60, .inr (.inl (g.2.2.1 77 0)))),
  (aE E 53 0, .inl (E.2.1 0, 15, .inl (g.2.1 78 0))),
  (aE E 54 0, .inl (E.2.1 0, 12, .inl (g.2.1 79 0))),
  (aE E 55 0, .inl (E.2.1 0, 12, .inl (g.2.1 80 0))),
  (aE E 56 0, .inl (E.2.1 0, 4, .inl (g.2.1 81 0))),
  (aE E 57 0, .inl (E.2.1 0, 20, .inl (g.2.1 82 0)))]
theorem ce_DB {E : WEt} {g : STt} {wx : va_W} : (cellsC E g ++ wx)[0]? = some (aE E 0 0, .inr (10, [.ref (aE E 1 (0)), .ref (aE E 5 (0)), .ref (aE E 6 (0)), .ref (aE E 21 (6)), .int (g.1 0 0), .ref (aE E 7 (0)), .ref (aE E 10 (0)), .ref (aE E 14 (0)), .ref (aE E 15 (0)), .ref (aE E 16 (0)), .ref (aE E 16 (1)), .int (g.1 1 0)])) := rfl
theorem se_DB_lawCount {E : WEt} {g : STt} {wx : va_W} (v : Int32) : (cellsC E g ++ wx).set (0) (aE E 0 0, .inr (10, [.ref (aE E 1 (0)), .ref (aE E 5 (0)), .ref (aE E 6 (0)), .ref (aE E 21 (6)), .int v, .ref (aE E 7 (0)), .ref (aE E 10 (0)), .ref (aE E 14 (0)), .ref (aE E 15 (0)), .ref (aE E 16 (0)), .ref (aE E 16 (1)), .int (g.1 1 0)])) = cellsC E (sS g 0 0 v) ++ wx := rfl
theorem se_DB_imageTaken {E : WEt} {g : STt} {wx : va_W} (v : Int32) : (cellsC E g ++ wx).set (0) (aE E 0 0, .inr (10, [.ref (aE E 1 (0)), .ref (aE E 5 (0)), .ref (aE E 6 (0)), .ref (aE E 21 (6)), .int (g.1 0 0), .ref (aE E 7 (0)), .ref (aE E 10 (0)), .ref (aE E 14 (0)), .ref (aE E 15 (0)), .ref (aE E 16 (0)), .ref (aE E 16 (1)), .int v])) = cellsC E (sS g 1 0 v) ++ wx := rfl
theorem ce_Road {E : WEt} {g : STt} {wx : va_W} : (cellsC E g ++ wx)[1]? = some (aE E 1 0, .inr (4, [.ref (aE E 2 (0)), .ref (aE E 3 (0)), .ref (aE E 4 (0)), .int (g.1 2 0)])) := rfl
theorem se_Road_size {E : WEt} {g : STt} {wx : va_W} (v : Int32) : (cellsC E g ++ wx).set (1) (aE E 1 0, .inr (4, [.ref (aE E 2 (0)), .ref (aE E 3 (0)), .ref (aE E 4 (0)), .int v])) = cellsC E (sS g 2 0 v) ++ wx := rfl
theorem ce_roadKinds {E : WEt} {g : STt} {wx : va_W} : (cellsC E g ++ wx)[2]? = some (aE E 2 0, .inl (E.2.1 0, 10, .inl (g.2.1 3 0))) := rfl
theorem se_roadKinds {E : WEt} {g : STt} {wx : va_W} (f : Nat → Int32) : (cellsC E g ++ wx).set (2) (aE E 2 0, .inl (E.2.1 0, 10, .inl f)) = cellsC E (sA g 3 0 f) ++ wx := rfl
theorem ce_roadNumbers {E : WEt} {g : STt} {wx : va_W} : (cellsC E g ++ wx)[3]? = some (aE E 3 0, .inl (E.2.1 0, 10, .inl (g.2.1 4 0))) := rfl
theorem se_roadNumbers {E : WEt} {g : STt} {wx : va_W} (f : Nat → Int32) : (cellsC E g ++ wx).set (3) (aE E 3 0, .inl (E.2.1 0, 10, .inl f)) = cellsC E (sA g 4 0 f) ++ wx := rfl
theorem ce_roadThings {E : WEt} {g : STt} {wx : va_W} : (cellsC E g ++ wx)[4]? = some (aE E 4 0, .inl (E.2.1 0, 10, .inl (g.2.1 5 0))) := rfl
theorem se_roadThings {E : WEt} {g : STt} {wx : va_W} (f : Nat → Int32) : (cellsC E g ++ wx).set (4) (aE E 4 0, .inl (E.2.1 0, 10, .inl f)) = cellsC E (sA g 5 0 f) ++ wx := rfl
theorem ce_Text {E : WEt} {g : STt} {wx : va_W} : (cellsC E g ++ wx)[5]? = some (aE E 5 0, .inr (7, [.ref (aE E 17 (0)), .int (g.1 6 0)])) := rfl
theorem se_Text_pos {E : WEt} {g : STt} {wx : va_W} (v : Int32) : (cellsC E g ++ wx).set (5) (aE E 5 0, .inr (7, [.ref (aE E 17 (0)), .int v])) = cellsC E (sS g 6 0 v) ++ wx := rfl
theorem ce_lawsArr {E : WEt} {g : STt} {wx : va_W} : (cellsC E g ++ wx)[6]? = some (aE E 6 0, .inl (E.2.1 4, 6, .inr (.inr (.inr (.inr (fun j => if j < 6 then some (aE E 21 (j)) else none)))))) := rfl
theorem ce_Walk {E : WEt} {g : STt} {wx : va_W} : (cellsC E g ++ wx)[7]? = some (aE E 7 0, .inr (9, [.ref (aE E 1 (0)), .ref (aE E 21 g.2.2.2), .ref (aE E 8 (0)), .ref (aE E 9 (0))])) := rfl
theorem se_Walk_law {E : WEt} {g : STt} {wx : va_W} (k : Nat) : (cellsC E g ++ wx).set (7) (aE E 7 0, .inr (9, [.ref (aE E 1 (0)), .ref (aE E 21 k), .ref (aE E 8 (0)), .ref (aE E 9 (0))])) = cellsC E (sW g k) ++ wx := rfl
theorem ce_facts {E : WEt} {g : STt} {wx : va_W} : (cellsC E g ++ wx)[8]? = some (aE E 8 0, .inl (E.2.1 0, 9, .inl (g.2.1 7 0))) := rfl
theorem se_facts {E : WEt} {g : STt} {wx : va_W} (f : Nat → Int32) : (cellsC E g ++ wx).set (8) (aE E 8 0, .inl (E.2.1 0, 9, .inl f)) = cellsC E (sA g 7 0 f) ++ wx := rfl
theorem ce_less {E : WEt} {g : STt} {wx : va_W} : (cellsC E g ++ wx)[9]? = some (aE E 9 0, .inl (E.2.1 0, 7, .inl (g.2.1 8 0))) := rfl
theorem se_less {E : WEt} {g : STt} {wx : va_W} (f : Nat → Int32) : (cellsC E g ++ wx).set (9) (aE E 9 0, .inl (E.2.1 0, 7, .inl f)) = cellsC E (sA g 8 0 f) ++ wx := rfl
theorem ce_Trial {E : WEt} {g : STt} {wx : va_W} : (cellsC E g ++ wx)[10]? = some (aE E 10 0, .inr (8, [.ref (aE E 7 (0)), .ref (aE E 16 (0)), .ref (aE E 11 (0)), .ref (aE E 19 (9)), .ref (aE E 12 (0)), .ref (aE E 13 (0)), .int (g.1 9 0), .int (g.1 10 0), .int (g.1 11 0)])) := rfl
theorem se_Trial_bestSize {E : WEt} {g : STt} {wx : va_W} (v : Int32) : (cellsC E g ++ wx).set (10) (aE E 10 0, .inr (8, [.ref (aE E 7 (0)), .ref (aE E 16 (0)), .ref (aE E 11 (0)), .ref (aE E 19 (9)), .ref (aE E 12 (0)), .ref (aE E 13 (0)), .int v, .int (g.1 10 0), .int (g.1 11 0)])) = cellsC E (sS g 9 0 v) ++ wx := rfl
theorem se_Trial_bestLearnt {E : WEt} {g : STt} {wx : va_W} (v : Int32) : (cellsC E g ++ wx).set (10) (aE E 10 0, .inr (8, [.ref (aE E 7 (0)), .ref (aE E 16 (0)), .ref (aE E 11 (0)), .ref (aE E 19 (9)), .ref (aE E 12 (0)), .ref (aE E 13 (0)), .int (g.1 9 0), .int v, .int (g.1 11 0)])) = cellsC E (sS g 10 0 v) ++ wx := rfl
theorem se_Trial_goal {E : WEt} {g : STt} {wx : va_W} (v : Int32) : (cellsC E g ++ wx).set (10) (aE E 10 0, .inr (8, [.ref (aE E 7 (0)), .ref (aE E 16 (0)), .ref (aE E 11 (0)), .ref (aE E 19 (9)), .ref (aE E 12 (0)), .ref (aE E 13 (0)), .int (g.1 9 0), .int (g.1 10 0), .int v])) = cellsC E (sS g 11 0 v) ++ wx := rfl
theorem ce_stagesArr {E : WEt} {g : STt} {wx : va_W} : (cellsC E g ++ wx)[11]? = some (aE E 11 0, .inl (E.2.1 6, 7, .inr (.inr (.inr (.inr (fun j => if j < 7 then some (aE E 19 (2 + j)) else none)))))) := rfl
theorem ce_tried {E : WEt} {g : STt} {wx : va_W} : (cellsC E g ++ wx)[12]? = some (aE E 12 0, .inl (E.2.1 0, 4, .inl (g.2.1 12 0))) := rfl
theorem se_tried {E : WEt} {g : STt} {wx : va_W} (f : Nat → Int32) : (cellsC E g ++ wx).set (12) (aE E 12 0, .inl (E.2.1 0, 4, .inl f)) = cellsC E (sA g 12 0 f) ++ wx := rfl
theorem ce_best {E : WEt} {g : STt} {wx : va_W} : (cellsC E g ++ wx)[13]? = some (aE E 13 0, .inl (E.2.1 0, 4, .inl (g.2.1 13 0))) := rfl
theorem se_best {E : WEt} {g : STt} {wx : va_W} (f : Nat → Int32) : (cellsC E g ++ wx).set (13) (aE E 13 0, .inl (E.2.1 0, 4, .inl f)) = cellsC E (sA g 13 0 f) ++ wx := rfl
theorem ce_Bodies {E : WEt} {g : STt} {wx : va_W} : (cellsC E g ++ wx)[14]? = some (aE E 14 0, .inr (0, [.ref (aE E 1 (0)), .ref (aE E 17 (7)), .int (g.1 14 0), .int (g.1 15 0), .int (g.1 16 0), .int (g.1 17 0)])) := rfl
theorem se_Bodies_ran {E : WEt} {g : STt} {wx : va_W} (v : Int32) : (cellsC E g ++ wx).set (14) (aE E 14 0, .inr (0, [.ref (aE E 1 (0)), .ref (aE E 17 (7)), .int v, .int (g.1 15 0), .int (g.1 16 0), .int (g.1 17 0)])) = cellsC E (sS g 14 0 v) ++ wx := rfl
theorem se_Bodies_kind {E : WEt} {g : STt} {wx : va_W} (v : Int32) : (cellsC E g ++ wx).set (14) (aE E 14 0, .inr (0, [.ref (aE E 1 (0)), .ref (aE E 17 (7)), .int (g.1 14 0), .int v, .int (g.1 16 0), .int (g.1 17 0)])) = cellsC E (sS g 15 0 v) ++ wx := rfl
theorem se_Bodies_v {E : WEt} {g : STt} {wx : va_W} (v : Int32) : (cellsC E g ++ wx).set (14) (aE E 14 0, .inr (0, [.ref (aE E 1 (0)), .ref (aE E 17 (7)), .int (g.1 14 0), .int (g.1 15 0), .int v, .int (g.1 17 0)])) = cellsC E (sS g 16 0 v) ++ wx := rfl
theorem se_Bodies_number {E : WEt} {g : STt} {wx : va_W} (v : Int32) : (cellsC E g ++ wx).set (14) (aE E 14 0, .inr (0, [.ref (aE E 1 (0)), .ref (aE E 17 (7)), .int (g.1 14 0), .int (g.1 15 0), .int (g.1 16 0), .int v])) = cellsC E (sS g 17 0 v) ++ wx := rfl
theorem ce_tapesArr {E : WEt} {g : STt} {wx : va_W} : (cellsC E g ++ wx)[15]? = some (aE E 15 0, .inl (E.2.1 5, 6, .inr (.inr (.inr (.inr (fun j => if j < 6 then some (aE E 26 (j)) else none)))))) := rfl
theorem ce_Moment {E : WEt} {g : STt} {wx : va_W} {i : Nat} (hi : i < 2) : (cellsC E g ++ wx)[16 + 1 * i]? = some (aE E 16 i, .inr (3, [.ref (aE E 19 (i)), .ref (aE E 17 (1 + 3 * i)), .ref (aE E 17 (2 + 3 * i)), .ref (aE E 17 (3 + 3 * i)), .int (g.1 18 i), .int (g.1 19 i)])) := by
  rcases (show i = 0 ∨ i = 1 by omega) with rfl | rfl <;> rfl
theorem se_Moment_odds {E : WEt} {g : STt} {wx : va_W} {i : Nat} (hi : i < 2) (v : Int32) : (cellsC E g ++ wx).set (16 + 1 * i) (aE E 16 i, .inr (3, [.ref (aE E 19 (i)), .ref (aE E 17 (1 + 3 * i)), .ref (aE E 17 (2 + 3 * i)), .ref (aE E 17 (3 + 3 * i)), .int v, .int (g.1 19 i)])) = cellsC E (sS g 18 i v) ++ wx := by
  rcases (show i = 0 ∨ i = 1 by omega) with rfl | rfl <;> rfl
theorem se_Moment_held {E : WEt} {g : STt} {wx : va_W} {i : Nat} (hi : i < 2) (v : Int32) : (cellsC E g ++ wx).set (16 + 1 * i) (aE E 16 i, .inr (3, [.ref (aE E 19 (i)), .ref (aE E 17 (1 + 3 * i)), .ref (aE E 17 (2 + 3 * i)), .ref (aE E 17 (3 + 3 * i)), .int (g.1 18 i), .int v])) = cellsC E (sS g 19 i v) ++ wx := by
  rcases (show i = 0 ∨ i = 1 by omega) with rfl | rfl <;> rfl
theorem ce_Strip {E : WEt} {g : STt} {wx : va_W} {i : Nat} (hi : i < 8) : (cellsC E g ++ wx)[18 + 2 * i]? = some (aE E 17 i, .inr (5, [.ref (aE E 18 (i)), .int (g.1 20 i)])) := by
  rcases (show i = 0 ∨ i = 1 ∨ i = 2 ∨ i = 3 ∨ i = 4 ∨ i = 5 ∨ i = 6 ∨ i = 7 by omega) with rfl | rfl | rfl | rfl | rfl | rfl | rfl | rfl <;> rfl
theorem se_Strip_size {E : WEt} {g : STt} {wx : va_W} {i : Nat} (hi : i < 8) (v : Int32) : (cellsC E g ++ wx).set (18 + 2 * i) (aE E 17 i, .inr (5, [.ref (aE E 18 (i)), .int v])) = cellsC E (sS g 20 i v) ++ wx := by
  rcases (show i = 0 ∨ i = 1 ∨ i = 2 ∨ i = 3 ∨ i = 4 ∨ i = 5 ∨ i = 6 ∨ i = 7 by omega) with rfl | rfl | rfl | rfl | rfl | rfl | rfl | rfl <;> rfl
theorem ce_stripItems {E : WEt} {g : STt} {wx : va_W} {i : Nat} (hi : i < 8) : (cellsC E g ++ wx)[19 + 2 * i]? = some (aE E 18 i, .inl (E.2.1 0, lnS i, .inl (g.2.1 21 i))) := by
  rcases (show i = 0 ∨ i = 1 ∨ i = 2 ∨ i = 3 ∨ i = 4 ∨ i = 5 ∨ i = 6 ∨ i = 7 by omega) with rfl | rfl | rfl | rfl | rfl | rfl | rfl | rfl <;> rfl
theorem se_stripItems {E : WEt} {g : STt} {wx : va_W} {i : Nat} (hi : i < 8) (f : Nat → Int32) : (cellsC E g ++ wx).set (19 + 2 * i) (aE E 18 i, .inl (E.2.1 0, lnS i, .inl f)) = cellsC E (sA g 21 i f) ++ wx := by
  rcases (show i = 0 ∨ i = 1 ∨ i = 2 ∨ i = 3 ∨ i = 4 ∨ i = 5 ∨ i = 6 ∨ i = 7 by omega) with rfl | rfl | rfl | rfl | rfl | rfl | rfl | rfl <;> rfl
theorem ce_Donkey {E : WEt} {g : STt} {wx : va_W} {i : Nat} (hi : i < 10) : (cellsC E g ++ wx)[34 + 2 * i]? = some (aE E 19 i, .inr (1, [.ref (aE E 20 (i))])) := by
  rcases (show i = 0 ∨ i = 1 ∨ i = 2 ∨ i = 3 ∨ i = 4 ∨ i = 5 ∨ i = 6 ∨ i = 7 ∨ i = 8 ∨ i = 9 by omega) with rfl | rfl | rfl | rfl | rfl | rfl | rfl | rfl | rfl | rfl <;> rfl
theorem ce_donkNums {E : WEt} {g : STt} {wx : va_W} {i : Nat} (hi : i < 10) : (cellsC E g ++ wx)[35 + 2 * i]? = some (aE E 20 i, .inl (E.2.1 0, 15, .inl (g.2.1 22 i))) := by
  rcases (show i = 0 ∨ i = 1 ∨ i = 2 ∨ i = 3 ∨ i = 4 ∨ i = 5 ∨ i = 6 ∨ i = 7 ∨ i = 8 ∨ i = 9 by omega) with rfl | rfl | rfl | rfl | rfl | rfl | rfl | rfl | rfl | rfl <;> rfl
theorem se_donkNums {E : WEt} {g : STt} {wx : va_W} {i : Nat} (hi : i < 10) (f : Nat → Int32) : (cellsC E g ++ wx).set (35 + 2 * i) (aE E 20 i, .inl (E.2.1 0, 15, .inl f)) = cellsC E (sA g 22 i f) ++ wx := by
  rcases (show i = 0 ∨ i = 1 ∨ i = 2 ∨ i = 3 ∨ i = 4 ∨ i = 5 ∨ i = 6 ∨ i = 7 ∨ i = 8 ∨ i = 9 by omega) with rfl | rfl | rfl | rfl | rfl | rfl | rfl | rfl | rfl | rfl <;> rfl
theorem ce_Law {E : WEt} {g : STt} {wx : va_W} {i : Nat} (hi : i < 7) : (cellsC E g ++ wx)[54 + 5 * i]? = some (aE E 21 i, .inr (2, [.ref (aE E 22 (i)), .ref (aE E 23 (i)), .ref (aE E 24 (i)), .int (g.1 23 i), .ref (aE E 25 (i)), .int (g.1 24 i)])) := by
  rcases (show i = 0 ∨ i = 1 ∨ i = 2 ∨ i = 3 ∨ i = 4 ∨ i = 5 ∨ i = 6 by omega) with rfl | rfl | rfl | rfl | rfl | rfl | rfl <;> rfl
theorem se_Law_clauses {E : WEt} {g : STt} {wx : va_W} {i : Nat} (hi : i < 7) (v : Int32) : (cellsC E g ++ wx).set (54 + 5 * i) (aE E 21 i, .inr (2, [.ref (aE E 22 (i)), .ref (aE E 23 (i)), .ref (aE E 24 (i)), .int v, .ref (aE E 25 (i)), .int (g.1 24 i)])) = cellsC E (sS g 23 i v) ++ wx := by
  rcases (show i = 0 ∨ i = 1 ∨ i = 2 ∨ i = 3 ∨ i = 4 ∨ i = 5 ∨ i = 6 by omega) with rfl | rfl | rfl | rfl | rfl | rfl | rfl <;> rfl
theorem se_Law_codeCount {E : WEt} {g : STt} {wx : va_W} {i : Nat} (hi : i < 7) (v : Int32) : (cellsC E g ++ wx).set (54 + 5 * i) (aE E 21 i, .inr (2, [.ref (aE E 22 (i)), .ref (aE E 23 (i)), .ref (aE E 24 (i)), .int (g.1 23 i), .ref (aE E 25 (i)), .int v])) = cellsC E (sS g 24 i v) ++ wx := by
  rcases (show i = 0 ∨ i = 1 ∨ i = 2 ∨ i = 3 ∨ i = 4 ∨ i = 5 ∨ i = 6 by omega) with rfl | rfl | rfl | rfl | rfl | rfl | rfl <;> rfl
theorem ce_lawWords {E : WEt} {g : STt} {wx : va_W} {i : Nat} (hi : i < 7) : (cellsC E g ++ wx)[55 + 5 * i]? = some (aE E 22 i, .inl (E.2.1 0, 10, .inl (g.2.1 25 i))) := by
  rcases (show i = 0 ∨ i = 1 ∨ i = 2 ∨ i = 3 ∨ i = 4 ∨ i = 5 ∨ i = 6 by omega) with rfl | rfl | rfl | rfl | rfl | rfl | rfl <;> rfl
theorem se_lawWords {E : WEt} {g : STt} {wx : va_W} {i : Nat} (hi : i < 7) (f : Nat → Int32) : (cellsC E g ++ wx).set (55 + 5 * i) (aE E 22 i, .inl (E.2.1 0, 10, .inl f)) = cellsC E (sA g 25 i f) ++ wx := by
  rcases (show i = 0 ∨ i = 1 ∨ i = 2 ∨ i = 3 ∨ i = 4 ∨ i = 5 ∨ i = 6 by omega) with rfl | rfl | rfl | rfl | rfl | rfl | rfl <;> rfl
theorem ce_lawAmounts {E : WEt} {g : STt} {wx : va_W} {i : Nat} (hi : i < 7) : (cellsC E g ++ wx)[56 + 5 * i]? = some (aE E 23 i, .inl (E.2.1 0, 10, .inl (g.2.1 26 i))) := by
  rcases (show i = 0 ∨ i = 1 ∨ i = 2 ∨ i = 3 ∨ i = 4 ∨ i = 5 ∨ i = 6 by omega) with rfl | rfl | rfl | rfl | rfl | rfl | rfl <;> rfl
theorem se_lawAmounts {E : WEt} {g : STt} {wx : va_W} {i : Nat} (hi : i < 7) (f : Nat → Int32) : (cellsC E g ++ wx).set (56 + 5 * i) (aE E 23 i, .inl (E.2.1 0, 10, .inl f)) = cellsC E (sA g 26 i f) ++ wx := by
  rcases (show i = 0 ∨ i = 1 ∨ i = 2 ∨ i = 3 ∨ i = 4 ∨ i = 5 ∨ i = 6 by omega) with rfl | rfl | rfl | rfl | rfl | rfl | rfl <;> rfl
theorem ce_lawStarts {E : WEt} {g : STt} {wx : va_W} {i : Nat} (hi : i < 7) : (cellsC E g ++ wx)[57 + 5 * i]? = some (aE E 24 i, .inl (E.2.1 0, 10, .inl (g.2.1 27 i))) := by
  rcases (show i = 0 ∨ i = 1 ∨ i = 2 ∨ i = 3 ∨ i = 4 ∨ i = 5 ∨ i = 6 by omega) with rfl | rfl | rfl | rfl | rfl | rfl | rfl <;> rfl
theorem se_lawStarts {E : WEt} {g : STt} {wx : va_W} {i : Nat} (hi : i < 7) (f : Nat → Int32) : (cellsC E g ++ wx).set (57 + 5 * i) (aE E 24 i, .inl (E.2.1 0, 10, .inl f)) = cellsC E (sA g 27 i f) ++ wx := by
  rcases (show i = 0 ∨ i = 1 ∨ i = 2 ∨ i = 3 ∨ i = 4 ∨ i = 5 ∨ i = 6 by omega) with rfl | rfl | rfl | rfl | rfl | rfl | rfl <;> rfl
theorem ce_lawCodes {E : WEt} {g : STt} {wx : va_W} {i : Nat} (hi : i < 7) : (cellsC E g ++ wx)[58 + 5 * i]? = some (aE E 25 i, .inl (E.2.1 0, 100, .inl (g.2.1 28 i))) := by
  rcases (show i = 0 ∨ i = 1 ∨ i = 2 ∨ i = 3 ∨ i = 4 ∨ i = 5 ∨ i = 6 by omega) with rfl | rfl | rfl | rfl | rfl | rfl | rfl <;> rfl
theorem se_lawCodes {E : WEt} {g : STt} {wx : va_W} {i : Nat} (hi : i < 7) (f : Nat → Int32) : (cellsC E g ++ wx).set (58 + 5 * i) (aE E 25 i, .inl (E.2.1 0, 100, .inl f)) = cellsC E (sA g 28 i f) ++ wx := by
  rcases (show i = 0 ∨ i = 1 ∨ i = 2 ∨ i = 3 ∨ i = 4 ∨ i = 5 ∨ i = 6 by omega) with rfl | rfl | rfl | rfl | rfl | rfl | rfl <;> rfl
theorem ce_Tape {E : WEt} {g : STt} {wx : va_W} {i : Nat} (hi : i < 6) : (cellsC E g ++ wx)[89 + 2 * i]? = some (aE E 26 i, .inr (6, [.ref (aE E 27 (i)), .int (g.1 29 i), .int (g.1 30 i)])) := by
  rcases (show i = 0 ∨ i = 1 ∨ i = 2 ∨ i = 3 ∨ i = 4 ∨ i = 5 by omega) with rfl | rfl | rfl | rfl | rfl | rfl <;> rfl
theorem se_Tape_sort {E : WEt} {g : STt} {wx : va_W} {i : Nat} (hi : i < 6) (v : Int32) : (cellsC E g ++ wx).set (89 + 2 * i) (aE E 26 i, .inr (6, [.ref (aE E 27 (i)), .int v, .int (g.1 30 i)])) = cellsC E (sS g 29 i v) ++ wx := by
  rcases (show i = 0 ∨ i = 1 ∨ i = 2 ∨ i = 3 ∨ i = 4 ∨ i = 5 by omega) with rfl | rfl | rfl | rfl | rfl | rfl <;> rfl
theorem se_Tape_size {E : WEt} {g : STt} {wx : va_W} {i : Nat} (hi : i < 6) (v : Int32) : (cellsC E g ++ wx).set (89 + 2 * i) (aE E 26 i, .inr (6, [.ref (aE E 27 (i)), .int (g.1 29 i), .int v])) = cellsC E (sS g 30 i v) ++ wx := by
  rcases (show i = 0 ∨ i = 1 ∨ i = 2 ∨ i = 3 ∨ i = 4 ∨ i = 5 by omega) with rfl | rfl | rfl | rfl | rfl | rfl <;> rfl
theorem ce_tapeItems {E : WEt} {g : STt} {wx : va_W} {i : Nat} (hi : i < 6) : (cellsC E g ++ wx)[90 + 2 * i]? = some (aE E 27 i, .inl (E.2.1 1, 60, .inr (.inl (g.2.2.1 31 i)))) := by
  rcases (show i = 0 ∨ i = 1 ∨ i = 2 ∨ i = 3 ∨ i = 4 ∨ i = 5 by omega) with rfl | rfl | rfl | rfl | rfl | rfl <;> rfl
theorem se_tapeItems {E : WEt} {g : STt} {wx : va_W} {i : Nat} (hi : i < 6) (f : Nat → Int64) : (cellsC E g ++ wx).set (90 + 2 * i) (aE E 27 i, .inl (E.2.1 1, 60, .inr (.inl f))) = cellsC E (sL g 31 i f) ++ wx := by
  rcases (show i = 0 ∨ i = 1 ∨ i = 2 ∨ i = 3 ∨ i = 4 ∨ i = 5 by omega) with rfl | rfl | rfl | rfl | rfl | rfl <;> rfl
theorem ce_Mo {E : WEt} {g : STt} {wx : va_W} : (cellsM E g ++ wx)[0]? = some (aE E 28 0, .inr (11, [.int (g.1 32 0), .int (g.1 33 0), .ref (aE E 29 (0)), .ref (aE E 30 (0)), .ref (aE E 31 (0)), .ref (aE E 32 (0)), .ref (aE E 33 (0)), .int (g.1 34 0), .int (g.1 35 0), .int (g.1 36 0), .ref (aE E 34 (0)), .ref (aE E 35 (0)), .ref (aE E 36 (0)), .ref (aE E 37 (0)), .ref (aE E 38 (0)), .ref (aE E 39 (0)), .ref (aE E 40 (0)), .ref (aE E 41 (0)), .ref (aE E 42 (0)), .int (g.1 37 0), .int (g.1 38 0), .int (g.1 39 0), .ref (aE E 43 (0)), .ref (aE E 44 (0)), .int (g.1 40 0), .int (g.1 41 0), .int (g.1 42 0), .ref (aE E 45 (0)), .ref (aE E 46 (0)), .int (g.1 43 0), .int (g.1 44 0), .int (g.1 45 0), .ref (aE E 47 (0)), .int (g.1 46 0), .ref (aE E 48 (0)), .ref (aE E 49 (0)), .ref (aE E 50 (0)), .ref (aE E 51 (0)), .ref (aE E 52 (0)), .int (g.1 47 0), .int (g.1 48 0), .int (g.1 49 0), .int (g.1 50 0), .int (g.1 51 0), .int (g.1 52 0), .ref (aE E 53 (0)), .ref (aE E 54 (0)), .ref (aE E 55 (0)), .ref (aE E 56 (0)), .int (g.1 53 0), .ref (aE E 57 (0))])) := rfl
theorem se_Mo_code {E : WEt} {g : STt} {wx : va_W} (v : Int32) : (cellsM E g ++ wx).set (0) (aE E 28 0, .inr (11, [.int v, .int (g.1 33 0), .ref (aE E 29 (0)), .ref (aE E 30 (0)), .ref (aE E 31 (0)), .ref (aE E 32 (0)), .ref (aE E 33 (0)), .int (g.1 34 0), .int (g.1 35 0), .int (g.1 36 0), .ref (aE E 34 (0)), .ref (aE E 35 (0)), .ref (aE E 36 (0)), .ref (aE E 37 (0)), .ref (aE E 38 (0)), .ref (aE E 39 (0)), .ref (aE E 40 (0)), .ref (aE E 41 (0)), .ref (aE E 42 (0)), .int (g.1 37 0), .int (g.1 38 0), .int (g.1 39 0), .ref (aE E 43 (0)), .ref (aE E 44 (0)), .int (g.1 40 0), .int (g.1 41 0), .int (g.1 42 0), .ref (aE E 45 (0)), .ref (aE E 46 (0)), .int (g.1 43 0), .int (g.1 44 0), .int (g.1 45 0), .ref (aE E 47 (0)), .int (g.1 46 0), .ref (aE E 48 (0)), .ref (aE E 49 (0)), .ref (aE E 50 (0)), .ref (aE E 51 (0)), .ref (aE E 52 (0)), .int (g.1 47 0), .int (g.1 48 0), .int (g.1 49 0), .int (g.1 50 0), .int (g.1 51 0), .int (g.1 52 0), .ref (aE E 53 (0)), .ref (aE E 54 (0)), .ref (aE E 55 (0)), .ref (aE E 56 (0)), .int (g.1 53 0), .ref (aE E 57 (0))])) = cellsM E (sS g 32 0 v) ++ wx := rfl
theorem se_Mo_places {E : WEt} {g : STt} {wx : va_W} (v : Int32) : (cellsM E g ++ wx).set (0) (aE E 28 0, .inr (11, [.int (g.1 32 0), .int v, .ref (aE E 29 (0)), .ref (aE E 30 (0)), .ref (aE E 31 (0)), .ref (aE E 32 (0)), .ref (aE E 33 (0)), .int (g.1 34 0), .int (g.1 35 0), .int (g.1 36 0), .ref (aE E 34 (0)), .ref (aE E 35 (0)), .ref (aE E 36 (0)), .ref (aE E 37 (0)), .ref (aE E 38 (0)), .ref (aE E 39 (0)), .ref (aE E 40 (0)), .ref (aE E 41 (0)), .ref (aE E 42 (0)), .int (g.1 37 0), .int (g.1 38 0), .int (g.1 39 0), .ref (aE E 43 (0)), .ref (aE E 44 (0)), .int (g.1 40 0), .int (g.1 41 0), .int (g.1 42 0), .ref (aE E 45 (0)), .ref (aE E 46 (0)), .int (g.1 43 0), .int (g.1 44 0), .int (g.1 45 0), .ref (aE E 47 (0)), .int (g.1 46 0), .ref (aE E 48 (0)), .ref (aE E 49 (0)), .ref (aE E 50 (0)), .ref (aE E 51 (0)), .ref (aE E 52 (0)), .int (g.1 47 0), .int (g.1 48 0), .int (g.1 49 0), .int (g.1 50 0), .int (g.1 51 0), .int (g.1 52 0), .ref (aE E 53 (0)), .ref (aE E 54 (0)), .ref (aE E 55 (0)), .ref (aE E 56 (0)), .int (g.1 53 0), .ref (aE E 57 (0))])) = cellsM E (sS g 33 0 v) ++ wx := rfl
theorem se_Mo_taped {E : WEt} {g : STt} {wx : va_W} (v : Int32) : (cellsM E g ++ wx).set (0) (aE E 28 0, .inr (11, [.int (g.1 32 0), .int (g.1 33 0), .ref (aE E 29 (0)), .ref (aE E 30 (0)), .ref (aE E 31 (0)), .ref (aE E 32 (0)), .ref (aE E 33 (0)), .int v, .int (g.1 35 0), .int (g.1 36 0), .ref (aE E 34 (0)), .ref (aE E 35 (0)), .ref (aE E 36 (0)), .ref (aE E 37 (0)), .ref (aE E 38 (0)), .ref (aE E 39 (0)), .ref (aE E 40 (0)), .ref (aE E 41 (0)), .ref (aE E 42 (0)), .int (g.1 37 0), .int (g.1 38 0), .int (g.1 39 0), .ref (aE E 43 (0)), .ref (aE E 44 (0)), .int (g.1 40 0), .int (g.1 41 0), .int (g.1 42 0), .ref (aE E 45 (0)), .ref (aE E 46 (0)), .int (g.1 43 0), .int (g.1 44 0), .int (g.1 45 0), .ref (aE E 47 (0)), .int (g.1 46 0), .ref (aE E 48 (0)), .ref (aE E 49 (0)), .ref (aE E 50 (0)), .ref (aE E 51 (0)), .ref (aE E 52 (0)), .int (g.1 47 0), .int (g.1 48 0), .int (g.1 49 0), .int (g.1 50 0), .int (g.1 51 0), .int (g.1 52 0), .ref (aE E 53 (0)), .ref (aE E 54 (0)), .ref (aE E 55 (0)), .ref (aE E 56 (0)), .int (g.1 53 0), .ref (aE E 57 (0))])) = cellsM E (sS g 34 0 v) ++ wx := rfl
theorem se_Mo_laws {E : WEt} {g : STt} {wx : va_W} (v : Int32) : (cellsM E g ++ wx).set (0) (aE E 28 0, .inr (11, [.int (g.1 32 0), .int (g.1 33 0), .ref (aE E 29 (0)), .ref (aE E 30 (0)), .ref (aE E 31 (0)), .ref (aE E 32 (0)), .ref (aE E 33 (0)), .int (g.1 34 0), .int v, .int (g.1 36 0), .ref (aE E 34 (0)), .ref (aE E 35 (0)), .ref (aE E 36 (0)), .ref (aE E 37 (0)), .ref (aE E 38 (0)), .ref (aE E 39 (0)), .ref (aE E 40 (0)), .ref (aE E 41 (0)), .ref (aE E 42 (0)), .int (g.1 37 0), .int (g.1 38 0), .int (g.1 39 0), .ref (aE E 43 (0)), .ref (aE E 44 (0)), .int (g.1 40 0), .int (g.1 41 0), .int (g.1 42 0), .ref (aE E 45 (0)), .ref (aE E 46 (0)), .int (g.1 43 0), .int (g.1 44 0), .int (g.1 45 0), .ref (aE E 47 (0)), .int (g.1 46 0), .ref (aE E 48 (0)), .ref (aE E 49 (0)), .ref (aE E 50 (0)), .ref (aE E 51 (0)), .ref (aE E 52 (0)), .int (g.1 47 0), .int (g.1 48 0), .int (g.1 49 0), .int (g.1 50 0), .int (g.1 51 0), .int (g.1 52 0), .ref (aE E 53 (0)), .ref (aE E 54 (0)), .ref (aE E 55 (0)), .ref (aE E 56 (0)), .int (g.1 53 0), .ref (aE E 57 (0))])) = cellsM E (sS g 35 0 v) ++ wx := rfl
theorem se_Mo_holds {E : WEt} {g : STt} {wx : va_W} (v : Int32) : (cellsM E g ++ wx).set (0) (aE E 28 0, .inr (11, [.int (g.1 32 0), .int (g.1 33 0), .ref (aE E 29 (0)), .ref (aE E 30 (0)), .ref (aE E 31 (0)), .ref (aE E 32 (0)), .ref (aE E 33 (0)), .int (g.1 34 0), .int (g.1 35 0), .int v, .ref (aE E 34 (0)), .ref (aE E 35 (0)), .ref (aE E 36 (0)), .ref (aE E 37 (0)), .ref (aE E 38 (0)), .ref (aE E 39 (0)), .ref (aE E 40 (0)), .ref (aE E 41 (0)), .ref (aE E 42 (0)), .int (g.1 37 0), .int (g.1 38 0), .int (g.1 39 0), .ref (aE E 43 (0)), .ref (aE E 44 (0)), .int (g.1 40 0), .int (g.1 41 0), .int (g.1 42 0), .ref (aE E 45 (0)), .ref (aE E 46 (0)), .int (g.1 43 0), .int (g.1 44 0), .int (g.1 45 0), .ref (aE E 47 (0)), .int (g.1 46 0), .ref (aE E 48 (0)), .ref (aE E 49 (0)), .ref (aE E 50 (0)), .ref (aE E 51 (0)), .ref (aE E 52 (0)), .int (g.1 47 0), .int (g.1 48 0), .int (g.1 49 0), .int (g.1 50 0), .int (g.1 51 0), .int (g.1 52 0), .ref (aE E 53 (0)), .ref (aE E 54 (0)), .ref (aE E 55 (0)), .ref (aE E 56 (0)), .int (g.1 53 0), .ref (aE E 57 (0))])) = cellsM E (sS g 36 0 v) ++ wx := rfl
theorem se_Mo_here {E : WEt} {g : STt} {wx : va_W} (v : Int32) : (cellsM E g ++ wx).set (0) (aE E 28 0, .inr (11, [.int (g.1 32 0), .int (g.1 33 0), .ref (aE E 29 (0)), .ref (aE E 30 (0)), .ref (aE E 31 (0)), .ref (aE E 32 (0)), .ref (aE E 33 (0)), .int (g.1 34 0), .int (g.1 35 0), .int (g.1 36 0), .ref (aE E 34 (0)), .ref (aE E 35 (0)), .ref (aE E 36 (0)), .ref (aE E 37 (0)), .ref (aE E 38 (0)), .ref (aE E 39 (0)), .ref (aE E 40 (0)), .ref (aE E 41 (0)), .ref (aE E 42 (0)), .int v, .int (g.1 38 0), .int (g.1 39 0), .ref (aE E 43 (0)), .ref (aE E 44 (0)), .int (g.1 40 0), .int (g.1 41 0), .int (g.1 42 0), .ref (aE E 45 (0)), .ref (aE E 46 (0)), .int (g.1 43 0), .int (g.1 44 0), .int (g.1 45 0), .ref (aE E 47 (0)), .int (g.1 46 0), .ref (aE E 48 (0)), .ref (aE E 49 (0)), .ref (aE E 50 (0)), .ref (aE E 51 (0)), .ref (aE E 52 (0)), .int (g.1 47 0), .int (g.1 48 0), .int (g.1 49 0), .int (g.1 50 0), .int (g.1 51 0), .int (g.1 52 0), .ref (aE E 53 (0)), .ref (aE E 54 (0)), .ref (aE E 55 (0)), .ref (aE E 56 (0)), .int (g.1 53 0), .ref (aE E 57 (0))])) = cellsM E (sS g 37 0 v) ++ wx := rfl
theorem se_Mo_fault {E : WEt} {g : STt} {wx : va_W} (v : Int32) : (cellsM E g ++ wx).set (0) (aE E 28 0, .inr (11, [.int (g.1 32 0), .int (g.1 33 0), .ref (aE E 29 (0)), .ref (aE E 30 (0)), .ref (aE E 31 (0)), .ref (aE E 32 (0)), .ref (aE E 33 (0)), .int (g.1 34 0), .int (g.1 35 0), .int (g.1 36 0), .ref (aE E 34 (0)), .ref (aE E 35 (0)), .ref (aE E 36 (0)), .ref (aE E 37 (0)), .ref (aE E 38 (0)), .ref (aE E 39 (0)), .ref (aE E 40 (0)), .ref (aE E 41 (0)), .ref (aE E 42 (0)), .int (g.1 37 0), .int v, .int (g.1 39 0), .ref (aE E 43 (0)), .ref (aE E 44 (0)), .int (g.1 40 0), .int (g.1 41 0), .int (g.1 42 0), .ref (aE E 45 (0)), .ref (aE E 46 (0)), .int (g.1 43 0), .int (g.1 44 0), .int (g.1 45 0), .ref (aE E 47 (0)), .int (g.1 46 0), .ref (aE E 48 (0)), .ref (aE E 49 (0)), .ref (aE E 50 (0)), .ref (aE E 51 (0)), .ref (aE E 52 (0)), .int (g.1 47 0), .int (g.1 48 0), .int (g.1 49 0), .int (g.1 50 0), .int (g.1 51 0), .int (g.1 52 0), .ref (aE E 53 (0)), .ref (aE E 54 (0)), .ref (aE E 55 (0)), .ref (aE E 56 (0)), .int (g.1 53 0), .ref (aE E 57 (0))])) = cellsM E (sS g 38 0 v) ++ wx := rfl
theorem se_Mo_laid {E : WEt} {g : STt} {wx : va_W} (v : Int32) : (cellsM E g ++ wx).set (0) (aE E 28 0, .inr (11, [.int (g.1 32 0), .int (g.1 33 0), .ref (aE E 29 (0)), .ref (aE E 30 (0)), .ref (aE E 31 (0)), .ref (aE E 32 (0)), .ref (aE E 33 (0)), .int (g.1 34 0), .int (g.1 35 0), .int (g.1 36 0), .ref (aE E 34 (0)), .ref (aE E 35 (0)), .ref (aE E 36 (0)), .ref (aE E 37 (0)), .ref (aE E 38 (0)), .ref (aE E 39 (0)), .ref (aE E 40 (0)), .ref (aE E 41 (0)), .ref (aE E 42 (0)), .int (g.1 37 0), .int (g.1 38 0), .int v, .ref (aE E 43 (0)), .ref (aE E 44 (0)), .int (g.1 40 0), .int (g.1 41 0), .int (g.1 42 0), .ref (aE E 45 (0)), .ref (aE E 46 (0)), .int (g.1 43 0), .int (g.1 44 0), .int (g.1 45 0), .ref (aE E 47 (0)), .int (g.1 46 0), .ref (aE E 48 (0)), .ref (aE E 49 (0)), .ref (aE E 50 (0)), .ref (aE E 51 (0)), .ref (aE E 52 (0)), .int (g.1 47 0), .int (g.1 48 0), .int (g.1 49 0), .int (g.1 50 0), .int (g.1 51 0), .int (g.1 52 0), .ref (aE E 53 (0)), .ref (aE E 54 (0)), .ref (aE E 55 (0)), .ref (aE E 56 (0)), .int (g.1 53 0), .ref (aE E 57 (0))])) = cellsM E (sS g 39 0 v) ++ wx := rfl
theorem se_Mo_moreLead {E : WEt} {g : STt} {wx : va_W} (v : Int32) : (cellsM E g ++ wx).set (0) (aE E 28 0, .inr (11, [.int (g.1 32 0), .int (g.1 33 0), .ref (aE E 29 (0)), .ref (aE E 30 (0)), .ref (aE E 31 (0)), .ref (aE E 32 (0)), .ref (aE E 33 (0)), .int (g.1 34 0), .int (g.1 35 0), .int (g.1 36 0), .ref (aE E 34 (0)), .ref (aE E 35 (0)), .ref (aE E 36 (0)), .ref (aE E 37 (0)), .ref (aE E 38 (0)), .ref (aE E 39 (0)), .ref (aE E 40 (0)), .ref (aE E 41 (0)), .ref (aE E 42 (0)), .int (g.1 37 0), .int (g.1 38 0), .int (g.1 39 0), .ref (aE E 43 (0)), .ref (aE E 44 (0)), .int v, .int (g.1 41 0), .int (g.1 42 0), .ref (aE E 45 (0)), .ref (aE E 46 (0)), .int (g.1 43 0), .int (g.1 44 0), .int (g.1 45 0), .ref (aE E 47 (0)), .int (g.1 46 0), .ref (aE E 48 (0)), .ref (aE E 49 (0)), .ref (aE E 50 (0)), .ref (aE E 51 (0)), .ref (aE E 52 (0)), .int (g.1 47 0), .int (g.1 48 0), .int (g.1 49 0), .int (g.1 50 0), .int (g.1 51 0), .int (g.1 52 0), .ref (aE E 53 (0)), .ref (aE E 54 (0)), .ref (aE E 55 (0)), .ref (aE E 56 (0)), .int (g.1 53 0), .ref (aE E 57 (0))])) = cellsM E (sS g 40 0 v) ++ wx := rfl
theorem se_Mo_wandered {E : WEt} {g : STt} {wx : va_W} (v : Int32) : (cellsM E g ++ wx).set (0) (aE E 28 0, .inr (11, [.int (g.1 32 0), .int (g.1 33 0), .ref (aE E 29 (0)), .ref (aE E 30 (0)), .ref (aE E 31 (0)), .ref (aE E 32 (0)), .ref (aE E 33 (0)), .int (g.1 34 0), .int (g.1 35 0), .int (g.1 36 0), .ref (aE E 34 (0)), .ref (aE E 35 (0)), .ref (aE E 36 (0)), .ref (aE E 37 (0)), .ref (aE E 38 (0)), .ref (aE E 39 (0)), .ref (aE E 40 (0)), .ref (aE E 41 (0)), .ref (aE E 42 (0)), .int (g.1 37 0), .int (g.1 38 0), .int (g.1 39 0), .ref (aE E 43 (0)), .ref (aE E 44 (0)), .int (g.1 40 0), .int v, .int (g.1 42 0), .ref (aE E 45 (0)), .ref (aE E 46 (0)), .int (g.1 43 0), .int (g.1 44 0), .int (g.1 45 0), .ref (aE E 47 (0)), .int (g.1 46 0), .ref (aE E 48 (0)), .ref (aE E 49 (0)), .ref (aE E 50 (0)), .ref (aE E 51 (0)), .ref (aE E 52 (0)), .int (g.1 47 0), .int (g.1 48 0), .int (g.1 49 0), .int (g.1 50 0), .int (g.1 51 0), .int (g.1 52 0), .ref (aE E 53 (0)), .ref (aE E 54 (0)), .ref (aE E 55 (0)), .ref (aE E 56 (0)), .int (g.1 53 0), .ref (aE E 57 (0))])) = cellsM E (sS g 41 0 v) ++ wx := rfl
theorem se_Mo_rowMany {E : WEt} {g : STt} {wx : va_W} (v : Int32) : (cellsM E g ++ wx).set (0) (aE E 28 0, .inr (11, [.int (g.1 32 0), .int (g.1 33 0), .ref (aE E 29 (0)), .ref (aE E 30 (0)), .ref (aE E 31 (0)), .ref (aE E 32 (0)), .ref (aE E 33 (0)), .int (g.1 34 0), .int (g.1 35 0), .int (g.1 36 0), .ref (aE E 34 (0)), .ref (aE E 35 (0)), .ref (aE E 36 (0)), .ref (aE E 37 (0)), .ref (aE E 38 (0)), .ref (aE E 39 (0)), .ref (aE E 40 (0)), .ref (aE E 41 (0)), .ref (aE E 42 (0)), .int (g.1 37 0), .int (g.1 38 0), .int (g.1 39 0), .ref (aE E 43 (0)), .ref (aE E 44 (0)), .int (g.1 40 0), .int (g.1 41 0), .int v, .ref (aE E 45 (0)), .ref (aE E 46 (0)), .int (g.1 43 0), .int (g.1 44 0), .int (g.1 45 0), .ref (aE E 47 (0)), .int (g.1 46 0), .ref (aE E 48 (0)), .ref (aE E 49 (0)), .ref (aE E 50 (0)), .ref (aE E 51 (0)), .ref (aE E 52 (0)), .int (g.1 47 0), .int (g.1 48 0), .int (g.1 49 0), .int (g.1 50 0), .int (g.1 51 0), .int (g.1 52 0), .ref (aE E 53 (0)), .ref (aE E 54 (0)), .ref (aE E 55 (0)), .ref (aE E 56 (0)), .int (g.1 53 0), .ref (aE E 57 (0))])) = cellsM E (sS g 42 0 v) ++ wx := rfl
theorem se_Mo_learntThen {E : WEt} {g : STt} {wx : va_W} (v : Int32) : (cellsM E g ++ wx).set (0) (aE E 28 0, .inr (11, [.int (g.1 32 0), .int (g.1 33 0), .ref (aE E 29 (0)), .ref (aE E 30 (0)), .ref (aE E 31 (0)), .ref (aE E 32 (0)), .ref (aE E 33 (0)), .int (g.1 34 0), .int (g.1 35 0), .int (g.1 36 0), .ref (aE E 34 (0)), .ref (aE E 35 (0)), .ref (aE E 36 (0)), .ref (aE E 37 (0)), .ref (aE E 38 (0)), .ref (aE E 39 (0)), .ref (aE E 40 (0)), .ref (aE E 41 (0)), .ref (aE E 42 (0)), .int (g.1 37 0), .int (g.1 38 0), .int (g.1 39 0), .ref (aE E 43 (0)), .ref (aE E 44 (0)), .int (g.1 40 0), .int (g.1 41 0), .int (g.1 42 0), .ref (aE E 45 (0)), .ref (aE E 46 (0)), .int v, .int (g.1 44 0), .int (g.1 45 0), .ref (aE E 47 (0)), .int (g.1 46 0), .ref (aE E 48 (0)), .ref (aE E 49 (0)), .ref (aE E 50 (0)), .ref (aE E 51 (0)), .ref (aE E 52 (0)), .int (g.1 47 0), .int (g.1 48 0), .int (g.1 49 0), .int (g.1 50 0), .int (g.1 51 0), .int (g.1 52 0), .ref (aE E 53 (0)), .ref (aE E 54 (0)), .ref (aE E 55 (0)), .ref (aE E 56 (0)), .int (g.1 53 0), .ref (aE E 57 (0))])) = cellsM E (sS g 43 0 v) ++ wx := rfl
theorem se_Mo_odds {E : WEt} {g : STt} {wx : va_W} (v : Int32) : (cellsM E g ++ wx).set (0) (aE E 28 0, .inr (11, [.int (g.1 32 0), .int (g.1 33 0), .ref (aE E 29 (0)), .ref (aE E 30 (0)), .ref (aE E 31 (0)), .ref (aE E 32 (0)), .ref (aE E 33 (0)), .int (g.1 34 0), .int (g.1 35 0), .int (g.1 36 0), .ref (aE E 34 (0)), .ref (aE E 35 (0)), .ref (aE E 36 (0)), .ref (aE E 37 (0)), .ref (aE E 38 (0)), .ref (aE E 39 (0)), .ref (aE E 40 (0)), .ref (aE E 41 (0)), .ref (aE E 42 (0)), .int (g.1 37 0), .int (g.1 38 0), .int (g.1 39 0), .ref (aE E 43 (0)), .ref (aE E 44 (0)), .int (g.1 40 0), .int (g.1 41 0), .int (g.1 42 0), .ref (aE E 45 (0)), .ref (aE E 46 (0)), .int (g.1 43 0), .int v, .int (g.1 45 0), .ref (aE E 47 (0)), .int (g.1 46 0), .ref (aE E 48 (0)), .ref (aE E 49 (0)), .ref (aE E 50 (0)), .ref (aE E 51 (0)), .ref (aE E 52 (0)), .int (g.1 47 0), .int (g.1 48 0), .int (g.1 49 0), .int (g.1 50 0), .int (g.1 51 0), .int (g.1 52 0), .ref (aE E 53 (0)), .ref (aE E 54 (0)), .ref (aE E 55 (0)), .ref (aE E 56 (0)), .int (g.1 53 0), .ref (aE E 57 (0))])) = cellsM E (sS g 44 0 v) ++ wx := rfl
theorem se_Mo_beasts {E : WEt} {g : STt} {wx : va_W} (v : Int32) : (cellsM E g ++ wx).set (0) (aE E 28 0, .inr (11, [.int (g.1 32 0), .int (g.1 33 0), .ref (aE E 29 (0)), .ref (aE E 30 (0)), .ref (aE E 31 (0)), .ref (aE E 32 (0)), .ref (aE E 33 (0)), .int (g.1 34 0), .int (g.1 35 0), .int (g.1 36 0), .ref (aE E 34 (0)), .ref (aE E 35 (0)), .ref (aE E 36 (0)), .ref (aE E 37 (0)), .ref (aE E 38 (0)), .ref (aE E 39 (0)), .ref (aE E 40 (0)), .ref (aE E 41 (0)), .ref (aE E 42 (0)), .int (g.1 37 0), .int (g.1 38 0), .int (g.1 39 0), .ref (aE E 43 (0)), .ref (aE E 44 (0)), .int (g.1 40 0), .int (g.1 41 0), .int (g.1 42 0), .ref (aE E 45 (0)), .ref (aE E 46 (0)), .int (g.1 43 0), .int (g.1 44 0), .int v, .ref (aE E 47 (0)), .int (g.1 46 0), .ref (aE E 48 (0)), .ref (aE E 49 (0)), .ref (aE E 50 (0)), .ref (aE E 51 (0)), .ref (aE E 52 (0)), .int (g.1 47 0), .int (g.1 48 0), .int (g.1 49 0), .int (g.1 50 0), .int (g.1 51 0), .int (g.1 52 0), .ref (aE E 53 (0)), .ref (aE E 54 (0)), .ref (aE E 55 (0)), .ref (aE E 56 (0)), .int (g.1 53 0), .ref (aE E 57 (0))])) = cellsM E (sS g 45 0 v) ++ wx := rfl
theorem se_Mo_filmed {E : WEt} {g : STt} {wx : va_W} (v : Int32) : (cellsM E g ++ wx).set (0) (aE E 28 0, .inr (11, [.int (g.1 32 0), .int (g.1 33 0), .ref (aE E 29 (0)), .ref (aE E 30 (0)), .ref (aE E 31 (0)), .ref (aE E 32 (0)), .ref (aE E 33 (0)), .int (g.1 34 0), .int (g.1 35 0), .int (g.1 36 0), .ref (aE E 34 (0)), .ref (aE E 35 (0)), .ref (aE E 36 (0)), .ref (aE E 37 (0)), .ref (aE E 38 (0)), .ref (aE E 39 (0)), .ref (aE E 40 (0)), .ref (aE E 41 (0)), .ref (aE E 42 (0)), .int (g.1 37 0), .int (g.1 38 0), .int (g.1 39 0), .ref (aE E 43 (0)), .ref (aE E 44 (0)), .int (g.1 40 0), .int (g.1 41 0), .int (g.1 42 0), .ref (aE E 45 (0)), .ref (aE E 46 (0)), .int (g.1 43 0), .int (g.1 44 0), .int (g.1 45 0), .ref (aE E 47 (0)), .int v, .ref (aE E 48 (0)), .ref (aE E 49 (0)), .ref (aE E 50 (0)), .ref (aE E 51 (0)), .ref (aE E 52 (0)), .int (g.1 47 0), .int (g.1 48 0), .int (g.1 49 0), .int (g.1 50 0), .int (g.1 51 0), .int (g.1 52 0), .ref (aE E 53 (0)), .ref (aE E 54 (0)), .ref (aE E 55 (0)), .ref (aE E 56 (0)), .int (g.1 53 0), .ref (aE E 57 (0))])) = cellsM E (sS g 46 0 v) ++ wx := rfl
theorem se_Mo_hasImage {E : WEt} {g : STt} {wx : va_W} (v : Int32) : (cellsM E g ++ wx).set (0) (aE E 28 0, .inr (11, [.int (g.1 32 0), .int (g.1 33 0), .ref (aE E 29 (0)), .ref (aE E 30 (0)), .ref (aE E 31 (0)), .ref (aE E 32 (0)), .ref (aE E 33 (0)), .int (g.1 34 0), .int (g.1 35 0), .int (g.1 36 0), .ref (aE E 34 (0)), .ref (aE E 35 (0)), .ref (aE E 36 (0)), .ref (aE E 37 (0)), .ref (aE E 38 (0)), .ref (aE E 39 (0)), .ref (aE E 40 (0)), .ref (aE E 41 (0)), .ref (aE E 42 (0)), .int (g.1 37 0), .int (g.1 38 0), .int (g.1 39 0), .ref (aE E 43 (0)), .ref (aE E 44 (0)), .int (g.1 40 0), .int (g.1 41 0), .int (g.1 42 0), .ref (aE E 45 (0)), .ref (aE E 46 (0)), .int (g.1 43 0), .int (g.1 44 0), .int (g.1 45 0), .ref (aE E 47 (0)), .int (g.1 46 0), .ref (aE E 48 (0)), .ref (aE E 49 (0)), .ref (aE E 50 (0)), .ref (aE E 51 (0)), .ref (aE E 52 (0)), .int v, .int (g.1 48 0), .int (g.1 49 0), .int (g.1 50 0), .int (g.1 51 0), .int (g.1 52 0), .ref (aE E 53 (0)), .ref (aE E 54 (0)), .ref (aE E 55 (0)), .ref (aE E 56 (0)), .int (g.1 53 0), .ref (aE E 57 (0))])) = cellsM E (sS g 47 0 v) ++ wx := rfl
theorem se_Mo_keptHolds {E : WEt} {g : STt} {wx : va_W} (v : Int32) : (cellsM E g ++ wx).set (0) (aE E 28 0, .inr (11, [.int (g.1 32 0), .int (g.1 33 0), .ref (aE E 29 (0)), .ref (aE E 30 (0)), .ref (aE E 31 (0)), .ref (aE E 32 (0)), .ref (aE E 33 (0)), .int (g.1 34 0), .int (g.1 35 0), .int (g.1 36 0), .ref (aE E 34 (0)), .ref (aE E 35 (0)), .ref (aE E 36 (0)), .ref (aE E 37 (0)), .ref (aE E 38 (0)), .ref (aE E 39 (0)), .ref (aE E 40 (0)), .ref (aE E 41 (0)), .ref (aE E 42 (0)), .int (g.1 37 0), .int (g.1 38 0), .int (g.1 39 0), .ref (aE E 43 (0)), .ref (aE E 44 (0)), .int (g.1 40 0), .int (g.1 41 0), .int (g.1 42 0), .ref (aE E 45 (0)), .ref (aE E 46 (0)), .int (g.1 43 0), .int (g.1 44 0), .int (g.1 45 0), .ref (aE E 47 (0)), .int (g.1 46 0), .ref (aE E 48 (0)), .ref (aE E 49 (0)), .ref (aE E 50 (0)), .ref (aE E 51 (0)), .ref (aE E 52 (0)), .int (g.1 47 0), .int v, .int (g.1 49 0), .int (g.1 50 0), .int (g.1 51 0), .int (g.1 52 0), .ref (aE E 53 (0)), .ref (aE E 54 (0)), .ref (aE E 55 (0)), .ref (aE E 56 (0)), .int (g.1 53 0), .ref (aE E 57 (0))])) = cellsM E (sS g 48 0 v) ++ wx := rfl
theorem se_Mo_keptOdds {E : WEt} {g : STt} {wx : va_W} (v : Int32) : (cellsM E g ++ wx).set (0) (aE E 28 0, .inr (11, [.int (g.1 32 0), .int (g.1 33 0), .ref (aE E 29 (0)), .ref (aE E 30 (0)), .ref (aE E 31 (0)), .ref (aE E 32 (0)), .ref (aE E 33 (0)), .int (g.1 34 0), .int (g.1 35 0), .int (g.1 36 0), .ref (aE E 34 (0)), .ref (aE E 35 (0)), .ref (aE E 36 (0)), .ref (aE E 37 (0)), .ref (aE E 38 (0)), .ref (aE E 39 (0)), .ref (aE E 40 (0)), .ref (aE E 41 (0)), .ref (aE E 42 (0)), .int (g.1 37 0), .int (g.1 38 0), .int (g.1 39 0), .ref (aE E 43 (0)), .ref (aE E 44 (0)), .int (g.1 40 0), .int (g.1 41 0), .int (g.1 42 0), .ref (aE E 45 (0)), .ref (aE E 46 (0)), .int (g.1 43 0), .int (g.1 44 0), .int (g.1 45 0), .ref (aE E 47 (0)), .int (g.1 46 0), .ref (aE E 48 (0)), .ref (aE E 49 (0)), .ref (aE E 50 (0)), .ref (aE E 51 (0)), .ref (aE E 52 (0)), .int (g.1 47 0), .int (g.1 48 0), .int v, .int (g.1 50 0), .int (g.1 51 0), .int (g.1 52 0), .ref (aE E 53 (0)), .ref (aE E 54 (0)), .ref (aE E 55 (0)), .ref (aE E 56 (0)), .int (g.1 53 0), .ref (aE E 57 (0))])) = cellsM E (sS g 49 0 v) ++ wx := rfl
theorem se_Mo_keptRows {E : WEt} {g : STt} {wx : va_W} (v : Int32) : (cellsM E g ++ wx).set (0) (aE E 28 0, .inr (11, [.int (g.1 32 0), .int (g.1 33 0), .ref (aE E 29 (0)), .ref (aE E 30 (0)), .ref (aE E 31 (0)), .ref (aE E 32 (0)), .ref (aE E 33 (0)), .int (g.1 34 0), .int (g.1 35 0), .int (g.1 36 0), .ref (aE E 34 (0)), .ref (aE E 35 (0)), .ref (aE E 36 (0)), .ref (aE E 37 (0)), .ref (aE E 38 (0)), .ref (aE E 39 (0)), .ref (aE E 40 (0)), .ref (aE E 41 (0)), .ref (aE E 42 (0)), .int (g.1 37 0), .int (g.1 38 0), .int (g.1 39 0), .ref (aE E 43 (0)), .ref (aE E 44 (0)), .int (g.1 40 0), .int (g.1 41 0), .int (g.1 42 0), .ref (aE E 45 (0)), .ref (aE E 46 (0)), .int (g.1 43 0), .int (g.1 44 0), .int (g.1 45 0), .ref (aE E 47 (0)), .int (g.1 46 0), .ref (aE E 48 (0)), .ref (aE E 49 (0)), .ref (aE E 50 (0)), .ref (aE E 51 (0)), .ref (aE E 52 (0)), .int (g.1 47 0), .int (g.1 48 0), .int (g.1 49 0), .int v, .int (g.1 51 0), .int (g.1 52 0), .ref (aE E 53 (0)), .ref (aE E 54 (0)), .ref (aE E 55 (0)), .ref (aE E 56 (0)), .int (g.1 53 0), .ref (aE E 57 (0))])) = cellsM E (sS g 50 0 v) ++ wx := rfl
theorem se_Mo_keptFilmed {E : WEt} {g : STt} {wx : va_W} (v : Int32) : (cellsM E g ++ wx).set (0) (aE E 28 0, .inr (11, [.int (g.1 32 0), .int (g.1 33 0), .ref (aE E 29 (0)), .ref (aE E 30 (0)), .ref (aE E 31 (0)), .ref (aE E 32 (0)), .ref (aE E 33 (0)), .int (g.1 34 0), .int (g.1 35 0), .int (g.1 36 0), .ref (aE E 34 (0)), .ref (aE E 35 (0)), .ref (aE E 36 (0)), .ref (aE E 37 (0)), .ref (aE E 38 (0)), .ref (aE E 39 (0)), .ref (aE E 40 (0)), .ref (aE E 41 (0)), .ref (aE E 42 (0)), .int (g.1 37 0), .int (g.1 38 0), .int (g.1 39 0), .ref (aE E 43 (0)), .ref (aE E 44 (0)), .int (g.1 40 0), .int (g.1 41 0), .int (g.1 42 0), .ref (aE E 45 (0)), .ref (aE E 46 (0)), .int (g.1 43 0), .int (g.1 44 0), .int (g.1 45 0), .ref (aE E 47 (0)), .int (g.1 46 0), .ref (aE E 48 (0)), .ref (aE E 49 (0)), .ref (aE E 50 (0)), .ref (aE E 51 (0)), .ref (aE E 52 (0)), .int (g.1 47 0), .int (g.1 48 0), .int (g.1 49 0), .int (g.1 50 0), .int v, .int (g.1 52 0), .ref (aE E 53 (0)), .ref (aE E 54 (0)), .ref (aE E 55 (0)), .ref (aE E 56 (0)), .int (g.1 53 0), .ref (aE E 57 (0))])) = cellsM E (sS g 51 0 v) ++ wx := rfl
theorem se_Mo_keptBeasts {E : WEt} {g : STt} {wx : va_W} (v : Int32) : (cellsM E g ++ wx).set (0) (aE E 28 0, .inr (11, [.int (g.1 32 0), .int (g.1 33 0), .ref (aE E 29 (0)), .ref (aE E 30 (0)), .ref (aE E 31 (0)), .ref (aE E 32 (0)), .ref (aE E 33 (0)), .int (g.1 34 0), .int (g.1 35 0), .int (g.1 36 0), .ref (aE E 34 (0)), .ref (aE E 35 (0)), .ref (aE E 36 (0)), .ref (aE E 37 (0)), .ref (aE E 38 (0)), .ref (aE E 39 (0)), .ref (aE E 40 (0)), .ref (aE E 41 (0)), .ref (aE E 42 (0)), .int (g.1 37 0), .int (g.1 38 0), .int (g.1 39 0), .ref (aE E 43 (0)), .ref (aE E 44 (0)), .int (g.1 40 0), .int (g.1 41 0), .int (g.1 42 0), .ref (aE E 45 (0)), .ref (aE E 46 (0)), .int (g.1 43 0), .int (g.1 44 0), .int (g.1 45 0), .ref (aE E 47 (0)), .int (g.1 46 0), .ref (aE E 48 (0)), .ref (aE E 49 (0)), .ref (aE E 50 (0)), .ref (aE E 51 (0)), .ref (aE E 52 (0)), .int (g.1 47 0), .int (g.1 48 0), .int (g.1 49 0), .int (g.1 50 0), .int (g.1 51 0), .int v, .ref (aE E 53 (0)), .ref (aE E 54 (0)), .ref (aE E 55 (0)), .ref (aE E 56 (0)), .int (g.1 53 0), .ref (aE E 57 (0))])) = cellsM E (sS g 52 0 v) ++ wx := rfl
theorem se_Mo_traces {E : WEt} {g : STt} {wx : va_W} (v : Int32) : (cellsM E g ++ wx).set (0) (aE E 28 0, .inr (11, [.int (g.1 32 0), .int (g.1 33 0), .ref (aE E 29 (0)), .ref (aE E 30 (0)), .ref (aE E 31 (0)), .ref (aE E 32 (0)), .ref (aE E 33 (0)), .int (g.1 34 0), .int (g.1 35 0), .int (g.1 36 0), .ref (aE E 34 (0)), .ref (aE E 35 (0)), .ref (aE E 36 (0)), .ref (aE E 37 (0)), .ref (aE E 38 (0)), .ref (aE E 39 (0)), .ref (aE E 40 (0)), .ref (aE E 41 (0)), .ref (aE E 42 (0)), .int (g.1 37 0), .int (g.1 38 0), .int (g.1 39 0), .ref (aE E 43 (0)), .ref (aE E 44 (0)), .int (g.1 40 0), .int (g.1 41 0), .int (g.1 42 0), .ref (aE E 45 (0)), .ref (aE E 46 (0)), .int (g.1 43 0), .int (g.1 44 0), .int (g.1 45 0), .ref (aE E 47 (0)), .int (g.1 46 0), .ref (aE E 48 (0)), .ref (aE E 49 (0)), .ref (aE E 50 (0)), .ref (aE E 51 (0)), .ref (aE E 52 (0)), .int (g.1 47 0), .int (g.1 48 0), .int (g.1 49 0), .int (g.1 50 0), .int (g.1 51 0), .int (g.1 52 0), .ref (aE E 53 (0)), .ref (aE E 54 (0)), .ref (aE E 55 (0)), .ref (aE E 56 (0)), .int v, .ref (aE E 57 (0))])) = cellsM E (sS g 53 0 v) ++ wx := rfl
theorem ce_m_kind {E : WEt} {g : STt} {wx : va_W} : (cellsM E g ++ wx)[1]? = some (aE E 29 0, .inl (E.2.1 0, 10, .inl (g.2.1 54 0))) := rfl
theorem se_m_kind {E : WEt} {g : STt} {wx : va_W} (f : Nat → Int32) : (cellsM E g ++ wx).set (1) (aE E 29 0, .inl (E.2.1 0, 10, .inl f)) = cellsM E (sA g 54 0 f) ++ wx := rfl
theorem ce_m_number {E : WEt} {g : STt} {wx : va_W} : (cellsM E g ++ wx)[2]? = some (aE E 30 0, .inl (E.2.1 0, 10, .inl (g.2.1 55 0))) := rfl
theorem se_m_number {E : WEt} {g : STt} {wx : va_W} (f : Nat → Int32) : (cellsM E g ++ wx).set (2) (aE E 30 0, .inl (E.2.1 0, 10, .inl f)) = cellsM E (sA g 55 0 f) ++ wx := rfl
theorem ce_m_thing {E : WEt} {g : STt} {wx : va_W} : (cellsM E g ++ wx)[3]? = some (aE E 31 0, .inl (E.2.1 0, 10, .inl (g.2.1 56 0))) := rfl
theorem se_m_thing {E : WEt} {g : STt} {wx : va_W} (f : Nat → Int32) : (cellsM E g ++ wx).set (3) (aE E 31 0, .inl (E.2.1 0, 10, .inl f)) = cellsM E (sA g 56 0 f) ++ wx := rfl
theorem ce_m_is {E : WEt} {g : STt} {wx : va_W} : (cellsM E g ++ wx)[4]? = some (aE E 32 0, .inl (E.2.1 0, 15, .inl (g.2.1 57 0))) := rfl
theorem se_m_is {E : WEt} {g : STt} {wx : va_W} (f : Nat → Int32) : (cellsM E g ++ wx).set (4) (aE E 32 0, .inl (E.2.1 0, 15, .inl f)) = cellsM E (sA g 57 0 f) ++ wx := rfl
theorem ce_m_tape {E : WEt} {g : STt} {wx : va_W} : (cellsM E g ++ wx)[5]? = some (aE E 33 0, .inl (E.2.1 3, 100, .inl (g.2.1 58 0))) := rfl
theorem se_m_tape {E : WEt} {g : STt} {wx : va_W} (f : Nat → Int32) : (cellsM E g ++ wx).set (5) (aE E 33 0, .inl (E.2.1 3, 100, .inl f)) = cellsM E (sA g 58 0 f) ++ wx := rfl
theorem ce_m_clauseMany {E : WEt} {g : STt} {wx : va_W} : (cellsM E g ++ wx)[6]? = some (aE E 34 0, .inl (E.2.1 0, 7, .inl (g.2.1 59 0))) := rfl
theorem se_m_clauseMany {E : WEt} {g : STt} {wx : va_W} (f : Nat → Int32) : (cellsM E g ++ wx).set (6) (aE E 34 0, .inl (E.2.1 0, 7, .inl f)) = cellsM E (sA g 59 0 f) ++ wx := rfl
theorem ce_m_clauseIs {E : WEt} {g : STt} {wx : va_W} : (cellsM E g ++ wx)[7]? = some (aE E 35 0, .inl (E.2.1 0, 70, .inl (g.2.1 60 0))) := rfl
theorem se_m_clauseIs {E : WEt} {g : STt} {wx : va_W} (f : Nat → Int32) : (cellsM E g ++ wx).set (7) (aE E 35 0, .inl (E.2.1 0, 70, .inl f)) = cellsM E (sA g 60 0 f) ++ wx := rfl
theorem ce_m_clauseN {E : WEt} {g : STt} {wx : va_W} : (cellsM E g ++ wx)[8]? = some (aE E 36 0, .inl (E.2.1 0, 70, .inl (g.2.1 61 0))) := rfl
theorem se_m_clauseN {E : WEt} {g : STt} {wx : va_W} (f : Nat → Int32) : (cellsM E g ++ wx).set (8) (aE E 36 0, .inl (E.2.1 0, 70, .inl f)) = cellsM E (sA g 61 0 f) ++ wx := rfl
theorem ce_m_clauseFrom {E : WEt} {g : STt} {wx : va_W} : (cellsM E g ++ wx)[9]? = some (aE E 37 0, .inl (E.2.1 0, 70, .inl (g.2.1 62 0))) := rfl
theorem se_m_clauseFrom {E : WEt} {g : STt} {wx : va_W} (f : Nat → Int32) : (cellsM E g ++ wx).set (9) (aE E 37 0, .inl (E.2.1 0, 70, .inl f)) = cellsM E (sA g 62 0 f) ++ wx := rfl
theorem ce_m_clauseTo {E : WEt} {g : STt} {wx : va_W} : (cellsM E g ++ wx)[10]? = some (aE E 38 0, .inl (E.2.1 0, 70, .inl (g.2.1 63 0))) := rfl
theorem se_m_clauseTo {E : WEt} {g : STt} {wx : va_W} (f : Nat → Int32) : (cellsM E g ++ wx).set (10) (aE E 38 0, .inl (E.2.1 0, 70, .inl f)) = cellsM E (sA g 63 0 f) ++ wx := rfl
theorem ce_m_step {E : WEt} {g : STt} {wx : va_W} : (cellsM E g ++ wx)[11]? = some (aE E 39 0, .inl (E.2.1 0, 700, .inl (g.2.1 64 0))) := rfl
theorem se_m_step {E : WEt} {g : STt} {wx : va_W} (f : Nat → Int32) : (cellsM E g ++ wx).set (11) (aE E 39 0, .inl (E.2.1 0, 700, .inl f)) = cellsM E (sA g 64 0 f) ++ wx := rfl
theorem ce_m_letter {E : WEt} {g : STt} {wx : va_W} : (cellsM E g ++ wx)[12]? = some (aE E 40 0, .inl (E.2.1 0, 700, .inl (g.2.1 65 0))) := rfl
theorem se_m_letter {E : WEt} {g : STt} {wx : va_W} (f : Nat → Int32) : (cellsM E g ++ wx).set (12) (aE E 40 0, .inl (E.2.1 0, 700, .inl f)) = cellsM E (sA g 65 0 f) ++ wx := rfl
theorem ce_m_sign {E : WEt} {g : STt} {wx : va_W} : (cellsM E g ++ wx)[13]? = some (aE E 41 0, .inl (E.2.1 0, 700, .inl (g.2.1 66 0))) := rfl
theorem se_m_sign {E : WEt} {g : STt} {wx : va_W} (f : Nat → Int32) : (cellsM E g ++ wx).set (13) (aE E 41 0, .inl (E.2.1 0, 700, .inl f)) = cellsM E (sA g 66 0 f) ++ wx := rfl
theorem ce_m_value {E : WEt} {g : STt} {wx : va_W} : (cellsM E g ++ wx)[14]? = some (aE E 42 0, .inl (E.2.1 0, 700, .inl (g.2.1 67 0))) := rfl
theorem se_m_value {E : WEt} {g : STt} {wx : va_W} (f : Nat → Int32) : (cellsM E g ++ wx).set (14) (aE E 42 0, .inl (E.2.1 0, 700, .inl f)) = cellsM E (sA g 67 0 f) ++ wx := rfl
theorem ce_m_words {E : WEt} {g : STt} {wx : va_W} : (cellsM E g ++ wx)[15]? = some (aE E 43 0, .inl (E.2.1 0, 31, .inl (g.2.1 68 0))) := rfl
theorem se_m_words {E : WEt} {g : STt} {wx : va_W} (f : Nat → Int32) : (cellsM E g ++ wx).set (15) (aE E 43 0, .inl (E.2.1 0, 31, .inl f)) = cellsM E (sA g 68 0 f) ++ wx := rfl
theorem ce_m_pile {E : WEt} {g : STt} {wx : va_W} : (cellsM E g ++ wx)[16]? = some (aE E 44 0, .inl (E.2.1 2, 100, .inl (g.2.1 69 0))) := rfl
theorem se_m_pile {E : WEt} {g : STt} {wx : va_W} (f : Nat → Int32) : (cellsM E g ++ wx).set (16) (aE E 44 0, .inl (E.2.1 2, 100, .inl f)) = cellsM E (sA g 69 0 f) ++ wx := rfl
theorem ce_m_row {E : WEt} {g : STt} {wx : va_W} : (cellsM E g ++ wx)[17]? = some (aE E 45 0, .inl (E.2.1 0, 12, .inl (g.2.1 70 0))) := rfl
theorem se_m_row {E : WEt} {g : STt} {wx : va_W} (f : Nat → Int32) : (cellsM E g ++ wx).set (17) (aE E 45 0, .inl (E.2.1 0, 12, .inl f)) = cellsM E (sA g 70 0 f) ++ wx := rfl
theorem ce_m_was {E : WEt} {g : STt} {wx : va_W} : (cellsM E g ++ wx)[18]? = some (aE E 46 0, .inl (E.2.1 0, 15, .inl (g.2.1 71 0))) := rfl
theorem se_m_was {E : WEt} {g : STt} {wx : va_W} (f : Nat → Int32) : (cellsM E g ++ wx).set (18) (aE E 46 0, .inl (E.2.1 0, 15, .inl f)) = cellsM E (sA g 71 0 f) ++ wx := rfl
theorem ce_m_beastFear {E : WEt} {g : STt} {wx : va_W} : (cellsM E g ++ wx)[19]? = some (aE E 47 0, .inl (E.2.1 0, 4, .inl (g.2.1 72 0))) := rfl
theorem se_m_beastFear {E : WEt} {g : STt} {wx : va_W} (f : Nat → Int32) : (cellsM E g ++ wx).set (19) (aE E 47 0, .inl (E.2.1 0, 4, .inl f)) = cellsM E (sA g 72 0 f) ++ wx := rfl
theorem ce_m_film {E : WEt} {g : STt} {wx : va_W} : (cellsM E g ++ wx)[20]? = some (aE E 48 0, .inl (E.2.1 0, 12, .inl (g.2.1 73 0))) := rfl
theorem se_m_film {E : WEt} {g : STt} {wx : va_W} (f : Nat → Int32) : (cellsM E g ++ wx).set (20) (aE E 48 0, .inl (E.2.1 0, 12, .inl f)) = cellsM E (sA g 73 0 f) ++ wx := rfl
theorem ce_m_tapeSort {E : WEt} {g : STt} {wx : va_W} : (cellsM E g ++ wx)[21]? = some (aE E 49 0, .inl (E.2.1 0, 6, .inl (g.2.1 74 0))) := rfl
theorem se_m_tapeSort {E : WEt} {g : STt} {wx : va_W} (f : Nat → Int32) : (cellsM E g ++ wx).set (21) (aE E 49 0, .inl (E.2.1 0, 6, .inl f)) = cellsM E (sA g 74 0 f) ++ wx := rfl
theorem ce_m_tapeSize {E : WEt} {g : STt} {wx : va_W} : (cellsM E g ++ wx)[22]? = some (aE E 50 0, .inl (E.2.1 0, 6, .inl (g.2.1 75 0))) := rfl
theorem se_m_tapeSize {E : WEt} {g : STt} {wx : va_W} (f : Nat → Int32) : (cellsM E g ++ wx).set (22) (aE E 50 0, .inl (E.2.1 0, 6, .inl f)) = cellsM E (sA g 75 0 f) ++ wx := rfl
theorem ce_m_items {E : WEt} {g : STt} {wx : va_W} : (cellsM E g ++ wx)[23]? = some (aE E 51 0, .inl (E.2.1 1, 360, .inr (.inl (g.2.2.1 76 0)))) := rfl
theorem se_m_items {E : WEt} {g : STt} {wx : va_W} (f : Nat → Int64) : (cellsM E g ++ wx).set (23) (aE E 51 0, .inl (E.2.1 1, 360, .inr (.inl f))) = cellsM E (sL g 76 0 f) ++ wx := rfl
theorem ce_m_moving {E : WEt} {g : STt} {wx : va_W} : (cellsM E g ++ wx)[24]? = some (aE E 52 0, .inl (E.2.1 1, 60, .inr (.inl (g.2.2.1 77 0)))) := rfl
theorem se_m_moving {E : WEt} {g : STt} {wx : va_W} (f : Nat → Int64) : (cellsM E g ++ wx).set (24) (aE E 52 0, .inl (E.2.1 1, 60, .inr (.inl f))) = cellsM E (sL g 77 0 f) ++ wx := rfl
theorem ce_m_keptIs {E : WEt} {g : STt} {wx : va_W} : (cellsM E g ++ wx)[25]? = some (aE E 53 0, .inl (E.2.1 0, 15, .inl (g.2.1 78 0))) := rfl
theorem se_m_keptIs {E : WEt} {g : STt} {wx : va_W} (f : Nat → Int32) : (cellsM E g ++ wx).set (25) (aE E 53 0, .inl (E.2.1 0, 15, .inl f)) = cellsM E (sA g 78 0 f) ++ wx := rfl
theorem ce_m_keptRow {E : WEt} {g : STt} {wx : va_W} : (cellsM E g ++ wx)[26]? = some (aE E 54 0, .inl (E.2.1 0, 12, .inl (g.2.1 79 0))) := rfl
theorem se_m_keptRow {E : WEt} {g : STt} {wx : va_W} (f : Nat → Int32) : (cellsM E g ++ wx).set (26) (aE E 54 0, .inl (E.2.1 0, 12, .inl f)) = cellsM E (sA g 79 0 f) ++ wx := rfl
theorem ce_m_keptFilm {E : WEt} {g : STt} {wx : va_W} : (cellsM E g ++ wx)[27]? = some (aE E 55 0, .inl (E.2.1 0, 12, .inl (g.2.1 80 0))) := rfl
theorem se_m_keptFilm {E : WEt} {g : STt} {wx : va_W} (f : Nat → Int32) : (cellsM E g ++ wx).set (27) (aE E 55 0, .inl (E.2.1 0, 12, .inl f)) = cellsM E (sA g 80 0 f) ++ wx := rfl
theorem ce_m_keptFear {E : WEt} {g : STt} {wx : va_W} : (cellsM E g ++ wx)[28]? = some (aE E 56 0, .inl (E.2.1 0, 4, .inl (g.2.1 81 0))) := rfl
theorem se_m_keptFear {E : WEt} {g : STt} {wx : va_W} (f : Nat → Int32) : (cellsM E g ++ wx).set (28) (aE E 56 0, .inl (E.2.1 0, 4, .inl f)) = cellsM E (sA g 81 0 f) ++ wx := rfl
theorem ce_m_traced {E : WEt} {g : STt} {wx : va_W} : (cellsM E g ++ wx)[29]? = some (aE E 57 0, .inl (E.2.1 0, 20, .inl (g.2.1 82 0))) := rfl
theorem se_m_traced {E : WEt} {g : STt} {wx : va_W} (f : Nat → Int32) : (cellsM E g ++ wx).set (29) (aE E 57 0, .inl (E.2.1 0, 20, .inl f)) = cellsM E (sA g 82 0 f) ++ wx := rfl
end
section
/-! What the statics hold, the context of a method's body, the judgement. -/
/-- the words that hold wherever the tables are warm -/
def gw_tbl : List Cond := lw_tbl.filter goodWord
def mostF (j : Nat) : Int32 := ([99, 99, 99, 99, 99, 99, 99, 99, 99, 9, 99, 99, 10, 1, 1000000] : List Int32).getD j 0
def aboveF (j : Nat) : Int32 := ([-1, 0, 0, 0, 1, 2, 3] : List Int32).getD j 0
def bodiesF (j : Nat) : Int32 := ([10, 11, 12, 0, 20, 0, 30, 0, 0, 0, 0, 40, 50, 51, 0, 0, 0, 60, 71, 70, 0] : List Int32).getD j 0
def sL_len : List Nat := [2, 3, 4, 4, 3, 4, 4, 9, 3]
def sL_byt : List (List Int32) := [[103, 111], [110, 111, 116], [104, 117, 114, 116], [108, 101, 97, 100], [104, 105, 116], [108, 111, 111, 107], [102, 111, 114, 100], [102, 104, 112, 119, 108, 115, 97, 107, 116], [60, 61, 62]]
def sL_key : Nat → Nat × String
  | 0 => (83, "go")
  | 1 => (85, "not")
  | 2 => (87, "hurt")
  | 3 => (89, "lead")
  | 4 => (91, "hit")
  | 5 => (93, "look")
  | 6 => (95, "ford")
  | 7 => (110, "fhpwlsakt")
  | _ => (116, "<=>")
/-- the statics: MOST, ABOVE, BODIES, COMPACT_STRINGS, the constants' texts -/
def SF (E : WEt) (U : State) (H : Heap) : Prop :=
  (va_Z "DonkeyBridge$Donkey" "MOST" "[I" (.ref (E.2.2.2.2 0)) E.2.2.2.1 U H ∧ va_T .int (E.2.2.2.2 0) 15 (fun j => .int (mostF j)) E.2.2.2.1 U H) ∧
  (va_Z "DonkeyBridge$Road" "ABOVE" "[I" (.ref (E.2.2.2.2 1)) E.2.2.2.1 U H ∧ va_T .int (E.2.2.2.2 1) 7 (fun j => .int (aboveF j)) E.2.2.2.1 U H) ∧
  (va_Z "DonkeyBridge$Bodies" "BODIES" "[I" (.ref (E.2.2.2.2 2)) E.2.2.2.1 U H ∧ va_T .int (E.2.2.2.2 2) 21 (fun j => .int (bodiesF j)) E.2.2.2.1 U H) ∧
  va_Z "java/lang/String" "COMPACT_STRINGS" "Z" (.int 1) E.2.2.2.1 U H ∧
  vk_S 9 sL_len sL_byt (fun k => E.2.2.2.2 (10 + k)) (fun k => E.2.2.2.2 (20 + k)) E.2.2.2.1 U H ∧
  ∀ k, k < 9 → vk_R "DonkeyBridge$Text" (sL_key k).1 (sL_key k).2 (E.2.2.2.2 (10 + k)) U
theorem SF.moved {E : WEt} {u U : State} {H : Heap} (hW : u.WarmedH U.vm) (h : SF E u H) : SF E U H := by
  obtain ⟨⟨a1, a2⟩, ⟨b1, b2⟩, ⟨c1, c2⟩, d1, d2, d3⟩ := h
  exact ⟨⟨a1.moved hW.alike, a2.moved hW.alike⟩, ⟨b1.moved hW.alike, b2.moved hW.alike⟩, ⟨c1.moved hW.alike, c2.moved hW.alike⟩, d1.moved hW.alike, d2.moved hW.alike, fun k hk => (d3 k hk).warm hW⟩
theorem SF.kept {E : WEt} {U : State} {H H1 : Heap} (h : SF E U H) (hq : ∀ a : Nat, a < H.size → ¬ E.2.2.2.1 a → H1[a]? = H[a]?) : SF E U H1 := by
  obtain ⟨⟨a1, a2⟩, ⟨b1, b2⟩, ⟨c1, c2⟩, d1, d2, d3⟩ := h
  exact ⟨⟨a1.kept hq, a2.kept hq⟩, ⟨b1.kept hq, b2.kept hq⟩, ⟨c1.kept hq, c2.kept hq⟩, d1.kept hq, d2.kept hq, d3⟩
def CX (p : Program) (s : State) (m : MethodId) (args : Array Value) (meth : Method) (c : Code) (cc : ByteArray) (nL : Nat) (own : String) (rt : Option FieldType) (E : WEt) : Prop :=
  p.tables.exec = Jvm.exec ∧ c.code = cc ∧ c.maxLocals = nL ∧ s.vm.findClass own = some m.cls ∧ (∀ w ∈ gw_tbl, w.before args s = true) ∧ va_K E.1 vwCl (tyE E) s ∧ SF E s s.heap ∧ meth.sig.returnType = rt ∧ meth.locks = false
/-- from every heap that holds the cells ws, at pc with these locals and this stack, the machine comes to Q -/
def VJ (p : Program) (l : Launch) (e : Env) (R : Room) (s : State) (m : MethodId) (args : Array Value) (below : List Frame) (meth : Method) (c : Code) (Q : State → Prop) (E : WEt) (nL : Nat) (ws : va_W) (lv : List (Nat × Value)) (stk : List Value) (pc : Nat) : Prop :=
  ∀ (H : Heap) (locs : List Loc) (ls : Array Slot), va_P E.1 vwCl ws H → va_D E.2.2.2.1 ws → va_S E.2.2.2.1 s.heap H locs → lv_has ls nL lv → W p l e R s m args below meth c H locs 0 0 Q (F0 m pc ls stk)
/-- the world as a state holds it -/
def WLD (E : WEt) (ws : va_W) (U : State) : Prop := va_P E.1 vwCl ws U.heap ∧ va_D E.2.2.2.1 ws ∧ va_K E.1 vwCl (tyE E) U ∧ SF E U U.heap
def rmL (L : Nat) : Room := { frames := L, cells := 0, slots := 0, locals := 40 * L }
def QCt (E : WEt) (ws : va_W) (v : Option Value) : Array Value → State → Outcome → State → Prop := fun _ st oc t => oc = .returned v ∧ WLD E ws t ∧ va_F E.2.2.2.1 st t
def QE (below : List Frame) (E : WEt) (ws : va_W) (v : Option Value) (args : Array Value) (s : State) : State → Prop := MQ below (QCt E ws v) args s 0 0 E.2.2.2.1
/-- A METHOD's CONTRACT: from the world ws with the arguments av it answers v, the world being ws' -/
def MT (l : Launch) (E : WEt) (y : MethodName) (cc : ByteArray) (maxL : Nat) (rt : Option FieldType) (L : Nat) (av : List Value) (ws ws' : va_W) (v : Option Value) : Prop :=
  Met l y (.code y cc maxL rt :: gw_tbl) (rmL L) (va_Pc av (WLD E ws)) (QCt E ws' v) 0 0 E.2.2.2.1
theorem WLD.calling {E : WEt} {ws : va_W} {U : State} {a : Array Value} {g : JFrame} {mk : MethodId} (h : WLD E ws U) : WLD E ws (U.calling g mk a) :=
  ⟨h.1, h.2.1, va_K.moved (u := U) (U := U.calling g mk a) (Vm.Alike.refl U.vm) h.2.2.1, SF.moved (u := U) (U := U.calling g mk a) (State.WarmedH.refl U) h.2.2.2⟩
theorem gw_good : gw_tbl.all goodWord = true := List.all_eq_true.mpr fun w hw => (List.mem_filter.mp hw).2
theorem gm {w : Cond} (h : w ∈ lw_tbl) (hg : goodWord w = true) : w ∈ gw_tbl := List.mem_filter.mpr ⟨h, hg⟩
theorem gw_goodIn {ws : List Cond} (h : ∀ w ∈ ws, w ∈ gw_tbl) : GoodIn gw_tbl ws := fun w hw => ⟨h w hw, good_of_word (List.all_eq_true.mp gw_good w (h w hw))⟩
section VJR
variable {p : Program} {l : Launch} {e : Env} {R : Room} {s : State} {m : MethodId} {args : Array Value} {below : List Frame} {meth : Method} {c : Code} {Q : State → Prop} {E : WEt} {cc : ByteArray} {nL : Nat} {own : String} {rt : Option FieldType} {ws ws' : va_W} {lv lv' : List (Nat × Value)} {rest stk : List Value} {pc : Nat}
theorem vj_sub (ks : List Nat) (hl : lv_pick lv ks = lv') (k : VJ p l e R s m args below meth c Q E nL ws lv' stk pc) : VJ p l e R s m args below meth c Q E nL ws lv stk pc := fun H locs ls hP hD hS h => k H locs ls hP hD hS (lv_sub h ks hl)
theorem vj_ws (h : ws = ws') (k : VJ p l e R s m args below meth c Q E nL ws' lv stk pc) : VJ p l e R s m args below meth c Q E nL ws lv stk pc := h ▸ k
theorem mt_of {y : MethodName} {maxL L : Nat} {av : List Value} {v : Option Value} (hy : plainName y.cls = true) (hlen : (lg_sl av).length ≤ maxL)
    (body : ∀ p e s m args below meth c, CX p s m args meth c cc maxL y.cls rt E → VJ p l e (rmL L) s m args below meth c (QE below E ws' v args s) E maxL ws (lv_args 0 av) [] 0) : MT l E y cc maxL rt L av ws ws' v := by
  refine Met.ofW (cc := cc) (maxL := maxL) (ret := rt) hy rfl ?_
  intro p e s m args below meth c s₁ B hml hv
  obtain ⟨rfl, hP, hD, hK, hF⟩ := hv
  have hts := atoms_spec (ws := .code y cc maxL rt :: gw_tbl) B.pre
  have C : CX p s m av.toArray meth c cc maxL y.cls rt E := ⟨B.exec, B.bytes, hml, findClass_of_methodNamed B.named, fun w hw => hts w (List.mem_cons_of_mem _ hw), hK, hF, B.returns, B.notSynchronized⟩
  rw [lg_entry_eq]
  exact body p e s m av.toArray below meth c C s.heap [] _ hP hD va_S.rf (lv_entry av hlen)

theorem v_iadd (C : CX p s m args meth c cc nL own rt E) {x y : Int32} (hd : decode cc pc = .ok (.iadd, 1))  (k : VJ p l e R s m args below meth c Q E nL ws lv (.int (x + y) :: rest) (pc + 1)) : VJ p l e R s m args below meth c Q E nL ws lv (.int y :: .int x :: rest) pc := fun H locs ls hP hD hS hl => lv_iadd C.1 C.2.1 hd  (k H locs ls hP hD hS hl)
theorem v_isub (C : CX p s m args meth c cc nL own rt E) {x y : Int32} (hd : decode cc pc = .ok (.isub, 1))  (k : VJ p l e R s m args below meth c Q E nL ws lv (.int (x - y) :: rest) (pc + 1)) : VJ p l e R s m args below meth c Q E nL ws lv (.int y :: .int x :: rest) pc := fun H locs ls hP hD hS hl => lv_isub C.1 C.2.1 hd  (k H locs ls hP hD hS hl)
theorem v_imul (C : CX p s m args meth c cc nL own rt E) {x y : Int32} (hd : decode cc pc = .ok (.imul, 1))  (k : VJ p l e R s m args below meth c Q E nL ws lv (.int (x * y) :: rest) (pc + 1)) : VJ p l e R s m args below meth c Q E nL ws lv (.int y :: .int x :: rest) pc := fun H locs ls hP hD hS hl => lv_imul C.1 C.2.1 hd  (k H locs ls hP hD hS hl)
theorem v_iand (C : CX p s m args meth c cc nL own rt E) {x y : Int32} (hd : decode cc pc = .ok (.iand, 1))  (k : VJ p l e R s m args below meth c Q E nL ws lv (.int (x &&& y) :: rest) (pc + 1)) : VJ p l e R s m args below meth c Q E nL ws lv (.int y :: .int x :: rest) pc := fun H locs ls hP hD hS hl => lv_iand C.1 C.2.1 hd  (k H locs ls hP hD hS hl)
theorem v_ior (C : CX p s m args meth c cc nL own rt E) {x y : Int32} (hd : decode cc pc = .ok (.ior, 1))  (k : VJ p l e R s m args below meth c Q E nL ws lv (.int (x ||| y) :: rest) (pc + 1)) : VJ p l e R s m args below meth c Q E nL ws lv (.int y :: .int x :: rest) pc := fun H locs ls hP hD hS hl => lv_ior C.1 C.2.1 hd  (k H locs ls hP hD hS hl)
theorem v_ixor (C : CX p s m args meth c cc nL own rt E) {x y : Int32} (hd : decode cc pc = .ok (.ixor, 1))  (k : VJ p l e R s m args below meth c Q E nL ws lv (.int (x ^^^ y) :: rest) (pc + 1)) : VJ p l e R s m args below meth c Q E nL ws lv (.int y :: .int x :: rest) pc := fun H locs ls hP hD hS hl => lv_ixor C.1 C.2.1 hd  (k H locs ls hP hD hS hl)
theorem v_ishl (C : CX p s m args meth c cc nL own rt E) {x y : Int32} (hd : decode cc pc = .ok (.ishl, 1))  (k : VJ p l e R s m args below meth c Q E nL ws lv (.int (x <<< (y &&& 31)) :: rest) (pc + 1)) : VJ p l e R s m args below meth c Q E nL ws lv (.int y :: .int x :: rest) pc := fun H locs ls hP hD hS hl => lv_ishl C.1 C.2.1 hd  (k H locs ls hP hD hS hl)
theorem v_ishr (C : CX p s m args meth c cc nL own rt E) {x y : Int32} (hd : decode cc pc = .ok (.ishr, 1))  (k : VJ p l e R s m args below meth c Q E nL ws lv (.int (x >>> (y &&& 31)) :: rest) (pc + 1)) : VJ p l e R s m args below meth c Q E nL ws lv (.int y :: .int x :: rest) pc := fun H locs ls hP hD hS hl => lv_ishr C.1 C.2.1 hd  (k H locs ls hP hD hS hl)
theorem v_idiv (C : CX p s m args meth c cc nL own rt E) {x y : Int32} (hd : decode cc pc = .ok (.idiv, 1)) (hne : ¬ y = 0) (k : VJ p l e R s m args below meth c Q E nL ws lv (.int (x / y) :: rest) (pc + 1)) : VJ p l e R s m args below meth c Q E nL ws lv (.int y :: .int x :: rest) pc := fun H locs ls hP hD hS hl => lv_idiv C.1 C.2.1 hd hne (k H locs ls hP hD hS hl)
theorem v_irem (C : CX p s m args meth c cc nL own rt E) {x y : Int32} (hd : decode cc pc = .ok (.irem, 1)) (hne : ¬ y = 0) (k : VJ p l e R s m args below meth c Q E nL ws lv (.int (x - x / y * y) :: rest) (pc + 1)) : VJ p l e R s m args below meth c Q E nL ws lv (.int y :: .int x :: rest) pc := fun H locs ls hP hD hS hl => lv_irem C.1 C.2.1 hd hne (k H locs ls hP hD hS hl)
theorem v_ladd (C : CX p s m args meth c cc nL own rt E) {x y : Int64} (hd : decode cc pc = .ok (.ladd, 1))  (k : VJ p l e R s m args below meth c Q E nL ws lv (.long (x + y) :: rest) (pc + 1)) : VJ p l e R s m args below meth c Q E nL ws lv (.long y :: .long x :: rest) pc := fun H locs ls hP hD hS hl => lv_ladd C.1 C.2.1 hd  (k H locs ls hP hD hS hl)
theorem v_lmul (C : CX p s m args meth c cc nL own rt E) {x y : Int64} (hd : decode cc pc = .ok (.lmul, 1))  (k : VJ p l e R s m args below meth c Q E nL ws lv (.long (x * y) :: rest) (pc + 1)) : VJ p l e R s m args below meth c Q E nL ws lv (.long y :: .long x :: rest) pc := fun H locs ls hP hD hS hl => lv_lmul C.1 C.2.1 hd  (k H locs ls hP hD hS hl)
theorem v_land (C : CX p s m args meth c cc nL own rt E) {x y : Int64} (hd : decode cc pc = .ok (.land, 1))  (k : VJ p l e R s m args below meth c Q E nL ws lv (.long (x &&& y) :: rest) (pc + 1)) : VJ p l e R s m args below meth c Q E nL ws lv (.long y :: .long x :: rest) pc := fun H locs ls hP hD hS hl => lv_land C.1 C.2.1 hd  (k H locs ls hP hD hS hl)
theorem v_lor (C : CX p s m args meth c cc nL own rt E) {x y : Int64} (hd : decode cc pc = .ok (.lor, 1))  (k : VJ p l e R s m args below meth c Q E nL ws lv (.long (x ||| y) :: rest) (pc + 1)) : VJ p l e R s m args below meth c Q E nL ws lv (.long y :: .long x :: rest) pc := fun H locs ls hP hD hS hl => lv_lor C.1 C.2.1 hd  (k H locs ls hP hD hS hl)
theorem v_ldiv (C : CX p s m args meth c cc nL own rt E) {x y : Int64} (hd : decode cc pc = .ok (.ldiv, 1)) (hne : ¬ y = 0) (k : VJ p l e R s m args below meth c Q E nL ws lv (.long (x / y) :: rest) (pc + 1)) : VJ p l e R s m args below meth c Q E nL ws lv (.long y :: .long x :: rest) pc := fun H locs ls hP hD hS hl => lv_ldiv C.1 C.2.1 hd hne (k H locs ls hP hD hS hl)
theorem v_lrem (C : CX p s m args meth c cc nL own rt E) {x y : Int64} (hd : decode cc pc = .ok (.lrem, 1)) (hne : ¬ y = 0) (k : VJ p l e R s m args below meth c Q E nL ws lv (.long (x - x / y * y) :: rest) (pc + 1)) : VJ p l e R s m args below meth c Q E nL ws lv (.long y :: .long x :: rest) pc := fun H locs ls hP hD hS hl => lv_lrem C.1 C.2.1 hd hne (k H locs ls hP hD hS hl)
theorem v_iushr (C : CX p s m args meth c cc nL own rt E) {x y : Int32} (hd : decode cc pc = .ok (.iushr, 1)) (k : VJ p l e R s m args below meth c Q E nL ws lv (.int ((x.toUInt32 >>> (y.toUInt32 &&& Int32.toUInt32 31)).toInt32) :: rest) (pc + 1)) : VJ p l e R s m args below meth c Q E nL ws lv (.int y :: .int x :: rest) pc := fun H locs ls hP hD hS hl => lv_iushr C.1 C.2.1 hd rfl (k H locs ls hP hD hS hl)
theorem v_lshl (C : CX p s m args meth c cc nL own rt E) {x : Int64} {y : Int32} (hd : decode cc pc = .ok (.lshl, 1)) (k : VJ p l e R s m args below meth c Q E nL ws lv (.long (x <<< (y.toInt64 &&& 63)) :: rest) (pc + 1)) : VJ p l e R s m args below meth c Q E nL ws lv (.int y :: .long x :: rest) pc := fun H locs ls hP hD hS hl => lv_lshl C.1 C.2.1 hd rfl (k H locs ls hP hD hS hl)
theorem v_ineg (C : CX p s m args meth c cc nL own rt E) {x : Int32} (hd : decode cc pc = .ok (.ineg, 1)) (k : VJ p l e R s m args below meth c Q E nL ws lv (.int (-x) :: rest) (pc + 1)) : VJ p l e R s m args below meth c Q E nL ws lv (.int x :: rest) pc := fun H locs ls hP hD hS hl => lv_ineg C.1 C.2.1 hd  (k H locs ls hP hD hS hl)
theorem v_i2l (C : CX p s m args meth c cc nL own rt E) {x : Int32} (hd : decode cc pc = .ok (.i2l, 1)) (k : VJ p l e R s m args below meth c Q E nL ws lv (.long (x.toInt64) :: rest) (pc + 1)) : VJ p l e R s m args below meth c Q E nL ws lv (.int x :: rest) pc := fun H locs ls hP hD hS hl => lv_i2l C.1 C.2.1 hd rfl (k H locs ls hP hD hS hl)
theorem v_l2i (C : CX p s m args meth c cc nL own rt E) {x : Int64} (hd : decode cc pc = .ok (.l2i, 1)) (k : VJ p l e R s m args below meth c Q E nL ws lv (.int (x.toInt32) :: rest) (pc + 1)) : VJ p l e R s m args below meth c Q E nL ws lv (.long x :: rest) pc := fun H locs ls hP hD hS hl => lv_l2i C.1 C.2.1 hd rfl (k H locs ls hP hD hS hl)
theorem v_i2b (C : CX p s m args meth c cc nL own rt E) {x : Int32} (hd : decode cc pc = .ok (.i2b, 1)) (k : VJ p l e R s m args below meth c Q E nL ws lv (.int (x.toInt8.toInt32) :: rest) (pc + 1)) : VJ p l e R s m args below meth c Q E nL ws lv (.int x :: rest) pc := fun H locs ls hP hD hS hl => lv_i2b C.1 C.2.1 hd rfl (k H locs ls hP hD hS hl)
theorem v_i2c (C : CX p s m args meth c cc nL own rt E) {x : Int32} (hd : decode cc pc = .ok (.i2c, 1)) (k : VJ p l e R s m args below meth c Q E nL ws lv (.int ((x.toUInt32 % 65536).toInt32) :: rest) (pc + 1)) : VJ p l e R s m args below meth c Q E nL ws lv (.int x :: rest) pc := fun H locs ls hP hD hS hl => lv_i2c C.1 C.2.1 hd rfl (k H locs ls hP hD hS hl)
theorem v_i2s (C : CX p s m args meth c cc nL own rt E) {x : Int32} (hd : decode cc pc = .ok (.i2s, 1)) (k : VJ p l e R s m args below meth c Q E nL ws lv (.int (x.toInt16.toInt32) :: rest) (pc + 1)) : VJ p l e R s m args below meth c Q E nL ws lv (.int x :: rest) pc := fun H locs ls hP hD hS hl => lv_i2s C.1 C.2.1 hd rfl (k H locs ls hP hD hS hl)
theorem v_iconst (C : CX p s m args meth c cc nL own rt E) {n : Int} (v : Int32) (hd : decode cc pc = .ok (.iconst n, 1)) (hv : Int32.ofInt n = v) (k : VJ p l e R s m args below meth c Q E nL ws lv (.int v :: rest) (pc + 1)) : VJ p l e R s m args below meth c Q E nL ws lv (rest) pc := fun H locs ls hP hD hS hl => lv_iconst C.1 C.2.1 hd hv (k H locs ls hP hD hS hl)
theorem v_bipush (C : CX p s m args meth c cc nL own rt E) {n : Int} (v : Int32) (hd : decode cc pc = .ok (.bipush n, 2)) (hv : (Int8.ofInt n).toInt32 = v) (k : VJ p l e R s m args below meth c Q E nL ws lv (.int v :: rest) (pc + 2)) : VJ p l e R s m args below meth c Q E nL ws lv (rest) pc := fun H locs ls hP hD hS hl => lv_bipush C.1 C.2.1 hd hv (k H locs ls hP hD hS hl)
theorem v_sipush (C : CX p s m args meth c cc nL own rt E) {n : Int} (v : Int32) (hd : decode cc pc = .ok (.sipush n, 3)) (hv : (Int16.ofInt n).toInt32 = v) (k : VJ p l e R s m args below meth c Q E nL ws lv (.int v :: rest) (pc + 3)) : VJ p l e R s m args below meth c Q E nL ws lv (rest) pc := fun H locs ls hP hD hS hl => lv_sipush C.1 C.2.1 hd hv (k H locs ls hP hD hS hl)
theorem v_lconst (C : CX p s m args meth c cc nL own rt E) {n : Fin 2} (v : Int64) (hd : decode cc pc = .ok (.lconst n, 1)) (hv : Int64.ofNat (n : Nat) = v) (k : VJ p l e R s m args below meth c Q E nL ws lv (.long v :: rest) (pc + 1)) : VJ p l e R s m args below meth c Q E nL ws lv (rest) pc := fun H locs ls hP hD hS hl => lv_lconst C.1 C.2.1 hd hv (k H locs ls hP hD hS hl)
theorem v_null (C : CX p s m args meth c cc nL own rt E) (hd : decode cc pc = .ok (.aconst_null, 1)) (k : VJ p l e R s m args below meth c Q E nL ws lv (.null :: rest) (pc + 1)) : VJ p l e R s m args below meth c Q E nL ws lv (rest) pc := fun H locs ls hP hD hS hl => lv_null C.1 C.2.1 hd (k H locs ls hP hD hS hl)
theorem v_ldc (C : CX p s m args meth c cc nL own rt E) {index : Nat} {v : Int32} (hw : Cond.constant own index v ∈ gw_tbl) (hd : decode cc pc = .ok (.ldc index, 2)) (k : VJ p l e R s m args below meth c Q E nL ws lv (.int v :: rest) (pc + 2)) : VJ p l e R s m args below meth c Q E nL ws lv (rest) pc := fun H locs ls hP hD hS hl => lv_ldc C.1 C.2.1 C.2.2.2.1 (C.2.2.2.2.1 _ hw) hd (k H locs ls hP hD hS hl)
theorem v_ldc2 (C : CX p s m args meth c cc nL own rt E) {index : Nat} {v : Int64} (hw : Cond.constantLong own index v ∈ gw_tbl) (hd : decode cc pc = .ok (.ldc2_w index, 3)) (k : VJ p l e R s m args below meth c Q E nL ws lv (.long v :: rest) (pc + 3)) : VJ p l e R s m args below meth c Q E nL ws lv (rest) pc := fun H locs ls hP hD hS hl => lv_ldc2 C.1 C.2.1 C.2.2.2.1 (C.2.2.2.2.1 _ hw) hd (k H locs ls hP hD hS hl)
theorem v_dup (C : CX p s m args meth c cc nL own rt E) {va : Value} (hva : va.category = 1) (hd : decode cc pc = .ok (.dup, 1)) (k : VJ p l e R s m args below meth c Q E nL ws lv (va :: va :: rest) (pc + 1)) : VJ p l e R s m args below meth c Q E nL ws lv (va :: rest) pc := fun H locs ls hP hD hS hl => lv_dup C.1 C.2.1 hd hva (k H locs ls hP hD hS hl)
theorem v_dup2 (C : CX p s m args meth c cc nL own rt E) {va vb : Value} (hva : va.category = 1) (hvb : vb.category = 1) (hd : decode cc pc = .ok (.dup2, 1)) (k : VJ p l e R s m args below meth c Q E nL ws lv (va :: vb :: va :: vb :: rest) (pc + 1)) : VJ p l e R s m args below meth c Q E nL ws lv (va :: vb :: rest) pc := fun H locs ls hP hD hS hl => lv_dup2_11 C.1 C.2.1 hd hva hvb (k H locs ls hP hD hS hl)
theorem v_pop (C : CX p s m args meth c cc nL own rt E) {va : Value} (hva : va.category = 1) (hd : decode cc pc = .ok (.pop, 1)) (k : VJ p l e R s m args below meth c Q E nL ws lv (rest) (pc + 1)) : VJ p l e R s m args below meth c Q E nL ws lv (va :: rest) pc := fun H locs ls hP hD hS hl => lv_pop C.1 C.2.1 hd hva (k H locs ls hP hD hS hl)
theorem v_lcmp (C : CX p s m args meth c cc nL own rt E) {x y : Int64} (hd : decode cc pc = .ok (.lcmp, 1)) (k : VJ p l e R s m args below meth c Q E nL ws lv (.int (lg_cmp x y) :: rest) (pc + 1)) : VJ p l e R s m args below meth c Q E nL ws lv (.long y :: .long x :: rest) pc := fun H locs ls hP hD hS hl => W.lcmp C.1 C.2.1 hd (k H locs ls hP hD hS hl)
theorem v_iload_n (C : CX p s m args meth c cc nL own rt E) {kk : Fin 4} {i : Nat} {x : Int32} (q : Nat) (hd : decode cc pc = .ok (.iload_n kk, 1)) (hi : (kk : Nat) = i) (hq : lv[q]? = some (i, .int x)) (k : VJ p l e R s m args below meth c Q E nL ws lv (.int x :: rest) (pc + 1)) : VJ p l e R s m args below meth c Q E nL ws lv (rest) pc := fun H locs ls hP hD hS hl => lv_iload_n C.1 C.2.1 hd hi (lv_at hl q hq) (k H locs ls hP hD hS hl)
theorem v_iload (C : CX p s m args meth c cc nL own rt E) {i : Nat} {x : Int32} (q : Nat) (hd : decode cc pc = .ok (.iload i, 2)) (hq : lv[q]? = some (i, .int x)) (k : VJ p l e R s m args below meth c Q E nL ws lv (.int x :: rest) (pc + 2)) : VJ p l e R s m args below meth c Q E nL ws lv (rest) pc := fun H locs ls hP hD hS hl => lv_iload C.1 C.2.1 hd (lv_at hl q hq) (k H locs ls hP hD hS hl)
theorem v_lload_n (C : CX p s m args meth c cc nL own rt E) {kk : Fin 4} {i : Nat} {x : Int64} (q : Nat) (hd : decode cc pc = .ok (.lload_n kk, 1)) (hi : (kk : Nat) = i) (hq : lv[q]? = some (i, .long x)) (k : VJ p l e R s m args below meth c Q E nL ws lv (.long x :: rest) (pc + 1)) : VJ p l e R s m args below meth c Q E nL ws lv (rest) pc := fun H locs ls hP hD hS hl => lv_lload_n C.1 C.2.1 hd hi (lv_at hl q hq) (k H locs ls hP hD hS hl)
theorem v_lload (C : CX p s m args meth c cc nL own rt E) {i : Nat} {x : Int64} (q : Nat) (hd : decode cc pc = .ok (.lload i, 2)) (hq : lv[q]? = some (i, .long x)) (k : VJ p l e R s m args below meth c Q E nL ws lv (.long x :: rest) (pc + 2)) : VJ p l e R s m args below meth c Q E nL ws lv (rest) pc := fun H locs ls hP hD hS hl => lv_lload C.1 C.2.1 hd (lv_at hl q hq) (k H locs ls hP hD hS hl)
theorem v_aload_n (C : CX p s m args meth c cc nL own rt E) {kk : Fin 4} {i : Nat} {x : Nat} (q : Nat) (hd : decode cc pc = .ok (.aload_n kk, 1)) (hi : (kk : Nat) = i) (hq : lv[q]? = some (i, .ref x)) (k : VJ p l e R s m args below meth c Q E nL ws lv (.ref x :: rest) (pc + 1)) : VJ p l e R s m args below meth c Q E nL ws lv (rest) pc := fun H locs ls hP hD hS hl => lv_aload_n C.1 C.2.1 hd hi (lv_at hl q hq) (k H locs ls hP hD hS hl)
theorem v_aload (C : CX p s m args meth c cc nL own rt E) {i : Nat} {x : Nat} (q : Nat) (hd : decode cc pc = .ok (.aload i, 2)) (hq : lv[q]? = some (i, .ref x)) (k : VJ p l e R s m args below meth c Q E nL ws lv (.ref x :: rest) (pc + 2)) : VJ p l e R s m args below meth c Q E nL ws lv (rest) pc := fun H locs ls hP hD hS hl => lv_aload C.1 C.2.1 hd (lv_at hl q hq) (k H locs ls hP hD hS hl)
theorem v_aload_nN (C : CX p s m args meth c cc nL own rt E) {kk : Fin 4} {i : Nat} (q : Nat) (hd : decode cc pc = .ok (.aload_n kk, 1)) (hi : (kk : Nat) = i) (hq : lv[q]? = some (i, .null)) (k : VJ p l e R s m args below meth c Q E nL ws lv (.null :: rest) (pc + 1)) : VJ p l e R s m args below meth c Q E nL ws lv (rest) pc := fun H locs ls hP hD hS hl => lv_aload_nN C.1 C.2.1 hd hi (lv_at hl q hq) (k H locs ls hP hD hS hl)
theorem v_istore (C : CX p s m args meth c cc nL own rt E) {i : Nat} {x : Int32}  (hd : decode cc pc = .ok (.istore i, 2))  (hn : i < nL) (hlv : (i, Value.int x) :: lv.filter (fun q => !(q.1 == i) && !(q.1 + 1 == i && q.2.category == 2)) = lv') (k : VJ p l e R s m args below meth c Q E nL ws lv' rest (pc + 2)) : VJ p l e R s m args below meth c Q E nL ws lv (.int x :: rest) pc := fun H locs ls hP hD hS hl => lv_istore C.1 C.2.1 hd  hl hn hlv (fun ls1 hl1 => k H locs ls1 hP hD hS hl1)
theorem v_istore_n (C : CX p s m args meth c cc nL own rt E) {i : Nat} {x : Int32} {kk : Fin 4} (hd : decode cc pc = .ok (.istore_n kk, 1)) (hi : (kk : Nat) = i) (hn : i < nL) (hlv : (i, Value.int x) :: lv.filter (fun q => !(q.1 == i) && !(q.1 + 1 == i && q.2.category == 2)) = lv') (k : VJ p l e R s m args below meth c Q E nL ws lv' rest (pc + 1)) : VJ p l e R s m args below meth c Q E nL ws lv (.int x :: rest) pc := fun H locs ls hP hD hS hl => lv_istore_n C.1 C.2.1 hd hi hl hn hlv (fun ls1 hl1 => k H locs ls1 hP hD hS hl1)
theorem v_lstore (C : CX p s m args meth c cc nL own rt E) {i : Nat} {x : Int64}  (hd : decode cc pc = .ok (.lstore i, 2))  (hn : i + 1 < nL) (hlv : (i, Value.long x) :: lv.filter (fun q => !(q.1 == i) && (!(q.1 == i + 1) && !(q.1 + 1 == i && q.2.category == 2))) = lv') (k : VJ p l e R s m args below meth c Q E nL ws lv' rest (pc + 2)) : VJ p l e R s m args below meth c Q E nL ws lv (.long x :: rest) pc := fun H locs ls hP hD hS hl => lv_lstore C.1 C.2.1 hd  hl hn hlv (fun ls1 hl1 => k H locs ls1 hP hD hS hl1)
theorem v_lstore_n (C : CX p s m args meth c cc nL own rt E) {i : Nat} {x : Int64} {kk : Fin 4} (hd : decode cc pc = .ok (.lstore_n kk, 1)) (hi : (kk : Nat) = i) (hn : i + 1 < nL) (hlv : (i, Value.long x) :: lv.filter (fun q => !(q.1 == i) && (!(q.1 == i + 1) && !(q.1 + 1 == i && q.2.category == 2))) = lv') (k : VJ p l e R s m args below meth c Q E nL ws lv' rest (pc + 1)) : VJ p l e R s m args below meth c Q E nL ws lv (.long x :: rest) pc := fun H locs ls hP hD hS hl => lv_lstore_n C.1 C.2.1 hd hi hl hn hlv (fun ls1 hl1 => k H locs ls1 hP hD hS hl1)
theorem v_astore (C : CX p s m args meth c cc nL own rt E) {i : Nat} {x : Nat}  (hd : decode cc pc = .ok (.astore i, 2))  (hn : i < nL) (hlv : (i, Value.ref x) :: lv.filter (fun q => !(q.1 == i) && !(q.1 + 1 == i && q.2.category == 2)) = lv') (k : VJ p l e R s m args below meth c Q E nL ws lv' rest (pc + 2)) : VJ p l e R s m args below meth c Q E nL ws lv (.ref x :: rest) pc := fun H locs ls hP hD hS hl => lv_astore C.1 C.2.1 hd  hl hn hlv (fun ls1 hl1 => k H locs ls1 hP hD hS hl1)
theorem v_astore_n (C : CX p s m args meth c cc nL own rt E) {i : Nat} {x : Nat} {kk : Fin 4} (hd : decode cc pc = .ok (.astore_n kk, 1)) (hi : (kk : Nat) = i) (hn : i < nL) (hlv : (i, Value.ref x) :: lv.filter (fun q => !(q.1 == i) && !(q.1 + 1 == i && q.2.category == 2)) = lv') (k : VJ p l e R s m args below meth c Q E nL ws lv' rest (pc + 1)) : VJ p l e R s m args below meth c Q E nL ws lv (.ref x :: rest) pc := fun H locs ls hP hD hS hl => lv_astore_n C.1 C.2.1 hd hi hl hn hlv (fun ls1 hl1 => k H locs ls1 hP hD hS hl1)
theorem v_astore_nN (C : CX p s m args meth c cc nL own rt E) {i : Nat} {kk : Fin 4} (hd : decode cc pc = .ok (.astore_n kk, 1)) (hi : (kk : Nat) = i) (hn : i < nL) (hlv : (i, Value.null) :: lv.filter (fun q => !(q.1 == i) && !(q.1 + 1 == i && q.2.category == 2)) = lv') (k : VJ p l e R s m args below meth c Q E nL ws lv' rest (pc + 1)) : VJ p l e R s m args below meth c Q E nL ws lv (.null :: rest) pc := fun H locs ls hP hD hS hl => lv_astore_nN C.1 C.2.1 hd hi hl hn hlv (fun ls1 hl1 => k H locs ls1 hP hD hS hl1)
theorem v_iinc (C : CX p s m args meth c cc nL own rt E) {i : Nat} {n : Int} {x : Int32} (v : Int32) (q : Nat) (hd : decode cc pc = .ok (.iinc i n, 3)) (hq : lv[q]? = some (i, .int x)) (hv : x + Int32.ofInt n = v) (hn : i < nL) (hlv : (i, Value.int v) :: lv.filter (fun q => !(q.1 == i) && !(q.1 + 1 == i && q.2.category == 2)) = lv') (k : VJ p l e R s m args below meth c Q E nL ws lv' rest (pc + 3)) : VJ p l e R s m args below meth c Q E nL ws lv rest pc := fun H locs ls hP hD hS hl => lv_iinc C.1 C.2.1 hd hl hq hv hn hlv (fun ls1 hl1 => k H locs ls1 hP hD hS hl1)
theorem v_icmp_eq (C : CX p s m args meth c cc nL own rt E) {x y : Int32} {off : Int} (tgt : Nat) (hd : decode cc pc = .ok (.if_icmp .eq off, 3)) (ht : (pc : Int) + off = (tgt : Int)) (kt : x = y → VJ p l e R s m args below meth c Q E nL ws lv rest tgt) (kf : ¬ x = y → VJ p l e R s m args below meth c Q E nL ws lv rest (pc + 3)) : VJ p l e R s m args below meth c Q E nL ws lv (.int y :: .int x :: rest) pc := fun H locs ls hP hD hS hl => lv_icmp_eq C.1 C.2.1 hd ht (fun h => kt h H locs ls hP hD hS hl) (fun h => kf h H locs ls hP hD hS hl)
theorem v_if_eq (C : CX p s m args meth c cc nL own rt E) {x : Int32} {off : Int} (tgt : Nat) (hd : decode cc pc = .ok (.ifCond .eq off, 3)) (ht : (pc : Int) + off = (tgt : Int)) (kt : x = 0 → VJ p l e R s m args below meth c Q E nL ws lv rest tgt) (kf : ¬ x = 0 → VJ p l e R s m args below meth c Q E nL ws lv rest (pc + 3)) : VJ p l e R s m args below meth c Q E nL ws lv (.int x :: rest) pc := fun H locs ls hP hD hS hl => lv_if_eq C.1 C.2.1 hd ht (fun h => kt h H locs ls hP hD hS hl) (fun h => kf h H locs ls hP hD hS hl)
theorem v_icmp_ne (C : CX p s m args meth c cc nL own rt E) {x y : Int32} {off : Int} (tgt : Nat) (hd : decode cc pc = .ok (.if_icmp .ne off, 3)) (ht : (pc : Int) + off = (tgt : Int)) (kt : ¬ x = y → VJ p l e R s m args below meth c Q E nL ws lv rest tgt) (kf : x = y → VJ p l e R s m args below meth c Q E nL ws lv rest (pc + 3)) : VJ p l e R s m args below meth c Q E nL ws lv (.int y :: .int x :: rest) pc := fun H locs ls hP hD hS hl => lv_icmp_ne C.1 C.2.1 hd ht (fun h => kt h H locs ls hP hD hS hl) (fun h => kf h H locs ls hP hD hS hl)
theorem v_if_ne (C : CX p s m args meth c cc nL own rt E) {x : Int32} {off : Int} (tgt : Nat) (hd : decode cc pc = .ok (.ifCond .ne off, 3)) (ht : (pc : Int) + off = (tgt : Int)) (kt : ¬ x = 0 → VJ p l e R s m args below meth c Q E nL ws lv rest tgt) (kf : x = 0 → VJ p l e R s m args below meth c Q E nL ws lv rest (pc + 3)) : VJ p l e R s m args below meth c Q E nL ws lv (.int x :: rest) pc := fun H locs ls hP hD hS hl => lv_if_ne C.1 C.2.1 hd ht (fun h => kt h H locs ls hP hD hS hl) (fun h => kf h H locs ls hP hD hS hl)
theorem v_icmp_lt (C : CX p s m args meth c cc nL own rt E) {x y : Int32} {off : Int} (tgt : Nat) (hd : decode cc pc = .ok (.if_icmp .lt off, 3)) (ht : (pc : Int) + off = (tgt : Int)) (kt : x < y → VJ p l e R s m args below meth c Q E nL ws lv rest tgt) (kf : ¬ x < y → VJ p l e R s m args below meth c Q E nL ws lv rest (pc + 3)) : VJ p l e R s m args below meth c Q E nL ws lv (.int y :: .int x :: rest) pc := fun H locs ls hP hD hS hl => lv_icmp_lt C.1 C.2.1 hd ht (fun h => kt h H locs ls hP hD hS hl) (fun h => kf h H locs ls hP hD hS hl)
theorem v_if_lt (C : CX p s m args meth c cc nL own rt E) {x : Int32} {off : Int} (tgt : Nat) (hd : decode cc pc = .ok (.ifCond .lt off, 3)) (ht : (pc : Int) + off = (tgt : Int)) (kt : x < 0 → VJ p l e R s m args below meth c Q E nL ws lv rest tgt) (kf : ¬ x < 0 → VJ p l e R s m args below meth c Q E nL ws lv rest (pc + 3)) : VJ p l e R s m args below meth c Q E nL ws lv (.int x :: rest) pc := fun H locs ls hP hD hS hl => lv_if_lt C.1 C.2.1 hd ht (fun h => kt h H locs ls hP hD hS hl) (fun h => kf h H locs ls hP hD hS hl)
theorem v_icmp_ge (C : CX p s m args meth c cc nL own rt E) {x y : Int32} {off : Int} (tgt : Nat) (hd : decode cc pc = .ok (.if_icmp .ge off, 3)) (ht : (pc : Int) + off = (tgt : Int)) (kt : y ≤ x → VJ p l e R s m args below meth c Q E nL ws lv rest tgt) (kf : ¬ y ≤ x → VJ p l e R s m args below meth c Q E nL ws lv rest (pc + 3)) : VJ p l e R s m args below meth c Q E nL ws lv (.int y :: .int x :: rest) pc := fun H locs ls hP hD hS hl => lv_icmp_ge C.1 C.2.1 hd ht (fun h => kt h H locs ls hP hD hS hl) (fun h => kf h H locs ls hP hD hS hl)
theorem v_if_ge (C : CX p s m args meth c cc nL own rt E) {x : Int32} {off : Int} (tgt : Nat) (hd : decode cc pc = .ok (.ifCond .ge off, 3)) (ht : (pc : Int) + off = (tgt : Int)) (kt : 0 ≤ x → VJ p l e R s m args below meth c Q E nL ws lv rest tgt) (kf : ¬ 0 ≤ x → VJ p l e R s m args below meth c Q E nL ws lv rest (pc + 3)) : VJ p l e R s m args below meth c Q E nL ws lv (.int x :: rest) pc := fun H locs ls hP hD hS hl => lv_if_ge C.1 C.2.1 hd ht (fun h => kt h H locs ls hP hD hS hl) (fun h => kf h H locs ls hP hD hS hl)
theorem v_icmp_gt (C : CX p s m args meth c cc nL own rt E) {x y : Int32} {off : Int} (tgt : Nat) (hd : decode cc pc = .ok (.if_icmp .gt off, 3)) (ht : (pc : Int) + off = (tgt : Int)) (kt : y < x → VJ p l e R s m args below meth c Q E nL ws lv rest tgt) (kf : ¬ y < x → VJ p l e R s m args below meth c Q E nL ws lv rest (pc + 3)) : VJ p l e R s m args below meth c Q E nL ws lv (.int y :: .int x :: rest) pc := fun H locs ls hP hD hS hl => lv_icmp_gt C.1 C.2.1 hd ht (fun h => kt h H locs ls hP hD hS hl) (fun h => kf h H locs ls hP hD hS hl)
theorem v_if_gt (C : CX p s m args meth c cc nL own rt E) {x : Int32} {off : Int} (tgt : Nat) (hd : decode cc pc = .ok (.ifCond .gt off, 3)) (ht : (pc : Int) + off = (tgt : Int)) (kt : 0 < x → VJ p l e R s m args below meth c Q E nL ws lv rest tgt) (kf : ¬ 0 < x → VJ p l e R s m args below meth c Q E nL ws lv rest (pc + 3)) : VJ p l e R s m args below meth c Q E nL ws lv (.int x :: rest) pc := fun H locs ls hP hD hS hl => lv_if_gt C.1 C.2.1 hd ht (fun h => kt h H locs ls hP hD hS hl) (fun h => kf h H locs ls hP hD hS hl)
theorem v_icmp_le (C : CX p s m args meth c cc nL own rt E) {x y : Int32} {off : Int} (tgt : Nat) (hd : decode cc pc = .ok (.if_icmp .le off, 3)) (ht : (pc : Int) + off = (tgt : Int)) (kt : x ≤ y → VJ p l e R s m args below meth c Q E nL ws lv rest tgt) (kf : ¬ x ≤ y → VJ p l e R s m args below meth c Q E nL ws lv rest (pc + 3)) : VJ p l e R s m args below meth c Q E nL ws lv (.int y :: .int x :: rest) pc := fun H locs ls hP hD hS hl => lv_icmp_le C.1 C.2.1 hd ht (fun h => kt h H locs ls hP hD hS hl) (fun h => kf h H locs ls hP hD hS hl)
theorem v_if_le (C : CX p s m args meth c cc nL own rt E) {x : Int32} {off : Int} (tgt : Nat) (hd : decode cc pc = .ok (.ifCond .le off, 3)) (ht : (pc : Int) + off = (tgt : Int)) (kt : x ≤ 0 → VJ p l e R s m args below meth c Q E nL ws lv rest tgt) (kf : ¬ x ≤ 0 → VJ p l e R s m args below meth c Q E nL ws lv rest (pc + 3)) : VJ p l e R s m args below meth c Q E nL ws lv (.int x :: rest) pc := fun H locs ls hP hD hS hl => lv_if_le C.1 C.2.1 hd ht (fun h => kt h H locs ls hP hD hS hl) (fun h => kf h H locs ls hP hD hS hl)
theorem v_goto (C : CX p s m args meth c cc nL own rt E) {off : Int} (tgt : Nat) (hd : decode cc pc = .ok (.goto off, 3)) (ht : (pc : Int) + off = (tgt : Int)) (k : VJ p l e R s m args below meth c Q E nL ws lv rest tgt) : VJ p l e R s m args below meth c Q E nL ws lv rest pc := fun H locs ls hP hD hS hl => lv_goto C.1 C.2.1 hd ht (k H locs ls hP hD hS hl)
theorem v_ifnonnull (C : CX p s m args meth c cc nL own rt E) {x : Nat} {off : Int} (tgt : Nat) (hd : decode cc pc = .ok (.ifnonnull off, 3)) (ht : (pc : Int) + off = (tgt : Int)) (k : VJ p l e R s m args below meth c Q E nL ws lv rest tgt) : VJ p l e R s m args below meth c Q E nL ws lv (.ref x :: rest) pc := fun H locs ls hP hD hS hl => lv_ifnonnull C.1 C.2.1 hd ht (k H locs ls hP hD hS hl)
theorem v_ifnonnullN (C : CX p s m args meth c cc nL own rt E) {off : Int} (hd : decode cc pc = .ok (.ifnonnull off, 3)) (k : VJ p l e R s m args below meth c Q E nL ws lv rest (pc + 3)) : VJ p l e R s m args below meth c Q E nL ws lv (.null :: rest) pc := fun H locs ls hP hD hS hl => lv_ifnonnullN C.1 C.2.1 hd (k H locs ls hP hD hS hl)
theorem v_ifnull (C : CX p s m args meth c cc nL own rt E) {x : Nat} {off : Int} (hd : decode cc pc = .ok (.ifnull off, 3)) (k : VJ p l e R s m args below meth c Q E nL ws lv rest (pc + 3)) : VJ p l e R s m args below meth c Q E nL ws lv (.ref x :: rest) pc := fun H locs ls hP hD hS hl => lv_ifnull C.1 C.2.1 hd (k H locs ls hP hD hS hl)
theorem v_ifnullN (C : CX p s m args meth c cc nL own rt E) {off : Int} (tgt : Nat) (hd : decode cc pc = .ok (.ifnull off, 3)) (ht : (pc : Int) + off = (tgt : Int)) (k : VJ p l e R s m args below meth c Q E nL ws lv rest tgt) : VJ p l e R s m args below meth c Q E nL ws lv (.null :: rest) pc := fun H locs ls hP hD hS hl => lv_ifnullN C.1 C.2.1 hd ht (k H locs ls hP hD hS hl)
theorem v_tableIn (C : CX p s m args meth c cc nL own rt E) {dflt lo hi : Int} {offs : Array Int} {len : Nat} {x : Int32} {off : Int} (tgt : Nat) (hd : decode cc pc = .ok (.tableswitch dflt lo hi offs, len)) (h1 : ¬ x.toInt < lo) (h2 : ¬ hi < x.toInt) (ho : offs[(x.toInt - lo).toNat]? = some off) (ht : (pc : Int) + off = (tgt : Int)) (k : VJ p l e R s m args below meth c Q E nL ws lv rest tgt) : VJ p l e R s m args below meth c Q E nL ws lv (.int x :: rest) pc := fun H locs ls hP hD hS hl => lv_tableIn C.1 C.2.1 hd h1 h2 ho ht (k H locs ls hP hD hS hl)
theorem v_tableOut (C : CX p s m args meth c cc nL own rt E) {dflt lo hi : Int} {offs : Array Int} {len : Nat} {x : Int32} (tgt : Nat) (hd : decode cc pc = .ok (.tableswitch dflt lo hi offs, len)) (h1 : x.toInt < lo ∨ hi < x.toInt) (ht : (pc : Int) + dflt = (tgt : Int)) (k : VJ p l e R s m args below meth c Q E nL ws lv rest tgt) : VJ p l e R s m args below meth c Q E nL ws lv (.int x :: rest) pc := fun H locs ls hP hD hS hl => lv_tableOut C.1 C.2.1 hd h1 ht (k H locs ls hP hD hS hl)
theorem v_lookup (C : CX p s m args meth c cc nL own rt E) {dflt : Int} {ps : Array (Int × Int)} {len : Nat} {x : Int32} {off : Int} (tgt : Nat) (hd : decode cc pc = .ok (.lookupswitch dflt ps, len)) (hp : (ps.toList.zip (ps.toList.drop 1)).all (fun (a, next) => a.1 < next.1) = true) (ho : Op.lookupswitch.offset ps.toList dflt x.toInt = off) (ht : (pc : Int) + off = (tgt : Int)) (k : VJ p l e R s m args below meth c Q E nL ws lv rest tgt) : VJ p l e R s m args below meth c Q E nL ws lv (.int x :: rest) pc := fun H locs ls hP hD hS hl => lv_lookup C.1 C.2.1 hd hp ho ht (k H locs ls hP hD hS hl)
theorem v_get (C : CX p s m args meth c cc nL own rt E) {ref Cn : String} {T : u_T} {N ci index a : Nat} (hin : ∀ w ∈ u_ws Cn T N, w ∈ gw_tbl) (q0 : Nat) {fs : List Value} (he : ws[q0]? = some (a, .inr (ci, fs))) (hc : vwCl[ci]? = some (Cn, T, N)) (k : Nat) (hk : k < N) (hw : Cond.fieldLink own index ref (T k).2.1 (T k).2.2.1 ∈ gw_tbl) (href : (T k).1 = ref) {v : Value} (hv : fs[k]? = some v) (hd : decode cc pc = .ok (.getfield index, 3)) (kk : VJ p l e R s m args below meth c Q E nL ws lv (v :: rest) (pc + 3)) : VJ p l e R s m args below meth c Q E nL ws lv (.ref a :: rest) pc := fun H locs ls hP hD hS hl => va_get C.1 C.2.1 C.2.2.2.2.1 hin C.2.2.2.1 C.2.2.2.2.2.1 hP q0 he hc k hk (C.2.2.2.2.1 _ hw) (fun x hx => by rw [← href]; exact hx) hv hd (kk H locs ls hP hD hS hl)
theorem v_put (C : CX p s m args meth c cc nL own rt E) {ref Cn : String} {T : u_T} {N ci index a : Nat} (hin : ∀ w ∈ u_ws Cn T N, w ∈ gw_tbl) (ty0 : Nat → FieldType) (hty : ∀ k, k < N → parseFieldDescriptor (T k).2.2.1 = some (ty0 k)) (hnm : ∀ a, a < N → ∀ b, b < N → a ≠ b → (T a).2.1 ≠ (T b).2.1) (q0 : Nat) {fs : List Value} (he : ws[q0]? = some (a, .inr (ci, fs))) (hc : vwCl[ci]? = some (Cn, T, N)) (k : Nat) (hk : k < N) (hw : Cond.fieldLink own index ref (T k).2.1 (T k).2.2.1 ∈ gw_tbl) (href : (T k).1 = ref) (hfin : (T k).2.2.2 = false) {ty : FieldType} {v : Value} (hd0 : parseFieldDescriptor (T k).2.2.1 = some ty) (hn : narrow ty v = v) (hfit : fits ty v = true) (hl0 : k < fs.length) (hd : decode cc pc = .ok (.putfield index, 3)) (hset : ws.set q0 (a, .inr (ci, fs.set k v)) = ws') (kk : VJ p l e R s m args below meth c Q E nL ws' lv rest (pc + 3)) : VJ p l e R s m args below meth c Q E nL ws lv (v :: .ref a :: rest) pc := fun H locs ls hP hD hS hl => va_put C.1 C.2.1 C.2.2.2.2.1 hin ty0 hty hnm C.2.2.2.1 C.2.2.2.2.2.1 hP hD hS q0 he hc k hk (C.2.2.2.2.1 _ hw) (fun x hx => by rw [← href]; exact hx) hfin hd0 hn hfit hl0 hd (fun H1 locs1 hP1 hD1 hS1 => kk H1 locs1 ls (hset ▸ hP1) (hset ▸ hD1) hS1 hl)
theorem v_iald (C : CX p s m args meth c cc nL own rt E) {n a : Nat} {f : Nat → Int32} {cA : ClassId} (hcA : cA = E.2.1 0) (q0 : Nat) (he : ws[q0]? = some (a, .inl (cA, n, .inl f))) {i : Int32} (hin : vp_in i n) (hd : decode cc pc = .ok (.iaload, 1)) (kk : VJ p l e R s m args below meth c Q E nL ws lv (.int (f i.toNatClampNeg) :: rest) (pc + 1)) : VJ p l e R s m args below meth c Q E nL ws lv (.int i :: .ref a :: rest) pc := fun H locs ls hP hD hS hl => va_iald C.1 C.2.1 C.2.2.2.2.2.1 hP q0 0 he (by rw [hcA]; rfl) hin hd (kk H locs ls hP hD hS hl)
theorem v_bald (C : CX p s m args meth c cc nL own rt E) {n a : Nat} {f : Nat → Int32} {cA : ClassId} (hcA : cA = E.2.1 3) (q0 : Nat) (he : ws[q0]? = some (a, .inl (cA, n, .inl f))) {i : Int32} (hin : vp_in i n) (hd : decode cc pc = .ok (.baload, 1)) (kk : VJ p l e R s m args below meth c Q E nL ws lv (.int (f i.toNatClampNeg) :: rest) (pc + 1)) : VJ p l e R s m args below meth c Q E nL ws lv (.int i :: .ref a :: rest) pc := fun H locs ls hP hD hS hl => va_bald C.1 C.2.1 C.2.2.2.2.2.1 hP q0 3 he (by rw [hcA]; rfl) hin hd (kk H locs ls hP hD hS hl)
theorem v_zald (C : CX p s m args meth c cc nL own rt E) {n a : Nat} {f : Nat → Int32} {cA : ClassId} (hcA : cA = E.2.1 2) (q0 : Nat) (he : ws[q0]? = some (a, .inl (cA, n, .inl f))) {i : Int32} (hin : vp_in i n) (hd : decode cc pc = .ok (.baload, 1)) (kk : VJ p l e R s m args below meth c Q E nL ws lv (.int (f i.toNatClampNeg) :: rest) (pc + 1)) : VJ p l e R s m args below meth c Q E nL ws lv (.int i :: .ref a :: rest) pc := fun H locs ls hP hD hS hl => va_zald C.1 C.2.1 C.2.2.2.2.2.1 hP q0 2 he (by rw [hcA]; rfl) hin hd (kk H locs ls hP hD hS hl)
theorem v_lald (C : CX p s m args meth c cc nL own rt E) {n a : Nat} {f : Nat → Int64} {cA : ClassId} (hcA : cA = E.2.1 1) (q0 : Nat) (he : ws[q0]? = some (a, .inl (cA, n, .inr (.inl f)))) {i : Int32} (hin : vp_in i n) (hd : decode cc pc = .ok (.laload, 1)) (kk : VJ p l e R s m args below meth c Q E nL ws lv (.long (f i.toNatClampNeg) :: rest) (pc + 1)) : VJ p l e R s m args below meth c Q E nL ws lv (.int i :: .ref a :: rest) pc := fun H locs ls hP hD hS hl => va_lald C.1 C.2.1 C.2.2.2.2.2.1 hP q0 1 he (by rw [hcA]; rfl) hin hd (kk H locs ls hP hD hS hl)
theorem v_aald (C : CX p s m args meth c cc nL own rt E) {n a t0 : Nat} {f : Nat → Option Nat} {cA : ClassId} {Cn : String} (ht : (tyE E)[t0]? = some (cA, .object Cn)) (q0 : Nat) (he : ws[q0]? = some (a, .inl (cA, n, .inr (.inr (.inr (.inr f)))))) {i : Int32} (hin : vp_in i n) {b : Nat} (hb : f i.toNatClampNeg = some b) (hd : decode cc pc = .ok (.aaload, 1)) (kk : VJ p l e R s m args below meth c Q E nL ws lv (.ref b :: rest) (pc + 1)) : VJ p l e R s m args below meth c Q E nL ws lv (.int i :: .ref a :: rest) pc := fun H locs ls hP hD hS hl => va_aldq C.1 C.2.1 C.2.2.2.2.2.1 hP q0 t0 he ht hin hd (by rw [hb]; exact kk H locs ls hP hD hS hl)
theorem v_iast (C : CX p s m args meth c cc nL own rt E) {n a : Nat} {f : Nat → Int32} {cA : ClassId} (hcA : cA = E.2.1 0) (q0 : Nat) (he : ws[q0]? = some (a, .inl (cA, n, .inl f))) {i x : Int32} (hin : vp_in i n) (hd : decode cc pc = .ok (.iastore, 1)) (hset : ws.set q0 (a, .inl (cA, n, .inl (upd f i.toNatClampNeg x))) = ws') (kk : VJ p l e R s m args below meth c Q E nL ws' lv rest (pc + 1)) : VJ p l e R s m args below meth c Q E nL ws lv (.int x :: .int i :: .ref a :: rest) pc := fun H locs ls hP hD hS hl => va_iast C.1 C.2.1 C.2.2.2.2.2.1 hP hD hS q0 0 he (by rw [hcA]; rfl) hin hd (fun H1 locs1 hP1 hD1 hS1 => kk H1 locs1 ls (hset ▸ hP1) (hset ▸ hD1) hS1 hl)
theorem v_bast (C : CX p s m args meth c cc nL own rt E) {n a : Nat} {f : Nat → Int32} {cA : ClassId} (hcA : cA = E.2.1 3) (q0 : Nat) (he : ws[q0]? = some (a, .inl (cA, n, .inl f))) {i x : Int32} (hin : vp_in i n) (hd : decode cc pc = .ok (.bastore, 1)) (hset : ws.set q0 (a, .inl (cA, n, .inl (upd f i.toNatClampNeg (vp_nar .byte x)))) = ws') (kk : VJ p l e R s m args below meth c Q E nL ws' lv rest (pc + 1)) : VJ p l e R s m args below meth c Q E nL ws lv (.int x :: .int i :: .ref a :: rest) pc := fun H locs ls hP hD hS hl => va_bast C.1 C.2.1 C.2.2.2.2.2.1 hP hD hS q0 3 he (by rw [hcA]; rfl) hin hd (fun H1 locs1 hP1 hD1 hS1 => kk H1 locs1 ls (hset ▸ hP1) (hset ▸ hD1) hS1 hl)
theorem v_zast (C : CX p s m args meth c cc nL own rt E) {n a : Nat} {f : Nat → Int32} {cA : ClassId} (hcA : cA = E.2.1 2) (q0 : Nat) (he : ws[q0]? = some (a, .inl (cA, n, .inl f))) {i x : Int32} (hin : vp_in i n) (hd : decode cc pc = .ok (.bastore, 1)) (hset : ws.set q0 (a, .inl (cA, n, .inl (upd f i.toNatClampNeg (vp_nar .boolean x)))) = ws') (kk : VJ p l e R s m args below meth c Q E nL ws' lv rest (pc + 1)) : VJ p l e R s m args below meth c Q E nL ws lv (.int x :: .int i :: .ref a :: rest) pc := fun H locs ls hP hD hS hl => va_zast C.1 C.2.1 C.2.2.2.2.2.1 hP hD hS q0 2 he (by rw [hcA]; rfl) hin hd (fun H1 locs1 hP1 hD1 hS1 => kk H1 locs1 ls (hset ▸ hP1) (hset ▸ hD1) hS1 hl)
theorem v_last (C : CX p s m args meth c cc nL own rt E) {n a : Nat} {f : Nat → Int64} {cA : ClassId} (hcA : cA = E.2.1 1) (q0 : Nat) (he : ws[q0]? = some (a, .inl (cA, n, .inr (.inl f)))) {i : Int32} {x : Int64} (hin : vp_in i n) (hd : decode cc pc = .ok (.lastore, 1)) (hset : ws.set q0 (a, .inl (cA, n, .inr (.inl (vp_updL f i.toNatClampNeg x)))) = ws') (kk : VJ p l e R s m args below meth c Q E nL ws' lv rest (pc + 1)) : VJ p l e R s m args below meth c Q E nL ws lv (.long x :: .int i :: .ref a :: rest) pc := fun H locs ls hP hD hS hl => va_last C.1 C.2.1 C.2.2.2.2.2.1 hP hD hS q0 1 he (by rw [hcA]; rfl) hin hd (fun H1 locs1 hP1 hD1 hS1 => kk H1 locs1 ls (hset ▸ hP1) (hset ▸ hD1) hS1 hl)
theorem v_alen (C : CX p s m args meth c cc nL own rt E) {a t0 : Nat} {cA : ClassId} {x : vp_A} {ty : FieldType} (ht : (tyE E)[t0]? = some (cA, ty)) (q0 : Nat) (he : ws[q0]? = some (a, .inl (cA, x))) {v : Int32} (hv : Int32.ofNat x.1 = v) (hd : decode cc pc = .ok (.arraylength, 1)) (kk : VJ p l e R s m args below meth c Q E nL ws lv (.int v :: rest) (pc + 1)) : VJ p l e R s m args below meth c Q E nL ws lv (.ref a :: rest) pc := fun H locs ls hP hD hS hl => va_alen C.1 C.2.1 C.2.2.2.2.2.1 hP q0 t0 he ht hv hd (kk H locs ls hP hD hS hl)
theorem v_gets (C : CX p s m args meth c cc nL own rt E) {Cn n d ref : String} {v : Value} {index : Nat} (hZ : va_Z Cn n d v E.2.2.2.1 s s.heap) (hw : Cond.fieldLink own index ref n d ∈ gw_tbl) (href : Cn = ref) (hd : decode cc pc = .ok (.getstatic index, 3)) (kk : VJ p l e R s m args below meth c Q E nL ws lv (v :: rest) (pc + 3)) : VJ p l e R s m args below meth c Q E nL ws lv rest pc := fun H locs ls hP hD hS hl => va_gets C.1 C.2.1 hZ hS C.2.2.2.1 (C.2.2.2.2.1 _ hw) (fun x hx => by rw [← href]; exact hx) hd (kk H locs ls hP hD hS hl)
theorem v_ti (C : CX p s m args meth c cc nL own rt E) {t N : Nat} {f : Nat → Int32} (hT : va_T .int t N (fun j => .int (f j)) E.2.2.2.1 s s.heap) {i : Int32} (hin : vp_in i N) (hd : decode cc pc = .ok (.iaload, 1)) (kk : VJ p l e R s m args below meth c Q E nL ws lv (.int (f i.toNatClampNeg) :: rest) (pc + 1)) : VJ p l e R s m args below meth c Q E nL ws lv (.int i :: .ref t :: rest) pc := fun H locs ls hP hD hS hl => va_ti C.1 C.2.1 hT hS hin rfl hd (kk H locs ls hP hD hS hl)
theorem v_tlen (C : CX p s m args meth c cc nL own rt E) {ty : FieldType} {t N : Nat} {f : Nat → Value} (hT : va_T ty t N f E.2.2.2.1 s s.heap) {v : Int32} (hv : Int32.ofNat N = v) (hd : decode cc pc = .ok (.arraylength, 1)) (kk : VJ p l e R s m args below meth c Q E nL ws lv (.int v :: rest) (pc + 1)) : VJ p l e R s m args below meth c Q E nL ws lv (.ref t :: rest) pc := fun H locs ls hP hD hS hl => va_tlen C.1 C.2.1 hT hS hv hd (kk H locs ls hP hD hS hl)
theorem v_ldcS (C : CX p s m args meth c cc nL own rt E) {tx : String} {index q : Nat} (hZ : vk_R own index tx q s) (hd : decode cc pc = .ok (.ldc index, 2)) (kk : VJ p l e R s m args below meth c Q E nL ws lv (.ref q :: rest) (pc + 2)) : VJ p l e R s m args below meth c Q E nL ws lv rest pc := fun H locs ls hP hD hS hl => va_ldcS C.1 C.2.1 C.2.2.2.1 hZ hd (kk H locs ls hP hD hS hl)

theorem wld_end (C : CX p s m args meth c cc nL own rt E) {H : Heap} {locs : List Loc} (hP : va_P E.1 vwCl ws H) (hD : va_D E.2.2.2.1 ws) (hS : va_S E.2.2.2.1 s.heap H locs) {v : Option Value} (t : State) (ht : t.heap = H) (hW : s.WarmedH t.vm) : QCt E ws v args s (.returned v) t :=
  ⟨rfl, ⟨by rw [ht]; exact hP, hD, va_K.moved hW.alike C.2.2.2.2.2.1, by rw [ht]; exact SF.moved hW (C.2.2.2.2.2.2.1.kept (fun a h1 h2 => hS.2.1 a h1 h2))⟩, hS.F ht⟩
theorem v_iret (C : CX p s m args meth c cc nL own rt E) {x : Int32} (hrt : rt = some .int) (hd : decode cc pc = .ok (.ireturn, 1)) : VJ p l e R s m args below meth c (QE below E ws (some (.int x)) args s) E nL ws lv [.int x] pc := fun H locs ls hP hD hS hl => W.iret C.1 C.2.1 (C.2.2.2.2.2.2.2.1.trans hrt) (fun t ht hW => wld_end C hP hD hS t ht hW) hS.2.2 hd C.2.2.2.2.2.2.2.2
theorem v_zret (C : CX p s m args meth c cc nL own rt E) {x : Int32} {ty : FieldType} (hrt : rt = some ty) (hn : narrow ty (.int x) = .int x) (hd : decode cc pc = .ok (.ireturn, 1)) : VJ p l e R s m args below meth c (QE below E ws (some (.int x)) args s) E nL ws lv [.int x] pc := fun H locs ls hP hD hS hl => W.zret C.1 C.2.1 (C.2.2.2.2.2.2.2.1.trans hrt) hn (fun t ht hW => wld_end C hP hD hS t ht hW) hS.2.2 hd C.2.2.2.2.2.2.2.2
theorem v_lret (C : CX p s m args meth c cc nL own rt E) {x : Int64} (hrt : rt = some .long) (hd : decode cc pc = .ok (.lreturn, 1)) : VJ p l e R s m args below meth c (QE below E ws (some (.long x)) args s) E nL ws lv [.long x] pc := fun H locs ls hP hD hS hl => W.lret C.1 C.2.1 (C.2.2.2.2.2.2.2.1.trans hrt) (fun t ht hW => wld_end C hP hD hS t ht hW) hS.2.2 hd C.2.2.2.2.2.2.2.2
theorem v_vret (C : CX p s m args meth c cc nL own rt E) (hrt : rt = none) (hd : decode cc pc = .ok (.return_, 1)) : VJ p l e R s m args below meth c (QE below E ws none args s) E nL ws lv [] pc := fun H locs ls hP hD hS hl => W.vret C.1 C.2.1 (C.2.2.2.2.2.2.2.1.trans hrt) (fun t ht hW => wld_end C hP hD hS t ht hW) hS.2.2 hd C.2.2.2.2.2.2.2.2
theorem v_aret (C : CX p s m args meth c cc nL own rt E) {v : Value} {r0 : FieldType} (hrt : rt = some r0) (ho : ∃ n, r0 = .object n) (hv : v = .null ∨ ∃ a, v = .ref a) (hd : decode cc pc = .ok (.areturn, 1)) : VJ p l e R s m args below meth c (QE below E ws (some v) args s) E nL ws lv [v] pc := fun H locs ls hP hD hS hl => W.aret C.1 C.2.1 (C.2.2.2.2.2.2.2.1.trans hrt) (Or.inl ho) hv (fun t ht hW => wld_end C hP hD hS t ht hW) hS.2.2 hd C.2.2.2.2.2.2.2.2

theorem vj_run {L : Nat} {v : Option Value} (hr : ∀ (H : Heap) (locs : List Loc) (ls : Array Slot), va_P E.1 vwCl ws H → va_D E.2.2.2.1 ws → va_S E.2.2.2.1 s.heap H locs → lv_has ls nL lv → ∃ a, va_Run p l e (rmL L) s m args below meth c H locs 0 0 0 0 (F0 m pc ls stk) rest (QCt E ws' v a) E.2.2.2.1)
    (kk : VJ p l e (rmL L) s m args below meth c Q E nL ws' lv (v.toList ++ rest) (pc + 3)) : VJ p l e (rmL L) s m args below meth c Q E nL ws lv stk pc := by
  intro H locs ls hP hD hS hl T hT X
  obtain ⟨a, hr⟩ := hr H locs ls hP hD hS hl
  obtain ⟨v', st₀, t, T', L0, h0, X', hL, e1, e2, ⟨hv, hw, hF⟩, st⟩ := hr T hT X
  cases hv
  obtain ⟨hz, hk⟩ := hF
  rw [h0] at hz hk
  obtain ⟨t2, a1, b1⟩ := kk T'.heap (locs ++ L0) ls (by rw [e1]; exact hw.1) hw.2.1
    ⟨Nat.le_trans hS.1 (by rw [e1]; exact hz), fun q h1 h2 => by rw [e1, hk q (Nat.lt_of_lt_of_le h1 hS.1) h2]; exact hS.2.1 q h1 h2, fun q hq => by
      rcases List.mem_append.mp hq with h | h
      · exact hS.2.2 q h
      · exact hL q h⟩ hl T' rfl X'
  exact ⟨t2, st t2 a1, b1⟩
/-- what the tables say of a method: an instance's, a static one -/
def wmV (y : MethodName) (cc : ByteArray) (maxL : Nat) (rt : Option FieldType) (n : Nat) : Prop :=
  Cond.code y cc maxL rt ∈ gw_tbl ∧ Cond.instanceMethod y ∈ gw_tbl ∧ Cond.selects y.cls y y ∈ gw_tbl ∧ Cond.initialized y.cls ∈ gw_tbl ∧ (y.cls ≠ "java/lang/invoke/MethodHandle" ∧ y.cls ≠ "java/lang/invoke/VarHandle" ∧ (parseMethodDescriptor y.desc).map (fun d => d.parameters.length) = some n)
def wmS (y : MethodName) (cc : ByteArray) (maxL : Nat) (rt : Option FieldType) (n : Nat) : Prop :=
  Cond.code y cc maxL rt ∈ gw_tbl ∧ Cond.static y ∈ gw_tbl ∧ Cond.initialized y.cls ∈ gw_tbl ∧ (y.cls ≠ "java/lang/invoke/MethodHandle" ∧ y.cls ≠ "java/lang/invoke/VarHandle" ∧ (parseMethodDescriptor y.desc).map (fun d => d.parameters.length) = some n)
theorem goodIn_code {y : MethodName} {cc' : ByteArray} {maxL : Nat} {rt' : Option FieldType} (h : Cond.code y cc' maxL rt' ∈ gw_tbl) : GoodIn gw_tbl (.code y cc' maxL rt' :: gw_tbl) := gw_goodIn fun w hw => (List.mem_cons.mp hw).elim (fun e => e ▸ h) id
theorem pcB {av : List Value} : FrameBlind (va_Pc av (WLD E ws)) := fun _ _ _ _ q => ⟨q.1, q.2.calling⟩
theorem pcU (C : CX p s m args meth c cc nL own rt E) {av : List Value} {H : Heap} {locs : List Loc} (hP : va_P E.1 vwCl ws H) (hD : va_D E.2.2.2.1 ws) (hS : va_S E.2.2.2.1 s.heap H locs) (U : State) (hU : U.heap = H) (hW : s.WarmedH U.vm) : va_Pc av (WLD E ws) av.toArray U :=
  ⟨rfl, by rw [hU]; exact hP, hD, va_K.moved hW.alike C.2.2.2.2.2.1, by rw [hU]; exact SF.moved hW (C.2.2.2.2.2.2.1.kept (fun a h1 h2 => hS.2.1 a h1 h2))⟩
theorem v_callV (C : CX p s m args meth c cc nL own rt E) {L L' : Nat} {y : MethodName} {cc' : ByteArray} {maxL index b n : Nat} {rt' : Option FieldType} {As : List Value} {v : Option Value} (hM : MT l E y cc' maxL rt' L' (.ref b :: As) ws ws' v) (hm : wmV y cc' maxL rt' n) (hw : Cond.methodLink own index y ∈ gw_tbl) (hL : L' + 1 ≤ L) (hmx : maxL ≤ 20) (hn : As.length = n) (q0 : Nat) {ci N : Nat} {fs : List Value} {T : u_T} (he : ws[q0]? = some (b, .inr (ci, fs))) (hc : vwCl[ci]? = some (y.cls, T, N)) (hst : stk = As.reverse ++ .ref b :: rest) (hcat : (rest.map fun v => v.category).sum ≤ 8) (hd : decode cc pc = .ok (.invokevirtual index, 3)) (kk : VJ p l e (rmL L) s m args below meth c Q E nL ws' lv (v.toList ++ rest) (pc + 3)) : VJ p l e (rmL L) s m args below meth c Q E nL ws lv stk pc := by
  refine vj_run (fun H locs ls hP hD hS hl => ?_) kk
  obtain ⟨h1, h2, h3, h4, h5, h6, h7⟩ := hm
  have ht := C.2.2.2.2.1
  have cw : CallW (rmL L) s args own y.cls index y cc' maxL rt' (.code y cc' maxL rt' :: gw_tbl) (rmL L') 0 0 n := ⟨callB_of n ht (goodIn_code h1) rfl rfl rfl (ht _ h4) (ht _ hw) ⟨h5, h6, h7⟩ ⟨hL, by show 8 + (maxL + 11) + 40 * L' ≤ 40 * L; omega⟩, ht _ h2, ht _ h3⟩
  exact ⟨_, va_runV (As := As) (rest := rest) ⟨C.1, C.2.1, C.2.2.1, C.2.2.2.1, ht⟩ hM cw ⟨pcB, va_recv C.2.2.2.2.2.1 hP hc he, fun U hU hW => pcU C hP hD hS U hU hW⟩ rfl hn hl.1 hst (lv_room hcat) hd ⟨Nat.le_refl _, Nat.le_refl _⟩⟩
theorem v_callS (C : CX p s m args meth c cc nL own rt E) {L L' : Nat} {y : MethodName} {cc' : ByteArray} {maxL index n : Nat} {rt' : Option FieldType} {As : List Value} {v : Option Value} (hM : MT l E y cc' maxL rt' L' As ws ws' v) (hm : wmS y cc' maxL rt' n) (hw : Cond.methodLink own index y ∈ gw_tbl) (hL : L' + 1 ≤ L) (hmx : maxL ≤ 20) (hn : As.length = n) (hst : stk = As.reverse ++ rest) (hcat : (rest.map fun v => v.category).sum ≤ 8) (hd : decode cc pc = .ok (.invokestatic index, 3)) (kk : VJ p l e (rmL L) s m args below meth c Q E nL ws' lv (v.toList ++ rest) (pc + 3)) : VJ p l e (rmL L) s m args below meth c Q E nL ws lv stk pc := by
  refine vj_run (fun H locs ls hP hD hS hl => ?_) kk
  obtain ⟨h1, h2, h4, h5, h6, h7⟩ := hm
  have ht := C.2.2.2.2.1
  exact ⟨_, va_runS (As := As) (rest := rest) ⟨C.1, C.2.1, C.2.2.1, C.2.2.2.1, ht⟩ hM ⟨callB_of n ht (goodIn_code h1) rfl rfl rfl (ht _ h4) (ht _ hw) ⟨h5, h6, h7⟩ ⟨hL, by show 8 + (maxL + 11) + 40 * L' ≤ 40 * L; omega⟩, ht _ h2⟩ ⟨pcB, fun U hU hW => pcU C hP hD hS U hU hW⟩ rfl hn hl.1 hst (lv_room hcat) hd ⟨Nat.le_refl _, Nat.le_refl _⟩⟩

theorem v_mmax (C : CX p s m args meth c cc nL own rt E) {L : Nat} {index : Nat} (hL : 1 ≤ L) {x y : Int32} (hw : Cond.methodLink own index Lib.Math.max.name ∈ gw_tbl) (hw1 : Cond.static Lib.Math.max.name ∈ gw_tbl) (hw2 : Cond.initialized "java/lang/Math" ∈ gw_tbl) (hw3 : Cond.code Lib.Math.max.name Lib.Math.max.code 2 (some .int) ∈ gw_tbl) (hcat : (rest.map fun v => v.category).sum ≤ 8) (hd : decode cc pc = .ok (.invokestatic index, 3)) (kk : VJ p l e (rmL L) s m args below meth c Q E nL ws lv (.int (if x < y then y else x) :: rest) (pc + 3)) : VJ p l e (rmL L) s m args below meth c Q E nL ws lv (.int y :: .int x :: rest) pc := fun H locs ls hP hD hS hl => va_mmax C.1 C.2.1 (C.2.2.1.trans hl.1.symm) C.2.2.2.1 (C.2.2.2.2.1 _ hw) (C.2.2.2.2.1 _ hw1) (C.2.2.2.2.1 _ hw2) (C.2.2.2.2.1 _ hw3) hL (by show _ + 13 ≤ 40 * L; omega) (Nat.le_refl _) (Nat.le_refl _) hd (kk H locs ls hP hD hS hl)
theorem v_mmin (C : CX p s m args meth c cc nL own rt E) {L : Nat} {index : Nat} (hL : 1 ≤ L) {x y : Int32} (hw : Cond.methodLink own index Lib.Math.min.name ∈ gw_tbl) (hw1 : Cond.static Lib.Math.min.name ∈ gw_tbl) (hw2 : Cond.initialized "java/lang/Math" ∈ gw_tbl) (hw3 : Cond.code Lib.Math.min.name Lib.Math.min.code 2 (some .int) ∈ gw_tbl) (hcat : (rest.map fun v => v.category).sum ≤ 8) (hd : decode cc pc = .ok (.invokestatic index, 3)) (kk : VJ p l e (rmL L) s m args below meth c Q E nL ws lv (.int (if y < x then y else x) :: rest) (pc + 3)) : VJ p l e (rmL L) s m args below meth c Q E nL ws lv (.int y :: .int x :: rest) pc := fun H locs ls hP hD hS hl => va_mmin C.1 C.2.1 (C.2.2.1.trans hl.1.symm) C.2.2.2.1 (C.2.2.2.2.1 _ hw) (C.2.2.2.2.1 _ hw1) (C.2.2.2.2.1 _ hw2) (C.2.2.2.2.1 _ hw3) hL (by show _ + 13 ≤ 40 * L; omega) (Nat.le_refl _) (Nat.le_refl _) hd (kk H locs ls hP hD hS hl)
theorem v_mabs (C : CX p s m args meth c cc nL own rt E) {L : Nat} {index : Nat} (hL : 1 ≤ L) {x : Int32} (hw : Cond.methodLink own index Lib.Math.abs.name ∈ gw_tbl) (hw1 : Cond.static Lib.Math.abs.name ∈ gw_tbl) (hw2 : Cond.initialized "java/lang/Math" ∈ gw_tbl) (hw3 : Cond.code Lib.Math.abs.name Lib.Math.abs.code 1 (some .int) ∈ gw_tbl) (hcat : (rest.map fun v => v.category).sum ≤ 8) (hd : decode cc pc = .ok (.invokestatic index, 3)) (kk : VJ p l e (rmL L) s m args below meth c Q E nL ws lv (.int (if 0 ≤ x then x else 0 - x) :: rest) (pc + 3)) : VJ p l e (rmL L) s m args below meth c Q E nL ws lv (.int x :: rest) pc := fun H locs ls hP hD hS hl => va_mabs C.1 C.2.1 (C.2.2.1.trans hl.1.symm) C.2.2.2.1 (C.2.2.2.2.1 _ hw) (C.2.2.2.2.1 _ hw1) (C.2.2.2.2.1 _ hw2) (C.2.2.2.2.1 _ hw3) hL (by show _ + 13 ≤ 40 * L; omega) (Nat.le_refl _) (Nat.le_refl _) hd (kk H locs ls hP hD hS hl)
theorem v_copyi (C : CX p s m args meth c cc nL own rt E) {L : Nat} {index : Nat} (hL : 2 ≤ L) (hw : Cond.methodLink own index arraycopyName ∈ gw_tbl) (hw1 : Cond.native arraycopyName ∈ gw_tbl) (hw2 : Cond.static arraycopyName ∈ gw_tbl) (hw3 : Cond.initialized "java/lang/System" ∈ gw_tbl) (q0 q1 : Nat) {a a0 n0 n1 : Nat} {f g : Nat → Int32} {c0 c1 : ClassId} (hc0 : c0 = E.2.1 0) (hc1 : c1 = E.2.1 0) (ha0 : ws[q0]? = some (a0, .inl (c0, n0, .inl f))) (ha1 : ws[q1]? = some (a, .inl (c1, n1, .inl g))) {sp dp n : Int32} (h1 : ¬ sp < 0) (h2 : ¬ dp < 0) (h3 : ¬ n < 0) (h4 : sp.toNatClampNeg + n.toNatClampNeg ≤ n0) (h5 : dp.toNatClampNeg + n.toNatClampNeg ≤ n1) (hcat : (rest.map fun v => v.category).sum ≤ 8) (hd : decode cc pc = .ok (.invokestatic index, 3)) (hset : ws.set q1 (a, .inl (c1, n1, .inl (va_cpy f g sp.toNatClampNeg dp.toNatClampNeg n.toNatClampNeg))) = ws') (kk : VJ p l e (rmL L) s m args below meth c Q E nL ws' lv rest (pc + 3)) : VJ p l e (rmL L) s m args below meth c Q E nL ws lv (.int n :: .int dp :: .ref a :: .int sp :: .ref a0 :: rest) pc := fun H locs ls hP hD hS hl => va_copyi C.1 C.2.1 (C.2.2.1.trans hl.1.symm) C.2.2.2.1 (C.2.2.2.2.1 _ hw) (C.2.2.2.2.1 _ hw1) (C.2.2.2.2.1 _ hw2) (C.2.2.2.2.1 _ hw3) C.2.2.2.2.2.1 hP hD hS q0 q1 0 0 ha0 ha1 (by rw [hc0]; rfl) (by rw [hc1]; rfl) rfl h1 h2 h3 h4 h5 (fun i hi => rfl) (by show 1 ≤ L; omega) (by
    have h9 : nativeFrameWords "java/lang/System" "arraycopy" 5 ≤ 40 := by decide +kernel
    show _ + _ ≤ 40 * L
    omega) hd (fun H1 locs1 hP1 hD1 hS1 => kk H1 locs1 ls (hset ▸ hP1) (hset ▸ hD1) hS1 hl)
theorem v_copyl (C : CX p s m args meth c cc nL own rt E) {L : Nat} {index : Nat} (hL : 2 ≤ L) (hw : Cond.methodLink own index arraycopyName ∈ gw_tbl) (hw1 : Cond.native arraycopyName ∈ gw_tbl) (hw2 : Cond.static arraycopyName ∈ gw_tbl) (hw3 : Cond.initialized "java/lang/System" ∈ gw_tbl) (q0 q1 : Nat) {a a0 n0 n1 : Nat} {f g : Nat → Int64} {c0 c1 : ClassId} (hc0 : c0 = E.2.1 1) (hc1 : c1 = E.2.1 1) (ha0 : ws[q0]? = some (a0, .inl (c0, n0, .inr (.inl f)))) (ha1 : ws[q1]? = some (a, .inl (c1, n1, .inr (.inl g)))) {sp dp n : Int32} (h1 : ¬ sp < 0) (h2 : ¬ dp < 0) (h3 : ¬ n < 0) (h4 : sp.toNatClampNeg + n.toNatClampNeg ≤ n0) (h5 : dp.toNatClampNeg + n.toNatClampNeg ≤ n1) (hcat : (rest.map fun v => v.category).sum ≤ 8) (hd : decode cc pc = .ok (.invokestatic index, 3)) (hset : ws.set q1 (a, .inl (c1, n1, .inr (.inl (va_cpy f g sp.toNatClampNeg dp.toNatClampNeg n.toNatClampNeg)))) = ws') (kk : VJ p l e (rmL L) s m args below meth c Q E nL ws' lv rest (pc + 3)) : VJ p l e (rmL L) s m args below meth c Q E nL ws lv (.int n :: .int dp :: .ref a :: .int sp :: .ref a0 :: rest) pc := fun H locs ls hP hD hS hl => va_copyl C.1 C.2.1 (C.2.2.1.trans hl.1.symm) C.2.2.2.1 (C.2.2.2.2.1 _ hw) (C.2.2.2.2.1 _ hw1) (C.2.2.2.2.1 _ hw2) (C.2.2.2.2.1 _ hw3) C.2.2.2.2.2.1 hP hD hS q0 q1 1 1 ha0 ha1 (by rw [hc0]; rfl) (by rw [hc1]; rfl) rfl h1 h2 h3 h4 h5 (fun i hi => rfl) (by show 1 ≤ L; omega) (by
    have h9 : nativeFrameWords "java/lang/System" "arraycopy" 5 ≤ 40 := by decide +kernel
    show _ + _ ≤ 40 * L
    omega) hd (fun H1 locs1 hP1 hD1 hS1 => kk H1 locs1 ls (hset ▸ hP1) (hset ▸ hD1) hS1 hl)
end VJR
end
section
def wmI (y : MethodName) (cc : ByteArray) (maxL : Nat) (n : Nat) : Prop :=
  Cond.code y cc maxL none ∈ gw_tbl ∧ Cond.instanceMethod y ∈ gw_tbl ∧ Cond.initialized y.cls ∈ gw_tbl ∧ (y.cls ≠ "java/lang/invoke/MethodHandle" ∧ y.cls ≠ "java/lang/invoke/VarHandle" ∧ (parseMethodDescriptor y.desc).map (fun d => d.parameters.length) = some n)
theorem wt_0 {w : Cond} (h : w ∈ k2_sels lw_privs) : w ∈ lw_tbl := List.mem_append.mpr (Or.inl h)
theorem wt_1 {w : Cond} (h : w ∈ tables_1_1) : w ∈ lw_tbl := List.mem_append.mpr (Or.inr (List.mem_append.mpr (Or.inl h)))
theorem wt_2 {w : Cond} (h : w ∈ tables_1_2) : w ∈ lw_tbl := List.mem_append.mpr (Or.inr (List.mem_append.mpr (Or.inr (List.mem_append.mpr (Or.inl h)))))
theorem wt_3 {w : Cond} (h : w ∈ tables_1_3) : w ∈ lw_tbl := List.mem_append.mpr (Or.inr (List.mem_append.mpr (Or.inr (List.mem_append.mpr (Or.inr (List.mem_append.mpr (Or.inl h)))))))
theorem wt_4 {w : Cond} (h : w ∈ tables_1_4) : w ∈ lw_tbl := List.mem_append.mpr (Or.inr (List.mem_append.mpr (Or.inr (List.mem_append.mpr (Or.inr (List.mem_append.mpr (Or.inr (List.mem_append.mpr (Or.inl h)))))))))
theorem wt_5 {w : Cond} (h : w ∈ tables_1_5) : w ∈ lw_tbl := List.mem_append.mpr (Or.inr (List.mem_append.mpr (Or.inr (List.mem_append.mpr (Or.inr (List.mem_append.mpr (Or.inr (List.mem_append.mpr (Or.inr (List.mem_append.mpr (Or.inl h)))))))))))
theorem wt_6 {w : Cond} (h : w ∈ tables_1_6) : w ∈ lw_tbl := List.mem_append.mpr (Or.inr (List.mem_append.mpr (Or.inr (List.mem_append.mpr (Or.inr (List.mem_append.mpr (Or.inr (List.mem_append.mpr (Or.inr (List.mem_append.mpr (Or.inr (List.mem_append.mpr (Or.inl h)))))))))))))
theorem wt_7 {w : Cond} (h : w ∈ tables_1_7) : w ∈ lw_tbl := List.mem_append.mpr (Or.inr (List.mem_append.mpr (Or.inr (List.mem_append.mpr (Or.inr (List.mem_append.mpr (Or.inr (List.mem_append.mpr (Or.inr (List.mem_append.mpr (Or.inr (List.mem_append.mpr (Or.inr h)))))))))))))
theorem inX0 : ∀ w ∈ u_ws RX0 TX0 6, w ∈ gw_tbl := by
  have h1 : ∀ w ∈ u_ws RX0 TX0 6, w ∈ lw_tbl := by decide +kernel
  have h2 : (u_ws RX0 TX0 6).all goodWord = true := by decide +kernel
  exact fun w hw => gm (h1 w hw) (List.all_eq_true.mp h2 w hw)
theorem inX1 : ∀ w ∈ u_ws RX1 TX1 1, w ∈ gw_tbl := by
  have h1 : ∀ w ∈ u_ws RX1 TX1 1, w ∈ lw_tbl := by decide +kernel
  have h2 : (u_ws RX1 TX1 1).all goodWord = true := by decide +kernel
  exact fun w hw => gm (h1 w hw) (List.all_eq_true.mp h2 w hw)
theorem inX2 : ∀ w ∈ u_ws RX2 TX2 6, w ∈ gw_tbl := by
  have h1 : ∀ w ∈ u_ws RX2 TX2 6, w ∈ lw_tbl := by decide +kernel
  have h2 : (u_ws RX2 TX2 6).all goodWord = true := by decide +kernel
  exact fun w hw => gm (h1 w hw) (List.all_eq_true.mp h2 w hw)
theorem inX3 : ∀ w ∈ u_ws RX3 TX3 6, w ∈ gw_tbl := by
  have h1 : ∀ w ∈ u_ws RX3 TX3 6, w ∈ lw_tbl := by decide +kernel
  have h2 : (u_ws RX3 TX3 6).all goodWord = true := by decide +kernel
  exact fun w hw => gm (h1 w hw) (List.all_eq_true.mp h2 w hw)
theorem inX4 : ∀ w ∈ u_ws RX4 TX4 4, w ∈ gw_tbl := by
  have h1 : ∀ w ∈ u_ws RX4 TX4 4, w ∈ lw_tbl := by decide +kernel
  have h2 : (u_ws RX4 TX4 4).all goodWord = true := by decide +kernel
  exact fun w hw => gm (h1 w hw) (List.all_eq_true.mp h2 w hw)
theorem inX5 : ∀ w ∈ u_ws RX5 TX5 2, w ∈ gw_tbl := by
  have h1 : ∀ w ∈ u_ws RX5 TX5 2, w ∈ lw_tbl := by decide +kernel
  have h2 : (u_ws RX5 TX5 2).all goodWord = true := by decide +kernel
  exact fun w hw => gm (h1 w hw) (List.all_eq_true.mp h2 w hw)
theorem inX6 : ∀ w ∈ u_ws RX6 TX6 3, w ∈ gw_tbl := by
  have h1 : ∀ w ∈ u_ws RX6 TX6 3, w ∈ lw_tbl := by decide +kernel
  have h2 : (u_ws RX6 TX6 3).all goodWord = true := by decide +kernel
  exact fun w hw => gm (h1 w hw) (List.all_eq_true.mp h2 w hw)
theorem inX7 : ∀ w ∈ u_ws RX7 TX7 2, w ∈ gw_tbl := by
  have h1 : ∀ w ∈ u_ws RX7 TX7 2, w ∈ lw_tbl := by decide +kernel
  have h2 : (u_ws RX7 TX7 2).all goodWord = true := by decide +kernel
  exact fun w hw => gm (h1 w hw) (List.all_eq_true.mp h2 w hw)
theorem inX8 : ∀ w ∈ u_ws RX8 TX8 9, w ∈ gw_tbl := by
  have h1 : ∀ w ∈ u_ws RX8 TX8 9, w ∈ lw_tbl := by decide +kernel
  have h2 : (u_ws RX8 TX8 9).all goodWord = true := by decide +kernel
  exact fun w hw => gm (h1 w hw) (List.all_eq_true.mp h2 w hw)
theorem inX9 : ∀ w ∈ u_ws RX9 TX9 4, w ∈ gw_tbl := by
  have h1 : ∀ w ∈ u_ws RX9 TX9 4, w ∈ lw_tbl := by decide +kernel
  have h2 : (u_ws RX9 TX9 4).all goodWord = true := by decide +kernel
  exact fun w hw => gm (h1 w hw) (List.all_eq_true.mp h2 w hw)
theorem inX10 : ∀ w ∈ u_ws RX10 TX10 12, w ∈ gw_tbl := by
  have h1 : ∀ w ∈ u_ws RX10 TX10 12, w ∈ lw_tbl := by decide +kernel
  have h2 : (u_ws RX10 TX10 12).all goodWord = true := by decide +kernel
  exact fun w hw => gm (h1 w hw) (List.all_eq_true.mp h2 w hw)
theorem inX11 : ∀ w ∈ u_ws RX11 TX11 51, w ∈ gw_tbl := by
  have h1 : ∀ w ∈ u_ws RX11 TX11 51, w ∈ lw_tbl := by decide +kernel
  have h2 : (u_ws RX11 TX11 51).all goodWord = true := by decide +kernel
  exact fun w hw => gm (h1 w hw) (List.all_eq_true.mp h2 w hw)
theorem wd_97 : Cond.classLink RL 7 RX10 ∈ gw_tbl := gm (wt_1 (List.mem_of_getElem? (i := 21) rfl)) rfl
theorem wd_99 : Cond.methodLink RL 9 yX10_init ∈ gw_tbl := gm (wt_1 (List.mem_of_getElem? (i := 23) rfl)) rfl
theorem wd_102 : Cond.methodLink RX10 3 ⟨"java/lang/Object", "<init>", "()V"⟩ ∈ gw_tbl := gm (wt_1 (List.mem_of_getElem? (i := 26) rfl)) rfl
theorem wd_105 : Cond.classLink RX10 9 RX4 ∈ gw_tbl := gm (wt_1 (List.mem_of_getElem? (i := 29) rfl)) rfl
theorem wd_110 : Cond.methodLink RX4 3 ⟨"java/lang/Object", "<init>", "()V"⟩ ∈ gw_tbl := gm (wt_1 (List.mem_of_getElem? (i := 34) rfl)) rfl
theorem wd_111 : Cond.fieldLink RX4 9 "DonkeyBridge$Road" "kinds" "[I" ∈ gw_tbl := gm (wt_1 (List.mem_of_getElem? (i := 35) rfl)) rfl
theorem wd_112 : Cond.fieldLink RX4 15 "DonkeyBridge$Road" "numbers" "[I" ∈ gw_tbl := gm (wt_1 (List.mem_of_getElem? (i := 36) rfl)) rfl
theorem wd_113 : Cond.fieldLink RX4 18 "DonkeyBridge$Road" "things" "[I" ∈ gw_tbl := gm (wt_1 (List.mem_of_getElem? (i := 37) rfl)) rfl
theorem wd_114 : Cond.fieldLink RX4 21 "DonkeyBridge$Road" "size" "I" ∈ gw_tbl := gm (wt_1 (List.mem_of_getElem? (i := 38) rfl)) rfl
theorem wd_125 : Cond.classLink RX10 18 RX7 ∈ gw_tbl := gm (wt_1 (List.mem_of_getElem? (i := 49) rfl)) rfl
theorem wd_130 : Cond.methodLink RX7 3 ⟨"java/lang/Object", "<init>", "()V"⟩ ∈ gw_tbl := gm (wt_1 (List.mem_of_getElem? (i := 54) rfl)) rfl
theorem wd_131 : Cond.classLink RX7 9 RX5 ∈ gw_tbl := gm (wt_1 (List.mem_of_getElem? (i := 55) rfl)) rfl
theorem wd_133 : Cond.methodLink RX7 11 yX5_init ∈ gw_tbl := gm (wt_1 (List.mem_of_getElem? (i := 57) rfl)) rfl
theorem wd_136 : Cond.methodLink RX5 1 ⟨"java/lang/Object", "<init>", "()V"⟩ ∈ gw_tbl := gm (wt_1 (List.mem_of_getElem? (i := 60) rfl)) rfl
theorem wd_137 : Cond.methodLink RX5 7 yJ9_max_7cf53 ∈ gw_tbl := gm (wt_1 (List.mem_of_getElem? (i := 61) rfl)) rfl
theorem wd_140 : Cond.fieldLink RX5 13 "DonkeyBridge$Strip" "items" "[I" ∈ gw_tbl := gm (wt_1 (List.mem_of_getElem? (i := 64) rfl)) rfl
theorem wd_141 : Cond.fieldLink RX5 19 "DonkeyBridge$Strip" "size" "I" ∈ gw_tbl := gm (wt_1 (List.mem_of_getElem? (i := 65) rfl)) rfl
theorem wd_147 : Cond.fieldLink RX7 14 "DonkeyBridge$Text" "signs" "LDonkeyBridge$Strip;" ∈ gw_tbl := gm (wt_1 (List.mem_of_getElem? (i := 71) rfl)) rfl
theorem wd_148 : Cond.fieldLink RX7 31 "DonkeyBridge$Text" "pos" "I" ∈ gw_tbl := gm (wt_1 (List.mem_of_getElem? (i := 72) rfl)) rfl
theorem wd_154 : Cond.classLink RX10 25 RX2 ∈ gw_tbl := gm (wt_1 (List.mem_of_getElem? (i := 78) rfl)) rfl
theorem wd_160 : Cond.methodLink RX2 3 ⟨"java/lang/Object", "<init>", "()V"⟩ ∈ gw_tbl := gm (wt_1 (List.mem_of_getElem? (i := 84) rfl)) rfl
theorem wd_161 : Cond.fieldLink RX2 9 "DonkeyBridge$Law" "words" "[I" ∈ gw_tbl := gm (wt_1 (List.mem_of_getElem? (i := 85) rfl)) rfl
theorem wd_162 : Cond.fieldLink RX2 15 "DonkeyBridge$Law" "amounts" "[I" ∈ gw_tbl := gm (wt_1 (List.mem_of_getElem? (i := 86) rfl)) rfl
theorem wd_163 : Cond.fieldLink RX2 18 "DonkeyBridge$Law" "starts" "[I" ∈ gw_tbl := gm (wt_1 (List.mem_of_getElem? (i := 87) rfl)) rfl
theorem wd_164 : Cond.fieldLink RX2 24 "DonkeyBridge$Law" "clauses" "I" ∈ gw_tbl := gm (wt_1 (List.mem_of_getElem? (i := 88) rfl)) rfl
theorem wd_165 : Cond.fieldLink RX2 21 "DonkeyBridge$Law" "codes" "[I" ∈ gw_tbl := gm (wt_1 (List.mem_of_getElem? (i := 89) rfl)) rfl
theorem wd_166 : Cond.fieldLink RX2 28 "DonkeyBridge$Law" "codeCount" "I" ∈ gw_tbl := gm (wt_1 (List.mem_of_getElem? (i := 90) rfl)) rfl
theorem wd_180 : Cond.classLink RX10 36 RX9 ∈ gw_tbl := gm (wt_1 (List.mem_of_getElem? (i := 104) rfl)) rfl
theorem wd_182 : Cond.methodLink RX10 38 yX9_init ∈ gw_tbl := gm (wt_1 (List.mem_of_getElem? (i := 106) rfl)) rfl
theorem wd_185 : Cond.methodLink RX9 3 ⟨"java/lang/Object", "<init>", "()V"⟩ ∈ gw_tbl := gm (wt_1 (List.mem_of_getElem? (i := 109) rfl)) rfl
theorem wd_186 : Cond.fieldLink RX9 18 "DonkeyBridge$Walk" "road" "LDonkeyBridge$Road;" ∈ gw_tbl := gm (wt_1 (List.mem_of_getElem? (i := 110) rfl)) rfl
theorem wd_187 : Cond.fieldLink RX9 22 "DonkeyBridge$Walk" "law" "LDonkeyBridge$Law;" ∈ gw_tbl := gm (wt_1 (List.mem_of_getElem? (i := 111) rfl)) rfl
theorem wd_188 : Cond.fieldLink RX9 9 "DonkeyBridge$Walk" "facts" "[I" ∈ gw_tbl := gm (wt_1 (List.mem_of_getElem? (i := 112) rfl)) rfl
theorem wd_189 : Cond.fieldLink RX9 15 "DonkeyBridge$Walk" "less" "[I" ∈ gw_tbl := gm (wt_1 (List.mem_of_getElem? (i := 113) rfl)) rfl
theorem wd_199 : Cond.classLink RX10 45 RX3 ∈ gw_tbl := gm (wt_1 (List.mem_of_getElem? (i := 123) rfl)) rfl
theorem wd_204 : Cond.methodLink RX3 3 ⟨"java/lang/Object", "<init>", "()V"⟩ ∈ gw_tbl := gm (wt_1 (List.mem_of_getElem? (i := 128) rfl)) rfl
theorem wd_205 : Cond.classLink RX3 9 RX1 ∈ gw_tbl := gm (wt_1 (List.mem_of_getElem? (i := 129) rfl)) rfl
theorem wd_207 : Cond.methodLink RX3 11 yX1_init ∈ gw_tbl := gm (wt_1 (List.mem_of_getElem? (i := 131) rfl)) rfl
theorem wd_210 : Cond.methodLink RX1 3 ⟨"java/lang/Object", "<init>", "()V"⟩ ∈ gw_tbl := gm (wt_1 (List.mem_of_getElem? (i := 134) rfl)) rfl
theorem wd_211 : Cond.fieldLink RX1 9 "DonkeyBridge$Donkey" "MOST" "[I" ∈ gw_tbl := gm (wt_1 (List.mem_of_getElem? (i := 135) rfl)) rfl
theorem wd_213 : Cond.methodLink RX1 18 yJ7_fill_fda19 ∈ gw_tbl := gm (wt_1 (List.mem_of_getElem? (i := 137) rfl)) rfl
theorem wd_216 : Cond.methodLink RJ7 13 yJ7_rangeCheck_23922 ∈ gw_tbl := gm (wt_1 (List.mem_of_getElem? (i := 140) rfl)) rfl
theorem wd_219 : Cond.fieldLink RX1 15 "DonkeyBridge$Donkey" "numbers" "[I" ∈ gw_tbl := gm (wt_1 (List.mem_of_getElem? (i := 143) rfl)) rfl
theorem wd_223 : Cond.classLink RX3 18 RX5 ∈ gw_tbl := gm (wt_1 (List.mem_of_getElem? (i := 147) rfl)) rfl
theorem wd_224 : Cond.methodLink RX3 20 yX5_init ∈ gw_tbl := gm (wt_1 (List.mem_of_getElem? (i := 148) rfl)) rfl
theorem wd_225 : Cond.fieldLink RX3 12 "DonkeyBridge$Moment" "donkey" "LDonkeyBridge$Donkey;" ∈ gw_tbl := gm (wt_1 (List.mem_of_getElem? (i := 149) rfl)) rfl
theorem wd_226 : Cond.fieldLink RX8 45 "DonkeyBridge$Moment" "donkey" "LDonkeyBridge$Donkey;" ∈ gw_tbl := gm (wt_1 (List.mem_of_getElem? (i := 150) rfl)) rfl
theorem wd_227 : Cond.fieldLink RX10 107 "DonkeyBridge$Moment" "donkey" "LDonkeyBridge$Donkey;" ∈ gw_tbl := gm (wt_1 (List.mem_of_getElem? (i := 151) rfl)) rfl
theorem wd_228 : Cond.fieldLink RX3 23 "DonkeyBridge$Moment" "acts" "LDonkeyBridge$Strip;" ∈ gw_tbl := gm (wt_1 (List.mem_of_getElem? (i := 152) rfl)) rfl
theorem wd_229 : Cond.fieldLink RX8 66 "DonkeyBridge$Moment" "acts" "LDonkeyBridge$Strip;" ∈ gw_tbl := gm (wt_1 (List.mem_of_getElem? (i := 153) rfl)) rfl
theorem wd_230 : Cond.fieldLink RX10 171 "DonkeyBridge$Moment" "acts" "LDonkeyBridge$Strip;" ∈ gw_tbl := gm (wt_1 (List.mem_of_getElem? (i := 154) rfl)) rfl
theorem wd_231 : Cond.fieldLink RX3 27 "DonkeyBridge$Moment" "seen" "LDonkeyBridge$Strip;" ∈ gw_tbl := gm (wt_1 (List.mem_of_getElem? (i := 155) rfl)) rfl
theorem wd_232 : Cond.fieldLink RX8 94 "DonkeyBridge$Moment" "seen" "LDonkeyBridge$Strip;" ∈ gw_tbl := gm (wt_1 (List.mem_of_getElem? (i := 156) rfl)) rfl
theorem wd_233 : Cond.fieldLink RX10 236 "DonkeyBridge$Moment" "seen" "LDonkeyBridge$Strip;" ∈ gw_tbl := gm (wt_1 (List.mem_of_getElem? (i := 157) rfl)) rfl
theorem wd_234 : Cond.fieldLink RX3 30 "DonkeyBridge$Moment" "beasts" "LDonkeyBridge$Strip;" ∈ gw_tbl := gm (wt_1 (List.mem_of_getElem? (i := 158) rfl)) rfl
theorem wd_235 : Cond.fieldLink RX10 220 "DonkeyBridge$Moment" "beasts" "LDonkeyBridge$Strip;" ∈ gw_tbl := gm (wt_1 (List.mem_of_getElem? (i := 159) rfl)) rfl
theorem wd_236 : Cond.fieldLink RX3 33 "DonkeyBridge$Moment" "odds" "I" ∈ gw_tbl := gm (wt_1 (List.mem_of_getElem? (i := 160) rfl)) rfl
theorem wd_237 : Cond.fieldLink RX10 205 "DonkeyBridge$Moment" "odds" "I" ∈ gw_tbl := gm (wt_1 (List.mem_of_getElem? (i := 161) rfl)) rfl
theorem wd_238 : Cond.fieldLink RX8 154 "DonkeyBridge$Moment" "odds" "I" ∈ gw_tbl := gm (wt_1 (List.mem_of_getElem? (i := 162) rfl)) rfl
theorem wd_239 : Cond.fieldLink RX3 37 "DonkeyBridge$Moment" "held" "I" ∈ gw_tbl := gm (wt_1 (List.mem_of_getElem? (i := 163) rfl)) rfl
theorem wd_240 : Cond.fieldLink RX10 135 "DonkeyBridge$Moment" "held" "I" ∈ gw_tbl := gm (wt_1 (List.mem_of_getElem? (i := 164) rfl)) rfl
theorem wd_254 : Cond.classLink RX10 55 RX8 ∈ gw_tbl := gm (wt_1 (List.mem_of_getElem? (i := 178) rfl)) rfl
theorem wd_256 : Cond.methodLink RX10 57 yX8_init ∈ gw_tbl := gm (wt_1 (List.mem_of_getElem? (i := 180) rfl)) rfl
theorem wd_259 : Cond.methodLink RX8 3 ⟨"java/lang/Object", "<init>", "()V"⟩ ∈ gw_tbl := gm (wt_1 (List.mem_of_getElem? (i := 183) rfl)) rfl
theorem wd_260 : Cond.classLink RX8 9 RX1 ∈ gw_tbl := gm (wt_1 (List.mem_of_getElem? (i := 184) rfl)) rfl
theorem wd_262 : Cond.methodLink RX8 17 yX1_init ∈ gw_tbl := gm (wt_1 (List.mem_of_getElem? (i := 186) rfl)) rfl
theorem wd_263 : Cond.fieldLink RX8 29 "DonkeyBridge$Trial" "walk" "LDonkeyBridge$Walk;" ∈ gw_tbl := gm (wt_1 (List.mem_of_getElem? (i := 187) rfl)) rfl
theorem wd_264 : Cond.fieldLink RX8 33 "DonkeyBridge$Trial" "present" "LDonkeyBridge$Moment;" ∈ gw_tbl := gm (wt_1 (List.mem_of_getElem? (i := 188) rfl)) rfl
theorem wd_265 : Cond.fieldLink RX8 11 "DonkeyBridge$Trial" "stages" "[LDonkeyBridge$Donkey;" ∈ gw_tbl := gm (wt_1 (List.mem_of_getElem? (i := 189) rfl)) rfl
theorem wd_266 : Cond.fieldLink RX8 18 "DonkeyBridge$Trial" "spare" "LDonkeyBridge$Donkey;" ∈ gw_tbl := gm (wt_1 (List.mem_of_getElem? (i := 190) rfl)) rfl
theorem wd_267 : Cond.fieldLink RX8 22 "DonkeyBridge$Trial" "tried" "[I" ∈ gw_tbl := gm (wt_1 (List.mem_of_getElem? (i := 191) rfl)) rfl
theorem wd_268 : Cond.fieldLink RX8 26 "DonkeyBridge$Trial" "best" "[I" ∈ gw_tbl := gm (wt_1 (List.mem_of_getElem? (i := 192) rfl)) rfl
theorem wd_269 : Cond.fieldLink RX8 106 "DonkeyBridge$Trial" "bestSize" "I" ∈ gw_tbl := gm (wt_1 (List.mem_of_getElem? (i := 193) rfl)) rfl
theorem wd_270 : Cond.fieldLink RX8 116 "DonkeyBridge$Trial" "bestLearnt" "I" ∈ gw_tbl := gm (wt_1 (List.mem_of_getElem? (i := 194) rfl)) rfl
theorem wd_271 : Cond.fieldLink RX8 54 "DonkeyBridge$Trial" "goal" "I" ∈ gw_tbl := gm (wt_1 (List.mem_of_getElem? (i := 195) rfl)) rfl
theorem wd_291 : Cond.classLink RX10 64 RX0 ∈ gw_tbl := gm (wt_1 (List.mem_of_getElem? (i := 215) rfl)) rfl
theorem wd_293 : Cond.methodLink RX10 66 yX0_init ∈ gw_tbl := gm (wt_1 (List.mem_of_getElem? (i := 217) rfl)) rfl
theorem wd_296 : Cond.methodLink RX0 3 ⟨"java/lang/Object", "<init>", "()V"⟩ ∈ gw_tbl := gm (wt_1 (List.mem_of_getElem? (i := 220) rfl)) rfl
theorem wd_297 : Cond.classLink RX0 9 RX5 ∈ gw_tbl := gm (wt_1 (List.mem_of_getElem? (i := 221) rfl)) rfl
theorem wd_298 : Cond.methodLink RX0 13 yX5_init ∈ gw_tbl := gm (wt_1 (List.mem_of_getElem? (i := 222) rfl)) rfl
theorem wd_299 : Cond.fieldLink RX0 20 "DonkeyBridge$Bodies" "road" "LDonkeyBridge$Road;" ∈ gw_tbl := gm (wt_1 (List.mem_of_getElem? (i := 223) rfl)) rfl
theorem wd_300 : Cond.fieldLink RX0 16 "DonkeyBridge$Bodies" "numbers" "LDonkeyBridge$Strip;" ∈ gw_tbl := gm (wt_1 (List.mem_of_getElem? (i := 224) rfl)) rfl
theorem wd_301 : Cond.fieldLink RX0 24 "DonkeyBridge$Bodies" "ran" "I" ∈ gw_tbl := gm (wt_1 (List.mem_of_getElem? (i := 225) rfl)) rfl
theorem wd_302 : Cond.fieldLink RX0 44 "DonkeyBridge$Bodies" "kind" "I" ∈ gw_tbl := gm (wt_1 (List.mem_of_getElem? (i := 226) rfl)) rfl
theorem wd_303 : Cond.fieldLink RX0 50 "DonkeyBridge$Bodies" "v" "I" ∈ gw_tbl := gm (wt_1 (List.mem_of_getElem? (i := 227) rfl)) rfl
theorem wd_304 : Cond.fieldLink RX0 53 "DonkeyBridge$Bodies" "number" "I" ∈ gw_tbl := gm (wt_1 (List.mem_of_getElem? (i := 228) rfl)) rfl
theorem wd_318 : Cond.classLink RX10 73 RX6 ∈ gw_tbl := gm (wt_2 (List.mem_of_getElem? (i := 2) rfl)) rfl
theorem wd_324 : Cond.methodLink RX6 3 ⟨"java/lang/Object", "<init>", "()V"⟩ ∈ gw_tbl := gm (wt_2 (List.mem_of_getElem? (i := 8) rfl)) rfl
theorem wd_325 : Cond.fieldLink RX6 9 "DonkeyBridge$Tape" "items" "[J" ∈ gw_tbl := gm (wt_2 (List.mem_of_getElem? (i := 9) rfl)) rfl
theorem wd_326 : Cond.fieldLink RX6 15 "DonkeyBridge$Tape" "sort" "I" ∈ gw_tbl := gm (wt_2 (List.mem_of_getElem? (i := 10) rfl)) rfl
theorem wd_327 : Cond.fieldLink RX6 28 "DonkeyBridge$Tape" "size" "I" ∈ gw_tbl := gm (wt_2 (List.mem_of_getElem? (i := 11) rfl)) rfl
theorem wd_336 : Cond.fieldLink RX10 12 "DonkeyBridge" "road" "LDonkeyBridge$Road;" ∈ gw_tbl := gm (wt_2 (List.mem_of_getElem? (i := 20) rfl)) rfl
theorem wd_337 : Cond.fieldLink RX10 21 "DonkeyBridge" "text" "LDonkeyBridge$Text;" ∈ gw_tbl := gm (wt_2 (List.mem_of_getElem? (i := 21) rfl)) rfl
theorem wd_338 : Cond.fieldLink RX10 27 "DonkeyBridge" "laws" "[LDonkeyBridge$Law;" ∈ gw_tbl := gm (wt_2 (List.mem_of_getElem? (i := 22) rfl)) rfl
theorem wd_339 : Cond.fieldLink RX10 32 "DonkeyBridge" "noLaw" "LDonkeyBridge$Law;" ∈ gw_tbl := gm (wt_2 (List.mem_of_getElem? (i := 23) rfl)) rfl
theorem wd_340 : Cond.fieldLink RX10 124 "DonkeyBridge" "lawCount" "I" ∈ gw_tbl := gm (wt_2 (List.mem_of_getElem? (i := 24) rfl)) rfl
theorem wd_341 : Cond.fieldLink RX10 41 "DonkeyBridge" "walk" "LDonkeyBridge$Walk;" ∈ gw_tbl := gm (wt_2 (List.mem_of_getElem? (i := 25) rfl)) rfl
theorem wd_342 : Cond.fieldLink RX10 60 "DonkeyBridge" "trial" "LDonkeyBridge$Trial;" ∈ gw_tbl := gm (wt_2 (List.mem_of_getElem? (i := 26) rfl)) rfl
theorem wd_343 : Cond.fieldLink RX10 69 "DonkeyBridge" "bodies" "LDonkeyBridge$Bodies;" ∈ gw_tbl := gm (wt_2 (List.mem_of_getElem? (i := 27) rfl)) rfl
theorem wd_344 : Cond.fieldLink RX10 75 "DonkeyBridge" "tapes" "[LDonkeyBridge$Tape;" ∈ gw_tbl := gm (wt_2 (List.mem_of_getElem? (i := 28) rfl)) rfl
theorem wd_345 : Cond.fieldLink RX10 48 "DonkeyBridge" "present" "LDonkeyBridge$Moment;" ∈ gw_tbl := gm (wt_2 (List.mem_of_getElem? (i := 29) rfl)) rfl
theorem wd_346 : Cond.fieldLink RX10 52 "DonkeyBridge" "kept" "LDonkeyBridge$Moment;" ∈ gw_tbl := gm (wt_2 (List.mem_of_getElem? (i := 30) rfl)) rfl
theorem wd_347 : Cond.fieldLink RX10 260 "DonkeyBridge" "imageTaken" "Z" ∈ gw_tbl := gm (wt_2 (List.mem_of_getElem? (i := 31) rfl)) rfl
theorem wd_373 : Cond.methodLink RL 13 yX10_place ∈ gw_tbl := gm (wt_2 (List.mem_of_getElem? (i := 57) rfl)) rfl
theorem wd_377 : Cond.methodLink RX10 80 yX4_size ∈ gw_tbl := gm (wt_2 (List.mem_of_getElem? (i := 61) rfl)) rfl
theorem wd_381 : Cond.methodLink RX10 84 yX4_add ∈ gw_tbl := gm (wt_2 (List.mem_of_getElem? (i := 65) rfl)) rfl
theorem wd_385 : Cond.methodLink RL 18 yX10_of ∈ gw_tbl := gm (wt_2 (List.mem_of_getElem? (i := 69) rfl)) rfl
theorem wd_389 : Cond.methodLink RX10 88 yX4_has ∈ gw_tbl := gm (wt_2 (List.mem_of_getElem? (i := 73) rfl)) rfl
theorem wd_393 : Cond.methodLink RX10 92 yX4_kindOf ∈ gw_tbl := gm (wt_2 (List.mem_of_getElem? (i := 77) rfl)) rfl
theorem wd_397 : Cond.methodLink RX10 96 yX4_numberOf ∈ gw_tbl := gm (wt_2 (List.mem_of_getElem? (i := 81) rfl)) rfl
theorem wd_401 : Cond.methodLink RX10 99 yX4_thingOf ∈ gw_tbl := gm (wt_2 (List.mem_of_getElem? (i := 85) rfl)) rfl
theorem wd_405 : Cond.methodLink RL 23 yX10_set ∈ gw_tbl := gm (wt_2 (List.mem_of_getElem? (i := 89) rfl)) rfl
theorem wd_409 : Cond.methodLink RX10 102 yX1_mostOf ∈ gw_tbl := gm (wt_2 (List.mem_of_getElem? (i := 93) rfl)) rfl
theorem wd_412 : Cond.methodLink RX10 111 yX1_get ∈ gw_tbl := gm (wt_2 (List.mem_of_getElem? (i := 96) rfl)) rfl
theorem wd_416 : Cond.methodLink RX10 114 yX1_put ∈ gw_tbl := gm (wt_2 (List.mem_of_getElem? (i := 100) rfl)) rfl
theorem wd_420 : Cond.methodLink RL 27 yX10_now ∈ gw_tbl := gm (wt_2 (List.mem_of_getElem? (i := 104) rfl)) rfl
theorem wd_424 : Cond.methodLink RX10 118 yX1_tell ∈ gw_tbl := gm (wt_2 (List.mem_of_getElem? (i := 108) rfl)) rfl
theorem wd_428 : Cond.methodLink RX1 24 yX1_learnt ∈ gw_tbl := gm (wt_2 (List.mem_of_getElem? (i := 112) rfl)) rfl
theorem wd_432 : Cond.methodLink RX1 28 yX1_get ∈ gw_tbl := gm (wt_2 (List.mem_of_getElem? (i := 116) rfl)) rfl
theorem wd_433 : Cond.methodLink RL 32 yX10_feed ∈ gw_tbl := gm (wt_2 (List.mem_of_getElem? (i := 117) rfl)) rfl
theorem wd_437 : Cond.methodLink RX10 121 yX7_add ∈ gw_tbl := gm (wt_2 (List.mem_of_getElem? (i := 121) rfl)) rfl
theorem wd_441 : Cond.methodLink RX7 24 yX5_add ∈ gw_tbl := gm (wt_2 (List.mem_of_getElem? (i := 125) rfl)) rfl
theorem wd_445 : Cond.methodLink RX10 123 yX7_size ∈ gw_tbl := gm (wt_2 (List.mem_of_getElem? (i := 129) rfl)) rfl
theorem wd_449 : Cond.methodLink RX7 20 yX5_size ∈ gw_tbl := gm (wt_2 (List.mem_of_getElem? (i := 133) rfl)) rfl
theorem wd_453 : Cond.methodLink RL 36 yX10_law ∈ gw_tbl := gm (wt_2 (List.mem_of_getElem? (i := 137) rfl)) rfl
theorem wd_457 : Cond.methodLink RX10 128 yX7_readLaw ∈ gw_tbl := gm (wt_2 (List.mem_of_getElem? (i := 141) rfl)) rfl
theorem wd_461 : Cond.methodLink RX7 35 yX2_clear ∈ gw_tbl := gm (wt_2 (List.mem_of_getElem? (i := 145) rfl)) rfl
theorem wd_465 : Cond.methodLink RX7 38 yX7_readHead ∈ gw_tbl := gm (wt_2 (List.mem_of_getElem? (i := 149) rfl)) rfl
theorem wd_469 : Cond.methodLink RX7 54 yX7_readWord ∈ gw_tbl := gm (wt_2 (List.mem_of_getElem? (i := 153) rfl)) rfl
theorem wd_473 : Cond.methodLink RX7 64 yX7_wordOf ∈ gw_tbl := gm (wt_2 (List.mem_of_getElem? (i := 157) rfl)) rfl
theorem wd_483 : Cond.methodLink RX7 68 yJ0_length_8abf5 ∈ gw_tbl := gm (wt_2 (List.mem_of_getElem? (i := 167) rfl)) rfl
theorem wd_487 : Cond.methodLink RJ0 335 yJ0_coder_7d493 ∈ gw_tbl := gm (wt_2 (List.mem_of_getElem? (i := 171) rfl)) rfl
theorem wd_491 : Cond.fieldLink RJ0 38 "java/lang/String" "COMPACT_STRINGS" "Z" ∈ gw_tbl := gm (wt_2 (List.mem_of_getElem? (i := 175) rfl)) rfl
theorem wd_493 : Cond.methodLink RX7 50 yX5_get ∈ gw_tbl := gm (wt_2 (List.mem_of_getElem? (i := 177) rfl)) rfl
theorem wd_497 : Cond.methodLink RX7 73 yJ0_charAt_5068e ∈ gw_tbl := gm (wt_2 (List.mem_of_getElem? (i := 181) rfl)) rfl
theorem wd_501 : Cond.methodLink RJ0 492 yJ0_isLatin1_aae02 ∈ gw_tbl := gm (wt_2 (List.mem_of_getElem? (i := 185) rfl)) rfl
theorem wd_505 : Cond.methodLink RJ0 495 yJ1_charAt_3b067 ∈ gw_tbl := gm (wt_2 (List.mem_of_getElem? (i := 189) rfl)) rfl
theorem wd_508 : Cond.methodLink RJ1 9 yJ0_checkIndex_df160 ∈ gw_tbl := gm (wt_2 (List.mem_of_getElem? (i := 192) rfl)) rfl
theorem wd_511 : Cond.fieldLink RJ0 1053 "jdk/internal/util/Preconditions" "SIOOBE_FORMATTER" "Ljava/util/function/BiFunction;" ∈ gw_tbl := gm (wt_2 (List.mem_of_getElem? (i := 195) rfl)) rfl
theorem wd_513 : Cond.methodLink RJ0 1059 yJ3_checkIndex_8e157 ∈ gw_tbl := gm (wt_2 (List.mem_of_getElem? (i := 197) rfl)) rfl
theorem wd_516 : Cond.methodLink RJ0 498 yJ2_charAt_3b067 ∈ gw_tbl := gm (wt_2 (List.mem_of_getElem? (i := 200) rfl)) rfl
theorem wd_535 : Cond.methodLink RX7 77 yJ9_max_7cf53 ∈ gw_tbl := gm (wt_2 (List.mem_of_getElem? (i := 219) rfl)) rfl
theorem wd_536 : Cond.methodLink RX7 42 yX7_next ∈ gw_tbl := gm (wt_2 (List.mem_of_getElem? (i := 220) rfl)) rfl
theorem wd_540 : Cond.methodLink RX7 57 yX7_readNumber ∈ gw_tbl := gm (wt_2 (List.mem_of_getElem? (i := 224) rfl)) rfl
theorem wd_544 : Cond.methodLink RX7 60 yX2_beginClause ∈ gw_tbl := gm (wt_2 (List.mem_of_getElem? (i := 228) rfl)) rfl
theorem wd_548 : Cond.methodLink RX7 46 yX7_readEither ∈ gw_tbl := gm (wt_2 (List.mem_of_getElem? (i := 232) rfl)) rfl
theorem wd_552 : Cond.methodLink RX7 97 yX7_readBoth ∈ gw_tbl := gm (wt_2 (List.mem_of_getElem? (i := 236) rfl)) rfl
theorem wd_556 : Cond.methodLink RX7 103 yX7_readSingle ∈ gw_tbl := gm (wt_3 (List.mem_of_getElem? (i := 0) rfl)) rfl
theorem wd_560 : Cond.methodLink RX7 106 yX7_readTest ∈ gw_tbl := gm (wt_3 (List.mem_of_getElem? (i := 4) rfl)) rfl
theorem wd_565 : Cond.methodLink RX7 112 yX7_placeIn ∈ gw_tbl := gm (wt_3 (List.mem_of_getElem? (i := 9) rfl)) rfl
theorem wd_569 : Cond.methodLink RX7 122 yJ0_indexOf_0f7a4 ∈ gw_tbl := gm (wt_3 (List.mem_of_getElem? (i := 13) rfl)) rfl
theorem wd_573 : Cond.methodLink RJ0 633 yJ0_indexOf_7cf53 ∈ gw_tbl := gm (wt_3 (List.mem_of_getElem? (i := 17) rfl)) rfl
theorem wd_577 : Cond.methodLink RJ0 505 yJ0_length_8abf5 ∈ gw_tbl := gm (wt_3 (List.mem_of_getElem? (i := 21) rfl)) rfl
theorem wd_578 : Cond.methodLink RJ0 637 yJ1_indexOf_4cfef ∈ gw_tbl := gm (wt_3 (List.mem_of_getElem? (i := 22) rfl)) rfl
theorem wd_581 : Cond.methodLink RJ1 88 yJ1_canEncode_9a6ad ∈ gw_tbl := gm (wt_3 (List.mem_of_getElem? (i := 25) rfl)) rfl
theorem wd_584 : Cond.methodLink RJ1 92 yJ9_max_7cf53 ∈ gw_tbl := gm (wt_3 (List.mem_of_getElem? (i := 28) rfl)) rfl
theorem wd_585 : Cond.methodLink RJ1 38 yJ9_min_7cf53 ∈ gw_tbl := gm (wt_3 (List.mem_of_getElem? (i := 29) rfl)) rfl
theorem wd_588 : Cond.methodLink RJ1 95 yJ1_indexOfChar_4cfef ∈ gw_tbl := gm (wt_3 (List.mem_of_getElem? (i := 32) rfl)) rfl
theorem wd_591 : Cond.methodLink RJ0 640 yJ2_indexOf_4cfef ∈ gw_tbl := gm (wt_3 (List.mem_of_getElem? (i := 35) rfl)) rfl
theorem wd_606 : Cond.methodLink RJ0 1062 yJ3_checkFromToIndex_8c36e ∈ gw_tbl := gm (wt_3 (List.mem_of_getElem? (i := 50) rfl)) rfl
theorem wd_627 : Cond.methodLink RX7 118 yX2_codeOf ∈ gw_tbl := gm (wt_3 (List.mem_of_getElem? (i := 71) rfl)) rfl
theorem wd_630 : Cond.methodLink RX7 100 yX2_addCode ∈ gw_tbl := gm (wt_3 (List.mem_of_getElem? (i := 74) rfl)) rfl
theorem wd_634 : Cond.methodLink RX10 132 yX7_clear ∈ gw_tbl := gm (wt_3 (List.mem_of_getElem? (i := 78) rfl)) rfl
theorem wd_638 : Cond.methodLink RX7 28 yX5_clear ∈ gw_tbl := gm (wt_3 (List.mem_of_getElem? (i := 82) rfl)) rfl
theorem wd_642 : Cond.methodLink RX10 138 yX9_obey ∈ gw_tbl := gm (wt_3 (List.mem_of_getElem? (i := 86) rfl)) rfl
theorem wd_647 : Cond.methodLink RL 41 yX10_told ∈ gw_tbl := gm (wt_3 (List.mem_of_getElem? (i := 91) rfl)) rfl
theorem wd_651 : Cond.methodLink RX10 142 yX9_lastOf ∈ gw_tbl := gm (wt_3 (List.mem_of_getElem? (i := 95) rfl)) rfl
theorem wd_655 : Cond.methodLink RX9 41 yX2_last ∈ gw_tbl := gm (wt_3 (List.mem_of_getElem? (i := 99) rfl)) rfl
theorem wd_659 : Cond.methodLink RX10 145 yX10_isOver ∈ gw_tbl := gm (wt_3 (List.mem_of_getElem? (i := 103) rfl)) rfl
theorem wd_663 : Cond.methodLink RX10 297 yX9_isOver ∈ gw_tbl := gm (wt_3 (List.mem_of_getElem? (i := 107) rfl)) rfl
theorem wd_667 : Cond.methodLink RX9 26 yX1_get ∈ gw_tbl := gm (wt_3 (List.mem_of_getElem? (i := 111) rfl)) rfl
theorem wd_668 : Cond.methodLink RX9 32 yX4_has ∈ gw_tbl := gm (wt_3 (List.mem_of_getElem? (i := 112) rfl)) rfl
theorem wd_669 : Cond.methodLink RX10 149 yX9_togetherOf ∈ gw_tbl := gm (wt_3 (List.mem_of_getElem? (i := 113) rfl)) rfl
theorem wd_673 : Cond.methodLink RX9 52 yX9_lookAround ∈ gw_tbl := gm (wt_3 (List.mem_of_getElem? (i := 117) rfl)) rfl
theorem wd_677 : Cond.methodLink RX9 38 yX4_thingOf ∈ gw_tbl := gm (wt_3 (List.mem_of_getElem? (i := 121) rfl)) rfl
theorem wd_678 : Cond.methodLink RX9 60 yJ9_abs_0f7a4 ∈ gw_tbl := gm (wt_3 (List.mem_of_getElem? (i := 122) rfl)) rfl
theorem wd_681 : Cond.methodLink RX9 63 yJ9_min_7cf53 ∈ gw_tbl := gm (wt_3 (List.mem_of_getElem? (i := 125) rfl)) rfl
theorem wd_682 : Cond.methodLink RX9 66 yX4_kindOf ∈ gw_tbl := gm (wt_3 (List.mem_of_getElem? (i := 126) rfl)) rfl
theorem wd_683 : Cond.methodLink RX9 56 yX2_together ∈ gw_tbl := gm (wt_3 (List.mem_of_getElem? (i := 127) rfl)) rfl
theorem wd_687 : Cond.methodLink RX2 31 yX2_isTrue ∈ gw_tbl := gm (wt_3 (List.mem_of_getElem? (i := 131) rfl)) rfl
theorem wd_691 : Cond.methodLink RL 45 yX10_drive ∈ gw_tbl := gm (wt_3 (List.mem_of_getElem? (i := 135) rfl)) rfl
theorem wd_695 : Cond.methodLink RX10 153 yX10_isAct ∈ gw_tbl := gm (wt_3 (List.mem_of_getElem? (i := 139) rfl)) rfl
theorem wd_698 : Cond.constant RX10 156 (-100001) ∈ gw_tbl := gm (wt_3 (List.mem_of_getElem? (i := 142) rfl)) rfl
theorem wd_699 : Cond.constant RX10 157 (-100003) ∈ gw_tbl := gm (wt_3 (List.mem_of_getElem? (i := 143) rfl)) rfl
theorem wd_700 : Cond.methodLink RX10 158 yX9_weigh ∈ gw_tbl := gm (wt_3 (List.mem_of_getElem? (i := 144) rfl)) rfl
theorem wd_704 : Cond.methodLink RX9 69 yX9_fearThatCounts ∈ gw_tbl := gm (wt_3 (List.mem_of_getElem? (i := 148) rfl)) rfl
theorem wd_708 : Cond.methodLink RX9 73 yX4_numberOf ∈ gw_tbl := gm (wt_3 (List.mem_of_getElem? (i := 152) rfl)) rfl
theorem wd_709 : Cond.methodLink RX9 46 yJ9_max_7cf53 ∈ gw_tbl := gm (wt_3 (List.mem_of_getElem? (i := 153) rfl)) rfl
theorem wd_710 : Cond.methodLink RX9 76 yX1_sits ∈ gw_tbl := gm (wt_3 (List.mem_of_getElem? (i := 154) rfl)) rfl
theorem wd_714 : Cond.methodLink RX9 80 yX9_moreBy ∈ gw_tbl := gm (wt_3 (List.mem_of_getElem? (i := 158) rfl)) rfl
theorem wd_718 : Cond.methodLink RL 49 yX10_would ∈ gw_tbl := gm (wt_3 (List.mem_of_getElem? (i := 162) rfl)) rfl
theorem wd_722 : Cond.methodLink RX10 161 yX9_doing ∈ gw_tbl := gm (wt_3 (List.mem_of_getElem? (i := 166) rfl)) rfl
theorem wd_726 : Cond.methodLink RX9 86 yX9_isOver ∈ gw_tbl := gm (wt_3 (List.mem_of_getElem? (i := 170) rfl)) rfl
theorem wd_727 : Cond.methodLink RX9 83 yX9_weigh ∈ gw_tbl := gm (wt_3 (List.mem_of_getElem? (i := 171) rfl)) rfl
theorem wd_728 : Cond.methodLink RX9 90 yX9_doneBy ∈ gw_tbl := gm (wt_3 (List.mem_of_getElem? (i := 172) rfl)) rfl
theorem wd_731 : Cond.methodLink RL 53 yX10_go ∈ gw_tbl := gm (wt_3 (List.mem_of_getElem? (i := 175) rfl)) rfl
theorem wd_735 : Cond.methodLink RX10 164 yX9_halfMinutesOf ∈ gw_tbl := gm (wt_3 (List.mem_of_getElem? (i := 179) rfl)) rfl
theorem wd_739 : Cond.methodLink RX10 167 yX9_step ∈ gw_tbl := gm (wt_3 (List.mem_of_getElem? (i := 183) rfl)) rfl
theorem wd_743 : Cond.methodLink RX9 93 yX1_addTo ∈ gw_tbl := gm (wt_3 (List.mem_of_getElem? (i := 187) rfl)) rfl
theorem wd_747 : Cond.methodLink RX9 97 yX9_leave ∈ gw_tbl := gm (wt_3 (List.mem_of_getElem? (i := 191) rfl)) rfl
theorem wd_750 : Cond.methodLink RX9 111 yX1_put ∈ gw_tbl := gm (wt_3 (List.mem_of_getElem? (i := 194) rfl)) rfl
theorem wd_751 : Cond.methodLink RX9 101 yX9_follow ∈ gw_tbl := gm (wt_3 (List.mem_of_getElem? (i := 195) rfl)) rfl
theorem wd_755 : Cond.methodLink RX9 105 yX9_answer ∈ gw_tbl := gm (wt_3 (List.mem_of_getElem? (i := 199) rfl)) rfl
theorem wd_758 : Cond.methodLink RX9 108 yX9_halfMinutesOf ∈ gw_tbl := gm (wt_3 (List.mem_of_getElem? (i := 202) rfl)) rfl
theorem wd_759 : Cond.methodLink RL 57 yX10_row ∈ gw_tbl := gm (wt_3 (List.mem_of_getElem? (i := 203) rfl)) rfl
theorem wd_763 : Cond.methodLink RX10 175 yX10_addOrClear ∈ gw_tbl := gm (wt_3 (List.mem_of_getElem? (i := 207) rfl)) rfl
theorem wd_766 : Cond.methodLink RX10 300 yX5_clear ∈ gw_tbl := gm (wt_3 (List.mem_of_getElem? (i := 210) rfl)) rfl
theorem wd_767 : Cond.methodLink RX10 301 yX5_add ∈ gw_tbl := gm (wt_3 (List.mem_of_getElem? (i := 211) rfl)) rfl
theorem wd_768 : Cond.methodLink RX10 179 yX5_size ∈ gw_tbl := gm (wt_3 (List.mem_of_getElem? (i := 212) rfl)) rfl
theorem wd_769 : Cond.methodLink RL 61 yX10_hand ∈ gw_tbl := gm (wt_3 (List.mem_of_getElem? (i := 213) rfl)) rfl
theorem wd_773 : Cond.methodLink RX10 182 yX8_byHand ∈ gw_tbl := gm (wt_3 (List.mem_of_getElem? (i := 217) rfl)) rfl
theorem wd_777 : Cond.methodLink RX8 58 yX8_begin ∈ gw_tbl := gm (wt_3 (List.mem_of_getElem? (i := 221) rfl)) rfl
theorem wd_781 : Cond.methodLink RX8 37 yX8_stage ∈ gw_tbl := gm (wt_3 (List.mem_of_getElem? (i := 225) rfl)) rfl
theorem wd_785 : Cond.methodLink RX8 41 yX1_become ∈ gw_tbl := gm (wt_3 (List.mem_of_getElem? (i := 229) rfl)) rfl
theorem wd_789 : Cond.methodLink RX1 32 ⟨"java/lang/System", "arraycopy", "(Ljava/lang/Object;ILjava/lang/Object;II)V"⟩ ∈ gw_tbl := gm (wt_3 (List.mem_of_getElem? (i := 233) rfl)) rfl
theorem wd_792 : Cond.methodLink RX8 50 yX1_get ∈ gw_tbl := gm (wt_3 (List.mem_of_getElem? (i := 236) rfl)) rfl
theorem wd_793 : Cond.methodLink RX8 62 yX8_doRow ∈ gw_tbl := gm (wt_3 (List.mem_of_getElem? (i := 237) rfl)) rfl
theorem wd_797 : Cond.methodLink RX8 70 yX5_size ∈ gw_tbl := gm (wt_4 (List.mem_of_getElem? (i := 1) rfl)) rfl
theorem wd_798 : Cond.methodLink RX8 76 yX5_get ∈ gw_tbl := gm (wt_4 (List.mem_of_getElem? (i := 2) rfl)) rfl
theorem wd_799 : Cond.methodLink RX8 77 yX9_step ∈ gw_tbl := gm (wt_4 (List.mem_of_getElem? (i := 3) rfl)) rfl
theorem wd_800 : Cond.methodLink RL 65 yX10_soonest ∈ gw_tbl := gm (wt_4 (List.mem_of_getElem? (i := 4) rfl)) rfl
theorem wd_804 : Cond.methodLink RX10 186 yX8_findSoonest ∈ gw_tbl := gm (wt_4 (List.mem_of_getElem? (i := 8) rfl)) rfl
theorem wd_808 : Cond.methodLink RX8 109 yX8_trySooner ∈ gw_tbl := gm (wt_4 (List.mem_of_getElem? (i := 12) rfl)) rfl
theorem wd_812 : Cond.methodLink RX8 119 yX8_trySoonerWith ∈ gw_tbl := gm (wt_4 (List.mem_of_getElem? (i := 16) rfl)) rfl
theorem wd_816 : Cond.methodLink RX8 122 yX8_stageAfter ∈ gw_tbl := gm (wt_4 (List.mem_of_getElem? (i := 20) rfl)) rfl
theorem wd_820 : Cond.methodLink RX8 125 yX8_keepTried ∈ gw_tbl := gm (wt_4 (List.mem_of_getElem? (i := 24) rfl)) rfl
theorem wd_824 : Cond.methodLink RX8 138 ⟨"java/lang/System", "arraycopy", "(Ljava/lang/Object;ILjava/lang/Object;II)V"⟩ ∈ gw_tbl := gm (wt_4 (List.mem_of_getElem? (i := 28) rfl)) rfl
theorem wd_825 : Cond.methodLink RX10 189 yX8_found ∈ gw_tbl := gm (wt_4 (List.mem_of_getElem? (i := 29) rfl)) rfl
theorem wd_829 : Cond.methodLink RL 69 yX10_gentlest ∈ gw_tbl := gm (wt_4 (List.mem_of_getElem? (i := 33) rfl)) rfl
theorem wd_833 : Cond.methodLink RX10 192 yX8_findGentlest ∈ gw_tbl := gm (wt_4 (List.mem_of_getElem? (i := 37) rfl)) rfl
theorem wd_837 : Cond.methodLink RX8 113 yX8_tryGentler ∈ gw_tbl := gm (wt_4 (List.mem_of_getElem? (i := 41) rfl)) rfl
theorem wd_841 : Cond.methodLink RX8 128 yX8_keepGentler ∈ gw_tbl := gm (wt_4 (List.mem_of_getElem? (i := 45) rfl)) rfl
theorem wd_845 : Cond.methodLink RX8 135 yX1_learnt ∈ gw_tbl := gm (wt_4 (List.mem_of_getElem? (i := 49) rfl)) rfl
theorem wd_846 : Cond.methodLink RX8 131 yX8_tryGentlerWith ∈ gw_tbl := gm (wt_4 (List.mem_of_getElem? (i := 50) rfl)) rfl
theorem wd_850 : Cond.methodLink RL 73 yX10_why ∈ gw_tbl := gm (wt_4 (List.mem_of_getElem? (i := 54) rfl)) rfl
theorem wd_854 : Cond.methodLink RX10 195 yX9_mostAgainst ∈ gw_tbl := gm (wt_4 (List.mem_of_getElem? (i := 58) rfl)) rfl
theorem wd_858 : Cond.methodLink RL 77 yX10_waits ∈ gw_tbl := gm (wt_4 (List.mem_of_getElem? (i := 62) rfl)) rfl
theorem wd_862 : Cond.methodLink RX10 199 yX8_waiting ∈ gw_tbl := gm (wt_4 (List.mem_of_getElem? (i := 66) rfl)) rfl
theorem wd_866 : Cond.methodLink RL 81 yX10_round ∈ gw_tbl := gm (wt_4 (List.mem_of_getElem? (i := 70) rfl)) rfl
theorem wd_870 : Cond.methodLink RL 85 yX10_shiftLoad ∈ gw_tbl := gm (wt_4 (List.mem_of_getElem? (i := 74) rfl)) rfl
theorem wd_874 : Cond.methodLink RX10 202 yX8_bestShift ∈ gw_tbl := gm (wt_4 (List.mem_of_getElem? (i := 78) rfl)) rfl
theorem wd_878 : Cond.methodLink RX8 87 yX8_hurtWith ∈ gw_tbl := gm (wt_4 (List.mem_of_getElem? (i := 82) rfl)) rfl
theorem wd_882 : Cond.methodLink RX8 83 yX1_put ∈ gw_tbl := gm (wt_4 (List.mem_of_getElem? (i := 86) rfl)) rfl
theorem wd_883 : Cond.methodLink RX8 90 yX9_togetherOf ∈ gw_tbl := gm (wt_4 (List.mem_of_getElem? (i := 87) rfl)) rfl
theorem wd_884 : Cond.methodLink RL 89 yX10_wander ∈ gw_tbl := gm (wt_4 (List.mem_of_getElem? (i := 88) rfl)) rfl
theorem wd_888 : Cond.methodLink RL 93 yX10_sure ∈ gw_tbl := gm (wt_4 (List.mem_of_getElem? (i := 92) rfl)) rfl
theorem wd_892 : Cond.constantLong RX10 208 (-9223372036854775808) ∈ gw_tbl := gm (wt_4 (List.mem_of_getElem? (i := 96) rfl)) rfl
theorem wd_893 : Cond.methodLink RX10 210 yX8_chanceOf ∈ gw_tbl := gm (wt_4 (List.mem_of_getElem? (i := 97) rfl)) rfl
theorem wd_897 : Cond.methodLink RX8 144 yX8_waysFrom ∈ gw_tbl := gm (wt_4 (List.mem_of_getElem? (i := 101) rfl)) rfl
theorem wd_901 : Cond.methodLink RX8 157 yX8_waysWith ∈ gw_tbl := gm (wt_4 (List.mem_of_getElem? (i := 105) rfl)) rfl
theorem wd_905 : Cond.constantLong RX8 148 (10) ∈ gw_tbl := gm (wt_4 (List.mem_of_getElem? (i := 109) rfl)) rfl
theorem wd_906 : Cond.constantLong RX8 150 (2) ∈ gw_tbl := gm (wt_4 (List.mem_of_getElem? (i := 110) rfl)) rfl
theorem wd_907 : Cond.constantLong RX8 152 (5) ∈ gw_tbl := gm (wt_4 (List.mem_of_getElem? (i := 111) rfl)) rfl
theorem wd_908 : Cond.methodLink RL 98 yX10_days ∈ gw_tbl := gm (wt_4 (List.mem_of_getElem? (i := 112) rfl)) rfl
theorem wd_912 : Cond.methodLink RX10 214 yX8_afterDays ∈ gw_tbl := gm (wt_4 (List.mem_of_getElem? (i := 116) rfl)) rfl
theorem wd_916 : Cond.methodLink RX10 217 yX1_learnt ∈ gw_tbl := gm (wt_4 (List.mem_of_getElem? (i := 120) rfl)) rfl
theorem wd_917 : Cond.methodLink RL 102 yX10_beast ∈ gw_tbl := gm (wt_4 (List.mem_of_getElem? (i := 121) rfl)) rfl
theorem wd_921 : Cond.methodLink RL 106 yX10_string ∈ gw_tbl := gm (wt_4 (List.mem_of_getElem? (i := 125) rfl)) rfl
theorem wd_925 : Cond.methodLink RX10 223 yX5_placeOfLeast ∈ gw_tbl := gm (wt_4 (List.mem_of_getElem? (i := 129) rfl)) rfl
theorem wd_929 : Cond.methodLink RX5 23 yX5_get ∈ gw_tbl := gm (wt_4 (List.mem_of_getElem? (i := 133) rfl)) rfl
theorem wd_930 : Cond.methodLink RX10 226 yX9_fearThere ∈ gw_tbl := gm (wt_4 (List.mem_of_getElem? (i := 134) rfl)) rfl
theorem wd_934 : Cond.methodLink RX10 229 yX5_get ∈ gw_tbl := gm (wt_4 (List.mem_of_getElem? (i := 138) rfl)) rfl
theorem wd_935 : Cond.methodLink RX10 230 yJ9_max_7cf53 ∈ gw_tbl := gm (wt_4 (List.mem_of_getElem? (i := 139) rfl)) rfl
theorem wd_936 : Cond.methodLink RL 110 yX10_film ∈ gw_tbl := gm (wt_4 (List.mem_of_getElem? (i := 140) rfl)) rfl
theorem wd_940 : Cond.methodLink RL 114 yX10_off ∈ gw_tbl := gm (wt_4 (List.mem_of_getElem? (i := 144) rfl)) rfl
theorem wd_944 : Cond.methodLink RX10 239 yX8_firstOtherwise ∈ gw_tbl := gm (wt_4 (List.mem_of_getElem? (i := 148) rfl)) rfl
theorem wd_948 : Cond.methodLink RL 118 yX10_judge ∈ gw_tbl := gm (wt_4 (List.mem_of_getElem? (i := 152) rfl)) rfl
theorem wd_952 : Cond.methodLink RX10 242 yX10_tapeOf ∈ gw_tbl := gm (wt_4 (List.mem_of_getElem? (i := 156) rfl)) rfl
theorem wd_956 : Cond.methodLink RX10 246 yX6_holdsSomething ∈ gw_tbl := gm (wt_4 (List.mem_of_getElem? (i := 160) rfl)) rfl
theorem wd_960 : Cond.methodLink RX10 249 yX6_sort ∈ gw_tbl := gm (wt_4 (List.mem_of_getElem? (i := 164) rfl)) rfl
theorem wd_964 : Cond.methodLink RX10 252 yX8_firstMistold ∈ gw_tbl := gm (wt_4 (List.mem_of_getElem? (i := 168) rfl)) rfl
theorem wd_968 : Cond.methodLink RX8 97 yX6_has ∈ gw_tbl := gm (wt_4 (List.mem_of_getElem? (i := 172) rfl)) rfl
theorem wd_972 : Cond.methodLink RX8 103 yX6_get ∈ gw_tbl := gm (wt_4 (List.mem_of_getElem? (i := 176) rfl)) rfl
theorem wd_976 : Cond.methodLink RX6 37 yX6_has ∈ gw_tbl := gm (wt_4 (List.mem_of_getElem? (i := 180) rfl)) rfl
theorem wd_977 : Cond.methodLink RL 122 yX10_image ∈ gw_tbl := gm (wt_4 (List.mem_of_getElem? (i := 181) rfl)) rfl
theorem wd_981 : Cond.methodLink RX10 256 yX3_become ∈ gw_tbl := gm (wt_4 (List.mem_of_getElem? (i := 185) rfl)) rfl
theorem wd_985 : Cond.methodLink RX3 40 yX1_become ∈ gw_tbl := gm (wt_4 (List.mem_of_getElem? (i := 189) rfl)) rfl
theorem wd_986 : Cond.methodLink RX3 44 yX5_become ∈ gw_tbl := gm (wt_4 (List.mem_of_getElem? (i := 190) rfl)) rfl
theorem wd_990 : Cond.methodLink RX5 27 yX5_clear ∈ gw_tbl := gm (wt_4 (List.mem_of_getElem? (i := 194) rfl)) rfl
theorem wd_991 : Cond.methodLink RX5 30 yX5_size ∈ gw_tbl := gm (wt_4 (List.mem_of_getElem? (i := 195) rfl)) rfl
theorem wd_992 : Cond.methodLink RX5 33 yX5_add ∈ gw_tbl := gm (wt_4 (List.mem_of_getElem? (i := 196) rfl)) rfl
theorem wd_993 : Cond.methodLink RL 126 yX10_undo ∈ gw_tbl := gm (wt_4 (List.mem_of_getElem? (i := 197) rfl)) rfl
theorem wd_997 : Cond.methodLink RX10 264 yX10_heldLaw ∈ gw_tbl := gm (wt_4 (List.mem_of_getElem? (i := 201) rfl)) rfl
theorem wd_1001 : Cond.methodLink RL 130 yX10_part ∈ gw_tbl := gm (wt_4 (List.mem_of_getElem? (i := 205) rfl)) rfl
theorem wd_1005 : Cond.methodLink RX10 268 yX0_ask ∈ gw_tbl := gm (wt_4 (List.mem_of_getElem? (i := 209) rfl)) rfl
theorem wd_1009 : Cond.methodLink RX0 32 yX5_clear ∈ gw_tbl := gm (wt_4 (List.mem_of_getElem? (i := 213) rfl)) rfl
theorem wd_1010 : Cond.methodLink RX0 35 yX4_has ∈ gw_tbl := gm (wt_4 (List.mem_of_getElem? (i := 214) rfl)) rfl
theorem wd_1011 : Cond.methodLink RX0 41 yX4_kindOf ∈ gw_tbl := gm (wt_4 (List.mem_of_getElem? (i := 215) rfl)) rfl
theorem wd_1012 : Cond.methodLink RX0 47 yX4_numberOf ∈ gw_tbl := gm (wt_4 (List.mem_of_getElem? (i := 216) rfl)) rfl
theorem wd_1013 : Cond.methodLink RX0 56 yX0_run ∈ gw_tbl := gm (wt_4 (List.mem_of_getElem? (i := 217) rfl)) rfl
theorem wd_1017 : Cond.methodLink RX0 67 yX0_bodyOf ∈ gw_tbl := gm (wt_4 (List.mem_of_getElem? (i := 221) rfl)) rfl
theorem wd_1020 : Cond.fieldLink RX0 60 "DonkeyBridge$Bodies" "BODIES" "[I" ∈ gw_tbl := gm (wt_4 (List.mem_of_getElem? (i := 224) rfl)) rfl
theorem wd_1022 : Cond.methodLink RX0 64 yX4_aboveOf ∈ gw_tbl := gm (wt_4 (List.mem_of_getElem? (i := 226) rfl)) rfl
theorem wd_1025 : Cond.fieldLink RX4 25 "DonkeyBridge$Road" "ABOVE" "[I" ∈ gw_tbl := gm (wt_4 (List.mem_of_getElem? (i := 229) rfl)) rfl
theorem wd_1027 : Cond.methodLink RX0 71 yX5_add ∈ gw_tbl := gm (wt_4 (List.mem_of_getElem? (i := 231) rfl)) rfl
theorem wd_1028 : Cond.methodLink RX0 74 yX0_answer ∈ gw_tbl := gm (wt_4 (List.mem_of_getElem? (i := 232) rfl)) rfl
theorem wd_1032 : Cond.methodLink RL 134 yX10_trace ∈ gw_tbl := gm (wt_4 (List.mem_of_getElem? (i := 236) rfl)) rfl
theorem wd_1036 : Cond.methodLink RX10 271 yX0_kept ∈ gw_tbl := gm (wt_5 (List.mem_of_getElem? (i := 0) rfl)) rfl
theorem wd_1040 : Cond.methodLink RX0 28 yX5_get ∈ gw_tbl := gm (wt_5 (List.mem_of_getElem? (i := 4) rfl)) rfl
theorem wd_1041 : Cond.methodLink RL 138 yX10_taken ∈ gw_tbl := gm (wt_5 (List.mem_of_getElem? (i := 5) rfl)) rfl
theorem wd_1045 : Cond.methodLink RX10 273 yX4_isUnder ∈ gw_tbl := gm (wt_5 (List.mem_of_getElem? (i := 9) rfl)) rfl
theorem wd_1048 : Cond.methodLink RX4 28 yX4_aboveOf ∈ gw_tbl := gm (wt_5 (List.mem_of_getElem? (i := 12) rfl)) rfl
theorem wd_1049 : Cond.methodLink RL 142 yX10_count ∈ gw_tbl := gm (wt_5 (List.mem_of_getElem? (i := 13) rfl)) rfl
theorem wd_1053 : Cond.methodLink RX10 277 yX0_ran ∈ gw_tbl := gm (wt_5 (List.mem_of_getElem? (i := 17) rfl)) rfl
theorem wd_1057 : Cond.methodLink RL 146 yX10_tape ∈ gw_tbl := gm (wt_5 (List.mem_of_getElem? (i := 21) rfl)) rfl
theorem wd_1061 : Cond.methodLink RX10 280 yX6_renew ∈ gw_tbl := gm (wt_5 (List.mem_of_getElem? (i := 25) rfl)) rfl
theorem wd_1065 : Cond.methodLink RX6 19 yJ9_min_7cf53 ∈ gw_tbl := gm (wt_5 (List.mem_of_getElem? (i := 29) rfl)) rfl
theorem wd_1066 : Cond.methodLink RX6 25 yJ9_max_7cf53 ∈ gw_tbl := gm (wt_5 (List.mem_of_getElem? (i := 30) rfl)) rfl
theorem wd_1067 : Cond.methodLink RX6 31 yJ7_fill_d0a16 ∈ gw_tbl := gm (wt_5 (List.mem_of_getElem? (i := 31) rfl)) rfl
theorem wd_1070 : Cond.methodLink RL 152 yX10_item ∈ gw_tbl := gm (wt_5 (List.mem_of_getElem? (i := 34) rfl)) rfl
theorem wd_1074 : Cond.methodLink RX10 283 yX6_has ∈ gw_tbl := gm (wt_5 (List.mem_of_getElem? (i := 38) rfl)) rfl
theorem wd_1075 : Cond.methodLink RX10 284 yX6_put ∈ gw_tbl := gm (wt_5 (List.mem_of_getElem? (i := 39) rfl)) rfl
theorem wd_1079 : Cond.methodLink RX6 41 yX6_cut ∈ gw_tbl := gm (wt_5 (List.mem_of_getElem? (i := 43) rfl)) rfl
theorem wd_1083 : Cond.methodLink RL 157 yX10_read ∈ gw_tbl := gm (wt_5 (List.mem_of_getElem? (i := 47) rfl)) rfl
theorem wd_1087 : Cond.methodLink RX10 287 yX6_get ∈ gw_tbl := gm (wt_5 (List.mem_of_getElem? (i := 51) rfl)) rfl
theorem wd_1088 : Cond.methodLink RL 161 yX10_shift ∈ gw_tbl := gm (wt_5 (List.mem_of_getElem? (i := 52) rfl)) rfl
theorem wd_1092 : Cond.methodLink RX10 290 yX6_spans ∈ gw_tbl := gm (wt_5 (List.mem_of_getElem? (i := 56) rfl)) rfl
theorem wd_1096 : Cond.methodLink RX10 293 yX6_copyIn ∈ gw_tbl := gm (wt_5 (List.mem_of_getElem? (i := 60) rfl)) rfl
theorem wd_1100 : Cond.methodLink RX6 45 yX6_spans ∈ gw_tbl := gm (wt_5 (List.mem_of_getElem? (i := 64) rfl)) rfl
theorem wd_1101 : Cond.methodLink RX6 49 ⟨"java/lang/System", "arraycopy", "(Ljava/lang/Object;ILjava/lang/Object;II)V"⟩ ∈ gw_tbl := gm (wt_5 (List.mem_of_getElem? (i := 65) rfl)) rfl
theorem wd_1102 : Cond.classLink RL 10 RX11 ∈ gw_tbl := gm (wt_5 (List.mem_of_getElem? (i := 66) rfl)) rfl
theorem wd_1104 : Cond.methodLink RL 12 yX11_init ∈ gw_tbl := gm (wt_5 (List.mem_of_getElem? (i := 68) rfl)) rfl
theorem wd_1107 : Cond.methodLink RX11 3 ⟨"java/lang/Object", "<init>", "()V"⟩ ∈ gw_tbl := gm (wt_5 (List.mem_of_getElem? (i := 71) rfl)) rfl
theorem wd_1108 : Cond.fieldLink RX11 109 "DonkeyBridgeModel" "places" "I" ∈ gw_tbl := gm (wt_5 (List.mem_of_getElem? (i := 72) rfl)) rfl
theorem wd_1109 : Cond.fieldLink RX11 9 "DonkeyBridgeModel" "kind" "[I" ∈ gw_tbl := gm (wt_5 (List.mem_of_getElem? (i := 73) rfl)) rfl
theorem wd_1110 : Cond.fieldLink RX11 15 "DonkeyBridgeModel" "number" "[I" ∈ gw_tbl := gm (wt_5 (List.mem_of_getElem? (i := 74) rfl)) rfl
theorem wd_1111 : Cond.fieldLink RX11 18 "DonkeyBridgeModel" "thing" "[I" ∈ gw_tbl := gm (wt_5 (List.mem_of_getElem? (i := 75) rfl)) rfl
theorem wd_1112 : Cond.fieldLink RX11 21 "DonkeyBridgeModel" "is" "[I" ∈ gw_tbl := gm (wt_5 (List.mem_of_getElem? (i := 76) rfl)) rfl
theorem wd_1113 : Cond.fieldLink RX11 24 "DonkeyBridgeModel" "tape" "[B" ∈ gw_tbl := gm (wt_5 (List.mem_of_getElem? (i := 77) rfl)) rfl
theorem wd_1114 : Cond.fieldLink RX11 131 "DonkeyBridgeModel" "taped" "I" ∈ gw_tbl := gm (wt_5 (List.mem_of_getElem? (i := 78) rfl)) rfl
theorem wd_1115 : Cond.fieldLink RX11 150 "DonkeyBridgeModel" "laws" "I" ∈ gw_tbl := gm (wt_5 (List.mem_of_getElem? (i := 79) rfl)) rfl
theorem wd_1116 : Cond.fieldLink RX11 28 "DonkeyBridgeModel" "holds" "I" ∈ gw_tbl := gm (wt_5 (List.mem_of_getElem? (i := 80) rfl)) rfl
theorem wd_1117 : Cond.fieldLink RX11 32 "DonkeyBridgeModel" "clauseMany" "[I" ∈ gw_tbl := gm (wt_5 (List.mem_of_getElem? (i := 81) rfl)) rfl
theorem wd_1118 : Cond.fieldLink RX11 35 "DonkeyBridgeModel" "clauseIs" "[I" ∈ gw_tbl := gm (wt_5 (List.mem_of_getElem? (i := 82) rfl)) rfl
theorem wd_1119 : Cond.fieldLink RX11 38 "DonkeyBridgeModel" "clauseN" "[I" ∈ gw_tbl := gm (wt_5 (List.mem_of_getElem? (i := 83) rfl)) rfl
theorem wd_1120 : Cond.fieldLink RX11 41 "DonkeyBridgeModel" "clauseFrom" "[I" ∈ gw_tbl := gm (wt_5 (List.mem_of_getElem? (i := 84) rfl)) rfl
theorem wd_1121 : Cond.fieldLink RX11 44 "DonkeyBridgeModel" "clauseTo" "[I" ∈ gw_tbl := gm (wt_5 (List.mem_of_getElem? (i := 85) rfl)) rfl
theorem wd_1122 : Cond.fieldLink RX11 47 "DonkeyBridgeModel" "step" "[I" ∈ gw_tbl := gm (wt_5 (List.mem_of_getElem? (i := 86) rfl)) rfl
theorem wd_1123 : Cond.fieldLink RX11 50 "DonkeyBridgeModel" "letter" "[I" ∈ gw_tbl := gm (wt_5 (List.mem_of_getElem? (i := 87) rfl)) rfl
theorem wd_1124 : Cond.fieldLink RX11 53 "DonkeyBridgeModel" "sign" "[I" ∈ gw_tbl := gm (wt_5 (List.mem_of_getElem? (i := 88) rfl)) rfl
theorem wd_1125 : Cond.fieldLink RX11 56 "DonkeyBridgeModel" "value" "[I" ∈ gw_tbl := gm (wt_5 (List.mem_of_getElem? (i := 89) rfl)) rfl
theorem wd_1126 : Cond.fieldLink RX11 137 "DonkeyBridgeModel" "here" "I" ∈ gw_tbl := gm (wt_5 (List.mem_of_getElem? (i := 90) rfl)) rfl
theorem wd_1127 : Cond.fieldLink RX11 134 "DonkeyBridgeModel" "fault" "I" ∈ gw_tbl := gm (wt_5 (List.mem_of_getElem? (i := 91) rfl)) rfl
theorem wd_1128 : Cond.fieldLink RX11 153 "DonkeyBridgeModel" "laid" "I" ∈ gw_tbl := gm (wt_5 (List.mem_of_getElem? (i := 92) rfl)) rfl
theorem wd_1129 : Cond.fieldLink RX11 59 "DonkeyBridgeModel" "words" "[I" ∈ gw_tbl := gm (wt_5 (List.mem_of_getElem? (i := 93) rfl)) rfl
theorem wd_1130 : Cond.fieldLink RX11 62 "DonkeyBridgeModel" "pile" "[Z" ∈ gw_tbl := gm (wt_5 (List.mem_of_getElem? (i := 94) rfl)) rfl
theorem wd_1131 : Cond.fieldLink RX11 212 "DonkeyBridgeModel" "moreLead" "I" ∈ gw_tbl := gm (wt_5 (List.mem_of_getElem? (i := 95) rfl)) rfl
theorem wd_1132 : Cond.fieldLink RX11 218 "DonkeyBridgeModel" "wandered" "I" ∈ gw_tbl := gm (wt_5 (List.mem_of_getElem? (i := 96) rfl)) rfl
theorem wd_1133 : Cond.fieldLink RX11 246 "DonkeyBridgeModel" "rowMany" "I" ∈ gw_tbl := gm (wt_5 (List.mem_of_getElem? (i := 97) rfl)) rfl
theorem wd_1134 : Cond.fieldLink RX11 66 "DonkeyBridgeModel" "row" "[I" ∈ gw_tbl := gm (wt_5 (List.mem_of_getElem? (i := 98) rfl)) rfl
theorem wd_1135 : Cond.fieldLink RX11 69 "DonkeyBridgeModel" "was" "[I" ∈ gw_tbl := gm (wt_5 (List.mem_of_getElem? (i := 99) rfl)) rfl
theorem wd_1136 : Cond.fieldLink RX11 259 "DonkeyBridgeModel" "learntThen" "I" ∈ gw_tbl := gm (wt_5 (List.mem_of_getElem? (i := 100) rfl)) rfl
theorem wd_1137 : Cond.fieldLink RX11 271 "DonkeyBridgeModel" "odds" "I" ∈ gw_tbl := gm (wt_5 (List.mem_of_getElem? (i := 101) rfl)) rfl
theorem wd_1138 : Cond.fieldLink RX11 282 "DonkeyBridgeModel" "beasts" "I" ∈ gw_tbl := gm (wt_5 (List.mem_of_getElem? (i := 102) rfl)) rfl
theorem wd_1139 : Cond.fieldLink RX11 72 "DonkeyBridgeModel" "beastFear" "[I" ∈ gw_tbl := gm (wt_5 (List.mem_of_getElem? (i := 103) rfl)) rfl
theorem wd_1140 : Cond.fieldLink RX11 285 "DonkeyBridgeModel" "filmed" "I" ∈ gw_tbl := gm (wt_5 (List.mem_of_getElem? (i := 104) rfl)) rfl
theorem wd_1141 : Cond.fieldLink RX11 75 "DonkeyBridgeModel" "film" "[I" ∈ gw_tbl := gm (wt_5 (List.mem_of_getElem? (i := 105) rfl)) rfl
theorem wd_1142 : Cond.fieldLink RX11 78 "DonkeyBridgeModel" "tapeSort" "[I" ∈ gw_tbl := gm (wt_5 (List.mem_of_getElem? (i := 106) rfl)) rfl
theorem wd_1143 : Cond.fieldLink RX11 81 "DonkeyBridgeModel" "tapeSize" "[I" ∈ gw_tbl := gm (wt_5 (List.mem_of_getElem? (i := 107) rfl)) rfl
theorem wd_1144 : Cond.fieldLink RX11 84 "DonkeyBridgeModel" "items" "[J" ∈ gw_tbl := gm (wt_5 (List.mem_of_getElem? (i := 108) rfl)) rfl
theorem wd_1145 : Cond.fieldLink RX11 88 "DonkeyBridgeModel" "moving" "[J" ∈ gw_tbl := gm (wt_5 (List.mem_of_getElem? (i := 109) rfl)) rfl
theorem wd_1146 : Cond.fieldLink RX11 291 "DonkeyBridgeModel" "hasImage" "Z" ∈ gw_tbl := gm (wt_5 (List.mem_of_getElem? (i := 110) rfl)) rfl
theorem wd_1147 : Cond.fieldLink RX11 295 "DonkeyBridgeModel" "keptHolds" "I" ∈ gw_tbl := gm (wt_5 (List.mem_of_getElem? (i := 111) rfl)) rfl
theorem wd_1148 : Cond.fieldLink RX11 298 "DonkeyBridgeModel" "keptOdds" "I" ∈ gw_tbl := gm (wt_5 (List.mem_of_getElem? (i := 112) rfl)) rfl
theorem wd_1149 : Cond.fieldLink RX11 301 "DonkeyBridgeModel" "keptRows" "I" ∈ gw_tbl := gm (wt_5 (List.mem_of_getElem? (i := 113) rfl)) rfl
theorem wd_1150 : Cond.fieldLink RX11 304 "DonkeyBridgeModel" "keptFilmed" "I" ∈ gw_tbl := gm (wt_5 (List.mem_of_getElem? (i := 114) rfl)) rfl
theorem wd_1151 : Cond.fieldLink RX11 307 "DonkeyBridgeModel" "keptBeasts" "I" ∈ gw_tbl := gm (wt_5 (List.mem_of_getElem? (i := 115) rfl)) rfl
theorem wd_1152 : Cond.fieldLink RX11 91 "DonkeyBridgeModel" "keptIs" "[I" ∈ gw_tbl := gm (wt_5 (List.mem_of_getElem? (i := 116) rfl)) rfl
theorem wd_1153 : Cond.fieldLink RX11 94 "DonkeyBridgeModel" "keptRow" "[I" ∈ gw_tbl := gm (wt_5 (List.mem_of_getElem? (i := 117) rfl)) rfl
theorem wd_1154 : Cond.fieldLink RX11 97 "DonkeyBridgeModel" "keptFilm" "[I" ∈ gw_tbl := gm (wt_5 (List.mem_of_getElem? (i := 118) rfl)) rfl
theorem wd_1155 : Cond.fieldLink RX11 100 "DonkeyBridgeModel" "keptFear" "[I" ∈ gw_tbl := gm (wt_5 (List.mem_of_getElem? (i := 119) rfl)) rfl
theorem wd_1156 : Cond.fieldLink RX11 310 "DonkeyBridgeModel" "traces" "I" ∈ gw_tbl := gm (wt_5 (List.mem_of_getElem? (i := 120) rfl)) rfl
theorem wd_1157 : Cond.fieldLink RX11 103 "DonkeyBridgeModel" "traced" "[I" ∈ gw_tbl := gm (wt_5 (List.mem_of_getElem? (i := 121) rfl)) rfl
theorem wd_1262 : Cond.methodLink RL 17 yX11_place ∈ gw_tbl := gm (wt_5 (List.mem_of_getElem? (i := 226) rfl)) rfl
theorem wd_1266 : Cond.methodLink RX11 112 yX11_in ∈ gw_tbl := gm (wt_5 (List.mem_of_getElem? (i := 230) rfl)) rfl
theorem wd_1269 : Cond.methodLink RL 22 yX11_of ∈ gw_tbl := gm (wt_5 (List.mem_of_getElem? (i := 233) rfl)) rfl
theorem wd_1273 : Cond.methodLink RX11 116 yX11_isPlace ∈ gw_tbl := gm (wt_5 (List.mem_of_getElem? (i := 237) rfl)) rfl
theorem wd_1277 : Cond.methodLink RL 26 yX11_set ∈ gw_tbl := gm (wt_6 (List.mem_of_getElem? (i := 1) rfl)) rfl
theorem wd_1281 : Cond.methodLink RX11 120 yX11_mostOf ∈ gw_tbl := gm (wt_6 (List.mem_of_getElem? (i := 5) rfl)) rfl
theorem wd_1285 : Cond.methodLink RL 31 yX11_now ∈ gw_tbl := gm (wt_6 (List.mem_of_getElem? (i := 9) rfl)) rfl
theorem wd_1289 : Cond.methodLink RX11 128 yX11_nowOf ∈ gw_tbl := gm (wt_6 (List.mem_of_getElem? (i := 13) rfl)) rfl
theorem wd_1293 : Cond.methodLink RX11 124 yX11_learnt ∈ gw_tbl := gm (wt_6 (List.mem_of_getElem? (i := 17) rfl)) rfl
theorem wd_1297 : Cond.methodLink RL 35 yX11_feed ∈ gw_tbl := gm (wt_6 (List.mem_of_getElem? (i := 21) rfl)) rfl
theorem wd_1301 : Cond.methodLink RL 40 yX11_law ∈ gw_tbl := gm (wt_6 (List.mem_of_getElem? (i := 25) rfl)) rfl
theorem wd_1305 : Cond.methodLink RX11 181 yX11_clause ∈ gw_tbl := gm (wt_6 (List.mem_of_getElem? (i := 29) rfl)) rfl
theorem wd_1309 : Cond.methodLink RX11 178 yX11_readWord ∈ gw_tbl := gm (wt_6 (List.mem_of_getElem? (i := 33) rfl)) rfl
theorem wd_1313 : Cond.methodLink RX11 143 yX11_faulty ∈ gw_tbl := gm (wt_6 (List.mem_of_getElem? (i := 37) rfl)) rfl
theorem wd_1317 : Cond.methodLink RX11 175 yX11_readNumber ∈ gw_tbl := gm (wt_6 (List.mem_of_getElem? (i := 41) rfl)) rfl
theorem wd_1321 : Cond.methodLink RX11 146 yX11_isDigit ∈ gw_tbl := gm (wt_6 (List.mem_of_getElem? (i := 45) rfl)) rfl
theorem wd_1325 : Cond.methodLink RX11 169 yX11_takes ∈ gw_tbl := gm (wt_6 (List.mem_of_getElem? (i := 49) rfl)) rfl
theorem wd_1329 : Cond.methodLink RX11 140 yX11_isHere ∈ gw_tbl := gm (wt_6 (List.mem_of_getElem? (i := 53) rfl)) rfl
theorem wd_1333 : Cond.methodLink RX11 160 yX11_either ∈ gw_tbl := gm (wt_6 (List.mem_of_getElem? (i := 57) rfl)) rfl
theorem wd_1337 : Cond.methodLink RX11 156 yX11_both ∈ gw_tbl := gm (wt_6 (List.mem_of_getElem? (i := 61) rfl)) rfl
theorem wd_1341 : Cond.methodLink RX11 166 yX11_one ∈ gw_tbl := gm (wt_6 (List.mem_of_getElem? (i := 65) rfl)) rfl
theorem wd_1345 : Cond.methodLink RX11 163 yX11_lay ∈ gw_tbl := gm (wt_6 (List.mem_of_getElem? (i := 69) rfl)) rfl
theorem wd_1349 : Cond.methodLink RX11 172 yX11_isLetter ∈ gw_tbl := gm (wt_6 (List.mem_of_getElem? (i := 73) rfl)) rfl
theorem wd_1353 : Cond.methodLink RL 44 yX11_told ∈ gw_tbl := gm (wt_6 (List.mem_of_getElem? (i := 77) rfl)) rfl
theorem wd_1357 : Cond.methodLink RX11 200 yX11_lastOf ∈ gw_tbl := gm (wt_6 (List.mem_of_getElem? (i := 81) rfl)) rfl
theorem wd_1361 : Cond.methodLink RX11 203 yX11_isOver ∈ gw_tbl := gm (wt_6 (List.mem_of_getElem? (i := 85) rfl)) rfl
theorem wd_1365 : Cond.methodLink RX11 206 yX11_sumOf ∈ gw_tbl := gm (wt_6 (List.mem_of_getElem? (i := 89) rfl)) rfl
theorem wd_1369 : Cond.methodLink RX11 197 yX11_isSo ∈ gw_tbl := gm (wt_6 (List.mem_of_getElem? (i := 93) rfl)) rfl
theorem wd_1373 : Cond.methodLink RX11 191 yX11_factOf ∈ gw_tbl := gm (wt_6 (List.mem_of_getElem? (i := 97) rfl)) rfl
theorem wd_1377 : Cond.methodLink RX11 184 yX11_sizeOf ∈ gw_tbl := gm (wt_6 (List.mem_of_getElem? (i := 101) rfl)) rfl
theorem wd_1380 : Cond.methodLink RX11 187 yX11_held ∈ gw_tbl := gm (wt_6 (List.mem_of_getElem? (i := 104) rfl)) rfl
theorem wd_1383 : Cond.methodLink RX11 194 yX11_test ∈ gw_tbl := gm (wt_6 (List.mem_of_getElem? (i := 107) rfl)) rfl
theorem wd_1386 : Cond.methodLink RL 48 yX11_drive ∈ gw_tbl := gm (wt_6 (List.mem_of_getElem? (i := 110) rfl)) rfl
theorem wd_1390 : Cond.methodLink RX11 221 yX11_isAct ∈ gw_tbl := gm (wt_6 (List.mem_of_getElem? (i := 114) rfl)) rfl
theorem wd_1393 : Cond.constant RX11 224 (-100001) ∈ gw_tbl := gm (wt_6 (List.mem_of_getElem? (i := 117) rfl)) rfl
theorem wd_1394 : Cond.constant RX11 225 (-100003) ∈ gw_tbl := gm (wt_6 (List.mem_of_getElem? (i := 118) rfl)) rfl
theorem wd_1395 : Cond.methodLink RX11 226 yX11_driveBy ∈ gw_tbl := gm (wt_6 (List.mem_of_getElem? (i := 119) rfl)) rfl
theorem wd_1399 : Cond.methodLink RX11 215 yX11_lessBy ∈ gw_tbl := gm (wt_6 (List.mem_of_getElem? (i := 123) rfl)) rfl
theorem wd_1403 : Cond.methodLink RX11 209 yX11_fearAs ∈ gw_tbl := gm (wt_6 (List.mem_of_getElem? (i := 127) rfl)) rfl
theorem wd_1407 : Cond.methodLink RL 52 yX11_would ∈ gw_tbl := gm (wt_6 (List.mem_of_getElem? (i := 131) rfl)) rfl
theorem wd_1411 : Cond.methodLink RX11 229 yX11_wouldBy ∈ gw_tbl := gm (wt_6 (List.mem_of_getElem? (i := 135) rfl)) rfl
theorem wd_1415 : Cond.methodLink RL 56 yX11_go ∈ gw_tbl := gm (wt_6 (List.mem_of_getElem? (i := 139) rfl)) rfl
theorem wd_1419 : Cond.methodLink RX11 232 yX11_fordHalves ∈ gw_tbl := gm (wt_6 (List.mem_of_getElem? (i := 143) rfl)) rfl
theorem wd_1423 : Cond.methodLink RX11 243 yX11_does ∈ gw_tbl := gm (wt_6 (List.mem_of_getElem? (i := 147) rfl)) rfl
theorem wd_1427 : Cond.methodLink RX11 235 yX11_more ∈ gw_tbl := gm (wt_6 (List.mem_of_getElem? (i := 151) rfl)) rfl
theorem wd_1431 : Cond.methodLink RX11 239 yX11_driven ∈ gw_tbl := gm (wt_6 (List.mem_of_getElem? (i := 155) rfl)) rfl
theorem wd_1435 : Cond.methodLink RL 60 yX11_row ∈ gw_tbl := gm (wt_6 (List.mem_of_getElem? (i := 159) rfl)) rfl
theorem wd_1439 : Cond.methodLink RL 64 yX11_hand ∈ gw_tbl := gm (wt_6 (List.mem_of_getElem? (i := 163) rfl)) rfl
theorem wd_1443 : Cond.methodLink RX11 249 yX11_keepNow ∈ gw_tbl := gm (wt_6 (List.mem_of_getElem? (i := 167) rfl)) rfl
theorem wd_1447 : Cond.methodLink RX11 252 yX11_layBack ∈ gw_tbl := gm (wt_6 (List.mem_of_getElem? (i := 171) rfl)) rfl
theorem wd_1451 : Cond.methodLink RL 68 yX11_soonest ∈ gw_tbl := gm (wt_6 (List.mem_of_getElem? (i := 175) rfl)) rfl
theorem wd_1455 : Cond.methodLink RX11 262 yX11_rowsOf ∈ gw_tbl := gm (wt_6 (List.mem_of_getElem? (i := 179) rfl)) rfl
theorem wd_1458 : Cond.methodLink RX11 265 yX11_atBehind ∈ gw_tbl := gm (wt_6 (List.mem_of_getElem? (i := 182) rfl)) rfl
theorem wd_1462 : Cond.methodLink RX11 255 yX11_actOf ∈ gw_tbl := gm (wt_6 (List.mem_of_getElem? (i := 186) rfl)) rfl
theorem wd_1465 : Cond.methodLink RL 72 yX11_gentlest ∈ gw_tbl := gm (wt_6 (List.mem_of_getElem? (i := 189) rfl)) rfl
theorem wd_1469 : Cond.methodLink RL 76 yX11_why ∈ gw_tbl := gm (wt_6 (List.mem_of_getElem? (i := 193) rfl)) rfl
theorem wd_1473 : Cond.methodLink RL 80 yX11_waits ∈ gw_tbl := gm (wt_6 (List.mem_of_getElem? (i := 197) rfl)) rfl
theorem wd_1477 : Cond.methodLink RX11 268 yX11_waitsFor ∈ gw_tbl := gm (wt_6 (List.mem_of_getElem? (i := 201) rfl)) rfl
theorem wd_1481 : Cond.methodLink RL 84 yX11_round ∈ gw_tbl := gm (wt_6 (List.mem_of_getElem? (i := 205) rfl)) rfl
theorem wd_1485 : Cond.methodLink RL 88 yX11_shiftLoad ∈ gw_tbl := gm (wt_6 (List.mem_of_getElem? (i := 209) rfl)) rfl
theorem wd_1489 : Cond.methodLink RL 92 yX11_wander ∈ gw_tbl := gm (wt_6 (List.mem_of_getElem? (i := 213) rfl)) rfl
theorem wd_1493 : Cond.methodLink RL 97 yX11_sure ∈ gw_tbl := gm (wt_6 (List.mem_of_getElem? (i := 217) rfl)) rfl
theorem wd_1497 : Cond.constantLong RX11 274 (-9223372036854775808) ∈ gw_tbl := gm (wt_6 (List.mem_of_getElem? (i := 221) rfl)) rfl
theorem wd_1498 : Cond.constantLong RX11 276 (10) ∈ gw_tbl := gm (wt_6 (List.mem_of_getElem? (i := 222) rfl)) rfl
theorem wd_1499 : Cond.methodLink RX11 278 yX11_lowest ∈ gw_tbl := gm (wt_6 (List.mem_of_getElem? (i := 223) rfl)) rfl
theorem wd_1502 : Cond.methodLink RL 101 yX11_days ∈ gw_tbl := gm (wt_6 (List.mem_of_getElem? (i := 226) rfl)) rfl
theorem wd_1506 : Cond.methodLink RL 105 yX11_beast ∈ gw_tbl := gm (wt_6 (List.mem_of_getElem? (i := 230) rfl)) rfl
theorem wd_1510 : Cond.methodLink RL 109 yX11_string ∈ gw_tbl := gm (wt_6 (List.mem_of_getElem? (i := 234) rfl)) rfl
theorem wd_1514 : Cond.methodLink RL 113 yX11_film ∈ gw_tbl := gm (wt_6 (List.mem_of_getElem? (i := 238) rfl)) rfl
theorem wd_1518 : Cond.methodLink RL 117 yX11_off ∈ gw_tbl := gm (wt_7 (List.mem_of_getElem? (i := 2) rfl)) rfl
theorem wd_1522 : Cond.methodLink RL 121 yX11_judge ∈ gw_tbl := gm (wt_7 (List.mem_of_getElem? (i := 6) rfl)) rfl
theorem wd_1526 : Cond.methodLink RX11 288 yX11_isTape ∈ gw_tbl := gm (wt_7 (List.mem_of_getElem? (i := 10) rfl)) rfl
theorem wd_1529 : Cond.methodLink RL 125 yX11_image ∈ gw_tbl := gm (wt_7 (List.mem_of_getElem? (i := 13) rfl)) rfl
theorem wd_1533 : Cond.methodLink RL 129 yX11_undo ∈ gw_tbl := gm (wt_7 (List.mem_of_getElem? (i := 17) rfl)) rfl
theorem wd_1537 : Cond.methodLink RL 133 yX11_part ∈ gw_tbl := gm (wt_7 (List.mem_of_getElem? (i := 21) rfl)) rfl
theorem wd_1541 : Cond.methodLink RX11 319 yX11_holding ∈ gw_tbl := gm (wt_7 (List.mem_of_getElem? (i := 25) rfl)) rfl
theorem wd_1545 : Cond.methodLink RX11 313 yX11_ran ∈ gw_tbl := gm (wt_7 (List.mem_of_getElem? (i := 29) rfl)) rfl
theorem wd_1549 : Cond.methodLink RX11 316 yX11_plainHolds ∈ gw_tbl := gm (wt_7 (List.mem_of_getElem? (i := 33) rfl)) rfl
theorem wd_1553 : Cond.methodLink RX11 331 yX11_chooses ∈ gw_tbl := gm (wt_7 (List.mem_of_getElem? (i := 37) rfl)) rfl
theorem wd_1557 : Cond.methodLink RX11 325 yX11_fearedChooses ∈ gw_tbl := gm (wt_7 (List.mem_of_getElem? (i := 41) rfl)) rfl
theorem wd_1561 : Cond.methodLink RX11 322 yX11_plainChooses ∈ gw_tbl := gm (wt_7 (List.mem_of_getElem? (i := 45) rfl)) rfl
theorem wd_1565 : Cond.methodLink RX11 328 yX11_calledChooses ∈ gw_tbl := gm (wt_7 (List.mem_of_getElem? (i := 49) rfl)) rfl
theorem wd_1569 : Cond.methodLink RX11 340 yX11_telling ∈ gw_tbl := gm (wt_7 (List.mem_of_getElem? (i := 53) rfl)) rfl
theorem wd_1573 : Cond.methodLink RX11 334 yX11_plainTells ∈ gw_tbl := gm (wt_7 (List.mem_of_getElem? (i := 57) rfl)) rfl
theorem wd_1577 : Cond.methodLink RX11 337 yX11_spoiltTells ∈ gw_tbl := gm (wt_7 (List.mem_of_getElem? (i := 61) rfl)) rfl
theorem wd_1581 : Cond.methodLink RL 137 yX11_trace ∈ gw_tbl := gm (wt_7 (List.mem_of_getElem? (i := 65) rfl)) rfl
theorem wd_1585 : Cond.methodLink RL 141 yX11_taken ∈ gw_tbl := gm (wt_7 (List.mem_of_getElem? (i := 69) rfl)) rfl
theorem wd_1589 : Cond.methodLink RX11 343 yX11_isUnder ∈ gw_tbl := gm (wt_7 (List.mem_of_getElem? (i := 73) rfl)) rfl
theorem wd_1592 : Cond.methodLink RL 145 yX11_count ∈ gw_tbl := gm (wt_7 (List.mem_of_getElem? (i := 76) rfl)) rfl
theorem wd_1596 : Cond.methodLink RL 149 yX11_tape ∈ gw_tbl := gm (wt_7 (List.mem_of_getElem? (i := 80) rfl)) rfl
theorem wd_1600 : Cond.methodLink RL 156 yX11_item ∈ gw_tbl := gm (wt_7 (List.mem_of_getElem? (i := 84) rfl)) rfl
theorem wd_1604 : Cond.methodLink RX11 347 yX11_as ∈ gw_tbl := gm (wt_7 (List.mem_of_getElem? (i := 88) rfl)) rfl
theorem wd_1607 : Cond.methodLink RL 160 yX11_read ∈ gw_tbl := gm (wt_7 (List.mem_of_getElem? (i := 91) rfl)) rfl
theorem wd_1611 : Cond.methodLink RL 165 yX11_shift ∈ gw_tbl := gm (wt_7 (List.mem_of_getElem? (i := 95) rfl)) rfl
theorem wd_1615 : Cond.constantLong RL 150 (4294967295) ∈ gw_tbl := gm (wt_7 (List.mem_of_getElem? (i := 99) rfl)) rfl
theorem wd_1616 : Cond.fieldLink RJ0 9 "java/lang/String" "value" "[B" ∈ gw_tbl := gm (wt_7 (List.mem_of_getElem? (i := 100) rfl)) rfl
theorem wd_1617 : Cond.fieldLink RJ0 15 "java/lang/String" "coder" "B" ∈ gw_tbl := gm (wt_7 (List.mem_of_getElem? (i := 101) rfl)) rfl
theorem wmX0_init : wmI yX0_init cX0_init 2 1 := ⟨gm (wt_1 (List.mem_of_getElem? (i := 219) rfl)) rfl, gm (wt_1 (List.mem_of_getElem? (i := 218) rfl)) rfl, gm (wt_1 (List.mem_of_getElem? (i := 12) rfl)) rfl, by decide +kernel⟩
theorem wmX0_ran : wmV yX0_ran cX0_ran 1 (some .int) 0 := ⟨gm (wt_5 (List.mem_of_getElem? (i := 20) rfl)) rfl, gm (wt_5 (List.mem_of_getElem? (i := 18) rfl)) rfl, gm (wt_5 (List.mem_of_getElem? (i := 19) rfl)) rfl, gm (wt_1 (List.mem_of_getElem? (i := 12) rfl)) rfl, by decide +kernel⟩
theorem wmX0_kept : wmV yX0_kept cX0_kept 2 (some .int) 1 := ⟨gm (wt_5 (List.mem_of_getElem? (i := 3) rfl)) rfl, gm (wt_5 (List.mem_of_getElem? (i := 1) rfl)) rfl, gm (wt_5 (List.mem_of_getElem? (i := 2) rfl)) rfl, gm (wt_1 (List.mem_of_getElem? (i := 12) rfl)) rfl, by decide +kernel⟩
theorem wmX0_ask : wmV yX0_ask cX0_ask 4 (some .int) 3 := ⟨gm (wt_4 (List.mem_of_getElem? (i := 212) rfl)) rfl, gm (wt_4 (List.mem_of_getElem? (i := 210) rfl)) rfl, gm (wt_4 (List.mem_of_getElem? (i := 211) rfl)) rfl, gm (wt_1 (List.mem_of_getElem? (i := 12) rfl)) rfl, by decide +kernel⟩
theorem wmX0_bodyOf : wmS yX0_bodyOf cX0_bodyOf 5 (some .int) 2 := ⟨gm (wt_4 (List.mem_of_getElem? (i := 223) rfl)) rfl, gm (wt_4 (List.mem_of_getElem? (i := 222) rfl)) rfl, gm (wt_1 (List.mem_of_getElem? (i := 12) rfl)) rfl, by decide +kernel⟩
theorem wmX0_run : wmV yX0_run cX0_run 6 (some .int) 4 := ⟨gm (wt_4 (List.mem_of_getElem? (i := 220) rfl)) rfl, gm (wt_4 (List.mem_of_getElem? (i := 219) rfl)) rfl, gm (wt_0 (List.mem_of_getElem? (i := 30) rfl)) rfl, gm (wt_1 (List.mem_of_getElem? (i := 12) rfl)) rfl, by decide +kernel⟩
theorem wmX0_answer : wmV yX0_answer cX0_answer 4 (some .int) 3 := ⟨gm (wt_4 (List.mem_of_getElem? (i := 235) rfl)) rfl, gm (wt_4 (List.mem_of_getElem? (i := 234) rfl)) rfl, gm (wt_0 (List.mem_of_getElem? (i := 31) rfl)) rfl, gm (wt_1 (List.mem_of_getElem? (i := 12) rfl)) rfl, by decide +kernel⟩
theorem wmX1_init : wmI yX1_init cX1_init 1 0 := ⟨gm (wt_1 (List.mem_of_getElem? (i := 133) rfl)) rfl, gm (wt_1 (List.mem_of_getElem? (i := 132) rfl)) rfl, gm (wt_1 (List.mem_of_getElem? (i := 9) rfl)) rfl, by decide +kernel⟩
theorem wmX1_mostOf : wmS yX1_mostOf cX1_mostOf 1 (some .int) 1 := ⟨gm (wt_2 (List.mem_of_getElem? (i := 95) rfl)) rfl, gm (wt_2 (List.mem_of_getElem? (i := 94) rfl)) rfl, gm (wt_1 (List.mem_of_getElem? (i := 9) rfl)) rfl, by decide +kernel⟩
theorem wmX1_get : wmV yX1_get cX1_get 2 (some .int) 1 := ⟨gm (wt_2 (List.mem_of_getElem? (i := 99) rfl)) rfl, gm (wt_2 (List.mem_of_getElem? (i := 97) rfl)) rfl, gm (wt_2 (List.mem_of_getElem? (i := 98) rfl)) rfl, gm (wt_1 (List.mem_of_getElem? (i := 9) rfl)) rfl, by decide +kernel⟩
theorem wmX1_tell : wmV yX1_tell cX1_tell 2 (some .int) 1 := ⟨gm (wt_2 (List.mem_of_getElem? (i := 111) rfl)) rfl, gm (wt_2 (List.mem_of_getElem? (i := 109) rfl)) rfl, gm (wt_2 (List.mem_of_getElem? (i := 110) rfl)) rfl, gm (wt_1 (List.mem_of_getElem? (i := 9) rfl)) rfl, by decide +kernel⟩
theorem wmX1_put : wmV yX1_put cX1_put 3 none 2 := ⟨gm (wt_2 (List.mem_of_getElem? (i := 103) rfl)) rfl, gm (wt_2 (List.mem_of_getElem? (i := 101) rfl)) rfl, gm (wt_2 (List.mem_of_getElem? (i := 102) rfl)) rfl, gm (wt_1 (List.mem_of_getElem? (i := 9) rfl)) rfl, by decide +kernel⟩
theorem wmX1_addTo : wmV yX1_addTo cX1_addTo 4 none 2 := ⟨gm (wt_3 (List.mem_of_getElem? (i := 190) rfl)) rfl, gm (wt_3 (List.mem_of_getElem? (i := 188) rfl)) rfl, gm (wt_3 (List.mem_of_getElem? (i := 189) rfl)) rfl, gm (wt_1 (List.mem_of_getElem? (i := 9) rfl)) rfl, by decide +kernel⟩
theorem wmX1_sits : wmV yX1_sits cX1_sits 1 (some .boolean) 0 := ⟨gm (wt_3 (List.mem_of_getElem? (i := 157) rfl)) rfl, gm (wt_3 (List.mem_of_getElem? (i := 155) rfl)) rfl, gm (wt_3 (List.mem_of_getElem? (i := 156) rfl)) rfl, gm (wt_1 (List.mem_of_getElem? (i := 9) rfl)) rfl, by decide +kernel⟩
theorem wmX1_learnt : wmV yX1_learnt cX1_learnt 3 (some .int) 0 := ⟨gm (wt_2 (List.mem_of_getElem? (i := 115) rfl)) rfl, gm (wt_2 (List.mem_of_getElem? (i := 113) rfl)) rfl, gm (wt_2 (List.mem_of_getElem? (i := 114) rfl)) rfl, gm (wt_1 (List.mem_of_getElem? (i := 9) rfl)) rfl, by decide +kernel⟩
theorem wmX1_become : wmV yX1_become cX1_become 2 none 1 := ⟨gm (wt_3 (List.mem_of_getElem? (i := 232) rfl)) rfl, gm (wt_3 (List.mem_of_getElem? (i := 230) rfl)) rfl, gm (wt_3 (List.mem_of_getElem? (i := 231) rfl)) rfl, gm (wt_1 (List.mem_of_getElem? (i := 9) rfl)) rfl, by decide +kernel⟩
theorem wmX2_init : wmI yX2_init cX2_init 1 0 := ⟨gm (wt_1 (List.mem_of_getElem? (i := 83) rfl)) rfl, gm (wt_1 (List.mem_of_getElem? (i := 82) rfl)) rfl, gm (wt_1 (List.mem_of_getElem? (i := 6) rfl)) rfl, by decide +kernel⟩
theorem wmX2_clear : wmV yX2_clear cX2_clear 1 none 0 := ⟨gm (wt_2 (List.mem_of_getElem? (i := 148) rfl)) rfl, gm (wt_2 (List.mem_of_getElem? (i := 146) rfl)) rfl, gm (wt_2 (List.mem_of_getElem? (i := 147) rfl)) rfl, gm (wt_1 (List.mem_of_getElem? (i := 6) rfl)) rfl, by decide +kernel⟩
theorem wmX2_beginClause : wmV yX2_beginClause cX2_beginClause 3 none 2 := ⟨gm (wt_2 (List.mem_of_getElem? (i := 231) rfl)) rfl, gm (wt_2 (List.mem_of_getElem? (i := 229) rfl)) rfl, gm (wt_2 (List.mem_of_getElem? (i := 230) rfl)) rfl, gm (wt_1 (List.mem_of_getElem? (i := 6) rfl)) rfl, by decide +kernel⟩
theorem wmX2_addCode : wmV yX2_addCode cX2_addCode 2 none 1 := ⟨gm (wt_3 (List.mem_of_getElem? (i := 77) rfl)) rfl, gm (wt_3 (List.mem_of_getElem? (i := 75) rfl)) rfl, gm (wt_3 (List.mem_of_getElem? (i := 76) rfl)) rfl, gm (wt_1 (List.mem_of_getElem? (i := 6) rfl)) rfl, by decide +kernel⟩
theorem wmX2_codeOf : wmS yX2_codeOf cX2_codeOf 3 (some .int) 3 := ⟨gm (wt_3 (List.mem_of_getElem? (i := 73) rfl)) rfl, gm (wt_3 (List.mem_of_getElem? (i := 72) rfl)) rfl, gm (wt_1 (List.mem_of_getElem? (i := 6) rfl)) rfl, by decide +kernel⟩
theorem wmX2_together : wmV yX2_together cX2_together 5 (some .int) 2 := ⟨gm (wt_3 (List.mem_of_getElem? (i := 130) rfl)) rfl, gm (wt_3 (List.mem_of_getElem? (i := 128) rfl)) rfl, gm (wt_3 (List.mem_of_getElem? (i := 129) rfl)) rfl, gm (wt_1 (List.mem_of_getElem? (i := 6) rfl)) rfl, by decide +kernel⟩
theorem wmX2_last : wmV yX2_last cX2_last 4 (some .int) 1 := ⟨gm (wt_3 (List.mem_of_getElem? (i := 102) rfl)) rfl, gm (wt_3 (List.mem_of_getElem? (i := 100) rfl)) rfl, gm (wt_3 (List.mem_of_getElem? (i := 101) rfl)) rfl, gm (wt_1 (List.mem_of_getElem? (i := 6) rfl)) rfl, by decide +kernel⟩
theorem wmX2_isTrue : wmV yX2_isTrue cX2_isTrue 13 (some .boolean) 2 := ⟨gm (wt_3 (List.mem_of_getElem? (i := 134) rfl)) rfl, gm (wt_3 (List.mem_of_getElem? (i := 133) rfl)) rfl, gm (wt_0 (List.mem_of_getElem? (i := 11) rfl)) rfl, gm (wt_1 (List.mem_of_getElem? (i := 6) rfl)) rfl, by decide +kernel⟩
theorem wmX3_init : wmI yX3_init cX3_init 1 0 := ⟨gm (wt_1 (List.mem_of_getElem? (i := 127) rfl)) rfl, gm (wt_1 (List.mem_of_getElem? (i := 126) rfl)) rfl, gm (wt_1 (List.mem_of_getElem? (i := 8) rfl)) rfl, by decide +kernel⟩
theorem wmX3_become : wmV yX3_become cX3_become 2 none 1 := ⟨gm (wt_4 (List.mem_of_getElem? (i := 188) rfl)) rfl, gm (wt_4 (List.mem_of_getElem? (i := 186) rfl)) rfl, gm (wt_4 (List.mem_of_getElem? (i := 187) rfl)) rfl, gm (wt_1 (List.mem_of_getElem? (i := 8) rfl)) rfl, by decide +kernel⟩
theorem wmX4_init : wmI yX4_init cX4_init 1 0 := ⟨gm (wt_1 (List.mem_of_getElem? (i := 33) rfl)) rfl, gm (wt_1 (List.mem_of_getElem? (i := 32) rfl)) rfl, gm (wt_1 (List.mem_of_getElem? (i := 2) rfl)) rfl, by decide +kernel⟩
theorem wmX4_size : wmV yX4_size cX4_size 1 (some .int) 0 := ⟨gm (wt_2 (List.mem_of_getElem? (i := 64) rfl)) rfl, gm (wt_2 (List.mem_of_getElem? (i := 62) rfl)) rfl, gm (wt_2 (List.mem_of_getElem? (i := 63) rfl)) rfl, gm (wt_1 (List.mem_of_getElem? (i := 2) rfl)) rfl, by decide +kernel⟩
theorem wmX4_has : wmV yX4_has cX4_has 2 (some .boolean) 1 := ⟨gm (wt_2 (List.mem_of_getElem? (i := 76) rfl)) rfl, gm (wt_2 (List.mem_of_getElem? (i := 74) rfl)) rfl, gm (wt_2 (List.mem_of_getElem? (i := 75) rfl)) rfl, gm (wt_1 (List.mem_of_getElem? (i := 2) rfl)) rfl, by decide +kernel⟩
theorem wmX4_kindOf : wmV yX4_kindOf cX4_kindOf 2 (some .int) 1 := ⟨gm (wt_2 (List.mem_of_getElem? (i := 80) rfl)) rfl, gm (wt_2 (List.mem_of_getElem? (i := 78) rfl)) rfl, gm (wt_2 (List.mem_of_getElem? (i := 79) rfl)) rfl, gm (wt_1 (List.mem_of_getElem? (i := 2) rfl)) rfl, by decide +kernel⟩
theorem wmX4_numberOf : wmV yX4_numberOf cX4_numberOf 2 (some .int) 1 := ⟨gm (wt_2 (List.mem_of_getElem? (i := 84) rfl)) rfl, gm (wt_2 (List.mem_of_getElem? (i := 82) rfl)) rfl, gm (wt_2 (List.mem_of_getElem? (i := 83) rfl)) rfl, gm (wt_1 (List.mem_of_getElem? (i := 2) rfl)) rfl, by decide +kernel⟩
theorem wmX4_thingOf : wmV yX4_thingOf cX4_thingOf 2 (some .int) 1 := ⟨gm (wt_2 (List.mem_of_getElem? (i := 88) rfl)) rfl, gm (wt_2 (List.mem_of_getElem? (i := 86) rfl)) rfl, gm (wt_2 (List.mem_of_getElem? (i := 87) rfl)) rfl, gm (wt_1 (List.mem_of_getElem? (i := 2) rfl)) rfl, by decide +kernel⟩
theorem wmX4_add : wmV yX4_add cX4_add 4 (some .int) 3 := ⟨gm (wt_2 (List.mem_of_getElem? (i := 68) rfl)) rfl, gm (wt_2 (List.mem_of_getElem? (i := 66) rfl)) rfl, gm (wt_2 (List.mem_of_getElem? (i := 67) rfl)) rfl, gm (wt_1 (List.mem_of_getElem? (i := 2) rfl)) rfl, by decide +kernel⟩
theorem wmX4_aboveOf : wmS yX4_aboveOf cX4_aboveOf 1 (some .int) 1 := ⟨gm (wt_4 (List.mem_of_getElem? (i := 228) rfl)) rfl, gm (wt_4 (List.mem_of_getElem? (i := 227) rfl)) rfl, gm (wt_1 (List.mem_of_getElem? (i := 2) rfl)) rfl, by decide +kernel⟩
theorem wmX4_isUnder : wmS yX4_isUnder cX4_isUnder 4 (some .boolean) 2 := ⟨gm (wt_5 (List.mem_of_getElem? (i := 11) rfl)) rfl, gm (wt_5 (List.mem_of_getElem? (i := 10) rfl)) rfl, gm (wt_1 (List.mem_of_getElem? (i := 2) rfl)) rfl, by decide +kernel⟩
theorem wmX5_init : wmI yX5_init cX5_init 2 1 := ⟨gm (wt_1 (List.mem_of_getElem? (i := 59) rfl)) rfl, gm (wt_1 (List.mem_of_getElem? (i := 58) rfl)) rfl, gm (wt_1 (List.mem_of_getElem? (i := 4) rfl)) rfl, by decide +kernel⟩
theorem wmX5_size : wmV yX5_size cX5_size 1 (some .int) 0 := ⟨gm (wt_2 (List.mem_of_getElem? (i := 136) rfl)) rfl, gm (wt_2 (List.mem_of_getElem? (i := 134) rfl)) rfl, gm (wt_2 (List.mem_of_getElem? (i := 135) rfl)) rfl, gm (wt_1 (List.mem_of_getElem? (i := 4) rfl)) rfl, by decide +kernel⟩
theorem wmX5_get : wmV yX5_get cX5_get 2 (some .int) 1 := ⟨gm (wt_2 (List.mem_of_getElem? (i := 180) rfl)) rfl, gm (wt_2 (List.mem_of_getElem? (i := 178) rfl)) rfl, gm (wt_2 (List.mem_of_getElem? (i := 179) rfl)) rfl, gm (wt_1 (List.mem_of_getElem? (i := 4) rfl)) rfl, by decide +kernel⟩
theorem wmX5_add : wmV yX5_add cX5_add 2 (some .boolean) 1 := ⟨gm (wt_2 (List.mem_of_getElem? (i := 128) rfl)) rfl, gm (wt_2 (List.mem_of_getElem? (i := 126) rfl)) rfl, gm (wt_2 (List.mem_of_getElem? (i := 127) rfl)) rfl, gm (wt_1 (List.mem_of_getElem? (i := 4) rfl)) rfl, by decide +kernel⟩
theorem wmX5_clear : wmV yX5_clear cX5_clear 1 none 0 := ⟨gm (wt_3 (List.mem_of_getElem? (i := 85) rfl)) rfl, gm (wt_3 (List.mem_of_getElem? (i := 83) rfl)) rfl, gm (wt_3 (List.mem_of_getElem? (i := 84) rfl)) rfl, gm (wt_1 (List.mem_of_getElem? (i := 4) rfl)) rfl, by decide +kernel⟩
theorem wmX5_placeOfLeast : wmV yX5_placeOfLeast cX5_placeOfLeast 3 (some .int) 0 := ⟨gm (wt_4 (List.mem_of_getElem? (i := 132) rfl)) rfl, gm (wt_4 (List.mem_of_getElem? (i := 130) rfl)) rfl, gm (wt_4 (List.mem_of_getElem? (i := 131) rfl)) rfl, gm (wt_1 (List.mem_of_getElem? (i := 4) rfl)) rfl, by decide +kernel⟩
theorem wmX5_become : wmV yX5_become cX5_become 3 none 1 := ⟨gm (wt_4 (List.mem_of_getElem? (i := 193) rfl)) rfl, gm (wt_4 (List.mem_of_getElem? (i := 191) rfl)) rfl, gm (wt_4 (List.mem_of_getElem? (i := 192) rfl)) rfl, gm (wt_1 (List.mem_of_getElem? (i := 4) rfl)) rfl, by decide +kernel⟩
theorem wmX6_init : wmI yX6_init cX6_init 1 0 := ⟨gm (wt_2 (List.mem_of_getElem? (i := 7) rfl)) rfl, gm (wt_2 (List.mem_of_getElem? (i := 6) rfl)) rfl, gm (wt_1 (List.mem_of_getElem? (i := 13) rfl)) rfl, by decide +kernel⟩
theorem wmX6_sort : wmV yX6_sort cX6_sort 1 (some .int) 0 := ⟨gm (wt_4 (List.mem_of_getElem? (i := 167) rfl)) rfl, gm (wt_4 (List.mem_of_getElem? (i := 165) rfl)) rfl, gm (wt_4 (List.mem_of_getElem? (i := 166) rfl)) rfl, gm (wt_1 (List.mem_of_getElem? (i := 13) rfl)) rfl, by decide +kernel⟩
theorem wmX6_holdsSomething : wmV yX6_holdsSomething cX6_holdsSomething 1 (some .boolean) 0 := ⟨gm (wt_4 (List.mem_of_getElem? (i := 163) rfl)) rfl, gm (wt_4 (List.mem_of_getElem? (i := 161) rfl)) rfl, gm (wt_4 (List.mem_of_getElem? (i := 162) rfl)) rfl, gm (wt_1 (List.mem_of_getElem? (i := 13) rfl)) rfl, by decide +kernel⟩
theorem wmX6_renew : wmV yX6_renew cX6_renew 3 none 2 := ⟨gm (wt_5 (List.mem_of_getElem? (i := 28) rfl)) rfl, gm (wt_5 (List.mem_of_getElem? (i := 26) rfl)) rfl, gm (wt_5 (List.mem_of_getElem? (i := 27) rfl)) rfl, gm (wt_1 (List.mem_of_getElem? (i := 13) rfl)) rfl, by decide +kernel⟩
theorem wmX6_has : wmV yX6_has cX6_has 2 (some .boolean) 1 := ⟨gm (wt_4 (List.mem_of_getElem? (i := 175) rfl)) rfl, gm (wt_4 (List.mem_of_getElem? (i := 173) rfl)) rfl, gm (wt_4 (List.mem_of_getElem? (i := 174) rfl)) rfl, gm (wt_1 (List.mem_of_getElem? (i := 13) rfl)) rfl, by decide +kernel⟩
theorem wmX6_spans : wmV yX6_spans cX6_spans 3 (some .boolean) 2 := ⟨gm (wt_5 (List.mem_of_getElem? (i := 59) rfl)) rfl, gm (wt_5 (List.mem_of_getElem? (i := 57) rfl)) rfl, gm (wt_5 (List.mem_of_getElem? (i := 58) rfl)) rfl, gm (wt_1 (List.mem_of_getElem? (i := 13) rfl)) rfl, by decide +kernel⟩
theorem wmX6_get : wmV yX6_get cX6_get 2 (some .long) 1 := ⟨gm (wt_4 (List.mem_of_getElem? (i := 179) rfl)) rfl, gm (wt_4 (List.mem_of_getElem? (i := 177) rfl)) rfl, gm (wt_4 (List.mem_of_getElem? (i := 178) rfl)) rfl, gm (wt_1 (List.mem_of_getElem? (i := 13) rfl)) rfl, by decide +kernel⟩
theorem wmX6_put : wmV yX6_put cX6_put 4 none 2 := ⟨gm (wt_5 (List.mem_of_getElem? (i := 42) rfl)) rfl, gm (wt_5 (List.mem_of_getElem? (i := 40) rfl)) rfl, gm (wt_5 (List.mem_of_getElem? (i := 41) rfl)) rfl, gm (wt_1 (List.mem_of_getElem? (i := 13) rfl)) rfl, by decide +kernel⟩
theorem wmX6_cut : wmV yX6_cut cX6_cut 3 (some .long) 1 := ⟨gm (wt_5 (List.mem_of_getElem? (i := 46) rfl)) rfl, gm (wt_5 (List.mem_of_getElem? (i := 45) rfl)) rfl, gm (wt_0 (List.mem_of_getElem? (i := 32) rfl)) rfl, gm (wt_1 (List.mem_of_getElem? (i := 13) rfl)) rfl, by decide +kernel⟩
theorem wmX6_copyIn : wmV yX6_copyIn cX6_copyIn 5 none 4 := ⟨gm (wt_5 (List.mem_of_getElem? (i := 63) rfl)) rfl, gm (wt_5 (List.mem_of_getElem? (i := 61) rfl)) rfl, gm (wt_5 (List.mem_of_getElem? (i := 62) rfl)) rfl, gm (wt_1 (List.mem_of_getElem? (i := 13) rfl)) rfl, by decide +kernel⟩
theorem wmX7_init : wmI yX7_init cX7_init 1 0 := ⟨gm (wt_1 (List.mem_of_getElem? (i := 53) rfl)) rfl, gm (wt_1 (List.mem_of_getElem? (i := 52) rfl)) rfl, gm (wt_1 (List.mem_of_getElem? (i := 3) rfl)) rfl, by decide +kernel⟩
theorem wmX7_size : wmV yX7_size cX7_size 1 (some .int) 0 := ⟨gm (wt_2 (List.mem_of_getElem? (i := 132) rfl)) rfl, gm (wt_2 (List.mem_of_getElem? (i := 130) rfl)) rfl, gm (wt_2 (List.mem_of_getElem? (i := 131) rfl)) rfl, gm (wt_1 (List.mem_of_getElem? (i := 3) rfl)) rfl, by decide +kernel⟩
theorem wmX7_add : wmV yX7_add cX7_add 2 (some .boolean) 1 := ⟨gm (wt_2 (List.mem_of_getElem? (i := 124) rfl)) rfl, gm (wt_2 (List.mem_of_getElem? (i := 122) rfl)) rfl, gm (wt_2 (List.mem_of_getElem? (i := 123) rfl)) rfl, gm (wt_1 (List.mem_of_getElem? (i := 3) rfl)) rfl, by decide +kernel⟩
theorem wmX7_clear : wmV yX7_clear cX7_clear 1 none 0 := ⟨gm (wt_3 (List.mem_of_getElem? (i := 81) rfl)) rfl, gm (wt_3 (List.mem_of_getElem? (i := 79) rfl)) rfl, gm (wt_3 (List.mem_of_getElem? (i := 80) rfl)) rfl, gm (wt_1 (List.mem_of_getElem? (i := 3) rfl)) rfl, by decide +kernel⟩
theorem wmX7_readLaw : wmV yX7_readLaw cX7_readLaw 5 (some .int) 1 := ⟨gm (wt_2 (List.mem_of_getElem? (i := 144) rfl)) rfl, gm (wt_2 (List.mem_of_getElem? (i := 142) rfl)) rfl, gm (wt_2 (List.mem_of_getElem? (i := 143) rfl)) rfl, gm (wt_1 (List.mem_of_getElem? (i := 3) rfl)) rfl, by decide +kernel⟩
theorem wmX7_next : wmV yX7_next cX7_next 2 (some .boolean) 1 := ⟨gm (wt_2 (List.mem_of_getElem? (i := 223) rfl)) rfl, gm (wt_2 (List.mem_of_getElem? (i := 222) rfl)) rfl, gm (wt_0 (List.mem_of_getElem? (i := 2) rfl)) rfl, gm (wt_1 (List.mem_of_getElem? (i := 3) rfl)) rfl, by decide +kernel⟩
theorem wmX7_readHead : wmV yX7_readHead cX7_readHead 4 (some .int) 1 := ⟨gm (wt_2 (List.mem_of_getElem? (i := 152) rfl)) rfl, gm (wt_2 (List.mem_of_getElem? (i := 151) rfl)) rfl, gm (wt_0 (List.mem_of_getElem? (i := 0) rfl)) rfl, gm (wt_1 (List.mem_of_getElem? (i := 3) rfl)) rfl, by decide +kernel⟩
theorem wmX7_readWord : wmV yX7_readWord cX7_readWord 5 (some .int) 0 := ⟨gm (wt_2 (List.mem_of_getElem? (i := 156) rfl)) rfl, gm (wt_2 (List.mem_of_getElem? (i := 155) rfl)) rfl, gm (wt_0 (List.mem_of_getElem? (i := 1) rfl)) rfl, gm (wt_1 (List.mem_of_getElem? (i := 3) rfl)) rfl, by decide +kernel⟩
theorem wmX7_wordOf : wmS yX7_wordOf cX7_wordOf 1 (some (.object "java/lang/String")) 1 := ⟨gm (wt_2 (List.mem_of_getElem? (i := 159) rfl)) rfl, gm (wt_2 (List.mem_of_getElem? (i := 158) rfl)) rfl, gm (wt_1 (List.mem_of_getElem? (i := 3) rfl)) rfl, by decide +kernel⟩
theorem wmX7_readNumber : wmV yX7_readNumber cX7_readNumber 4 (some .int) 0 := ⟨gm (wt_2 (List.mem_of_getElem? (i := 227) rfl)) rfl, gm (wt_2 (List.mem_of_getElem? (i := 226) rfl)) rfl, gm (wt_0 (List.mem_of_getElem? (i := 3) rfl)) rfl, gm (wt_1 (List.mem_of_getElem? (i := 3) rfl)) rfl, by decide +kernel⟩
theorem wmX7_readEither : wmV yX7_readEither cX7_readEither 5 (some .boolean) 2 := ⟨gm (wt_2 (List.mem_of_getElem? (i := 235) rfl)) rfl, gm (wt_2 (List.mem_of_getElem? (i := 234) rfl)) rfl, gm (wt_0 (List.mem_of_getElem? (i := 4) rfl)) rfl, gm (wt_1 (List.mem_of_getElem? (i := 3) rfl)) rfl, by decide +kernel⟩
theorem wmX7_readBoth : wmV yX7_readBoth cX7_readBoth 5 (some .boolean) 2 := ⟨gm (wt_2 (List.mem_of_getElem? (i := 239) rfl)) rfl, gm (wt_2 (List.mem_of_getElem? (i := 238) rfl)) rfl, gm (wt_0 (List.mem_of_getElem? (i := 5) rfl)) rfl, gm (wt_1 (List.mem_of_getElem? (i := 3) rfl)) rfl, by decide +kernel⟩
theorem wmX7_readSingle : wmV yX7_readSingle cX7_readSingle 7 (some .boolean) 2 := ⟨gm (wt_3 (List.mem_of_getElem? (i := 3) rfl)) rfl, gm (wt_3 (List.mem_of_getElem? (i := 2) rfl)) rfl, gm (wt_0 (List.mem_of_getElem? (i := 6) rfl)) rfl, gm (wt_1 (List.mem_of_getElem? (i := 3) rfl)) rfl, by decide +kernel⟩
theorem wmX7_readTest : wmV yX7_readTest cX7_readTest 5 (some .boolean) 1 := ⟨gm (wt_3 (List.mem_of_getElem? (i := 7) rfl)) rfl, gm (wt_3 (List.mem_of_getElem? (i := 6) rfl)) rfl, gm (wt_0 (List.mem_of_getElem? (i := 7) rfl)) rfl, gm (wt_1 (List.mem_of_getElem? (i := 3) rfl)) rfl, by decide +kernel⟩
theorem wmX7_placeIn : wmV yX7_placeIn cX7_placeIn 3 (some .int) 1 := ⟨gm (wt_3 (List.mem_of_getElem? (i := 12) rfl)) rfl, gm (wt_3 (List.mem_of_getElem? (i := 11) rfl)) rfl, gm (wt_0 (List.mem_of_getElem? (i := 8) rfl)) rfl, gm (wt_1 (List.mem_of_getElem? (i := 3) rfl)) rfl, by decide +kernel⟩
theorem wmX8_init : wmI yX8_init cX8_init 4 2 := ⟨gm (wt_1 (List.mem_of_getElem? (i := 182) rfl)) rfl, gm (wt_1 (List.mem_of_getElem? (i := 181) rfl)) rfl, gm (wt_1 (List.mem_of_getElem? (i := 11) rfl)) rfl, by decide +kernel⟩
theorem wmX8_stage : wmV yX8_stage cX8_stage 3 (some (.object "DonkeyBridge$Donkey")) 1 := ⟨gm (wt_3 (List.mem_of_getElem? (i := 228) rfl)) rfl, gm (wt_3 (List.mem_of_getElem? (i := 227) rfl)) rfl, gm (wt_0 (List.mem_of_getElem? (i := 16) rfl)) rfl, gm (wt_1 (List.mem_of_getElem? (i := 11) rfl)) rfl, by decide +kernel⟩
theorem wmX8_stageAfter : wmV yX8_stageAfter cX8_stageAfter 3 (some (.object "DonkeyBridge$Donkey")) 1 := ⟨gm (wt_4 (List.mem_of_getElem? (i := 23) rfl)) rfl, gm (wt_4 (List.mem_of_getElem? (i := 22) rfl)) rfl, gm (wt_0 (List.mem_of_getElem? (i := 20) rfl)) rfl, gm (wt_1 (List.mem_of_getElem? (i := 11) rfl)) rfl, by decide +kernel⟩
theorem wmX8_begin : wmV yX8_begin cX8_begin 2 (some (.object "DonkeyBridge$Donkey")) 0 := ⟨gm (wt_3 (List.mem_of_getElem? (i := 224) rfl)) rfl, gm (wt_3 (List.mem_of_getElem? (i := 223) rfl)) rfl, gm (wt_0 (List.mem_of_getElem? (i := 15) rfl)) rfl, gm (wt_1 (List.mem_of_getElem? (i := 11) rfl)) rfl, by decide +kernel⟩
theorem wmX8_byHand : wmV yX8_byHand cX8_byHand 3 (some (.object "DonkeyBridge$Donkey")) 1 := ⟨gm (wt_3 (List.mem_of_getElem? (i := 220) rfl)) rfl, gm (wt_3 (List.mem_of_getElem? (i := 218) rfl)) rfl, gm (wt_3 (List.mem_of_getElem? (i := 219) rfl)) rfl, gm (wt_1 (List.mem_of_getElem? (i := 11) rfl)) rfl, by decide +kernel⟩
theorem wmX8_doRow : wmV yX8_doRow cX8_doRow 4 none 2 := ⟨gm (wt_4 (List.mem_of_getElem? (i := 0) rfl)) rfl, gm (wt_3 (List.mem_of_getElem? (i := 239) rfl)) rfl, gm (wt_0 (List.mem_of_getElem? (i := 17) rfl)) rfl, gm (wt_1 (List.mem_of_getElem? (i := 11) rfl)) rfl, by decide +kernel⟩
theorem wmX8_afterDays : wmV yX8_afterDays cX8_afterDays 4 (some (.object "DonkeyBridge$Donkey")) 1 := ⟨gm (wt_4 (List.mem_of_getElem? (i := 119) rfl)) rfl, gm (wt_4 (List.mem_of_getElem? (i := 117) rfl)) rfl, gm (wt_4 (List.mem_of_getElem? (i := 118) rfl)) rfl, gm (wt_1 (List.mem_of_getElem? (i := 11) rfl)) rfl, by decide +kernel⟩
theorem wmX8_waiting : wmV yX8_waiting cX8_waiting 3 (some .int) 0 := ⟨gm (wt_4 (List.mem_of_getElem? (i := 69) rfl)) rfl, gm (wt_4 (List.mem_of_getElem? (i := 67) rfl)) rfl, gm (wt_4 (List.mem_of_getElem? (i := 68) rfl)) rfl, gm (wt_1 (List.mem_of_getElem? (i := 11) rfl)) rfl, by decide +kernel⟩
theorem wmX8_bestShift : wmV yX8_bestShift cX8_bestShift 6 (some .int) 0 := ⟨gm (wt_4 (List.mem_of_getElem? (i := 81) rfl)) rfl, gm (wt_4 (List.mem_of_getElem? (i := 79) rfl)) rfl, gm (wt_4 (List.mem_of_getElem? (i := 80) rfl)) rfl, gm (wt_1 (List.mem_of_getElem? (i := 11) rfl)) rfl, by decide +kernel⟩
theorem wmX8_hurtWith : wmV yX8_hurtWith cX8_hurtWith 5 (some .int) 1 := ⟨gm (wt_4 (List.mem_of_getElem? (i := 85) rfl)) rfl, gm (wt_4 (List.mem_of_getElem? (i := 84) rfl)) rfl, gm (wt_0 (List.mem_of_getElem? (i := 25) rfl)) rfl, gm (wt_1 (List.mem_of_getElem? (i := 11) rfl)) rfl, by decide +kernel⟩
theorem wmX8_firstOtherwise : wmV yX8_firstOtherwise cX8_firstOtherwise 3 (some .int) 0 := ⟨gm (wt_4 (List.mem_of_getElem? (i := 151) rfl)) rfl, gm (wt_4 (List.mem_of_getElem? (i := 149) rfl)) rfl, gm (wt_4 (List.mem_of_getElem? (i := 150) rfl)) rfl, gm (wt_1 (List.mem_of_getElem? (i := 11) rfl)) rfl, by decide +kernel⟩
theorem wmX8_firstMistold : wmV yX8_firstMistold cX8_firstMistold 5 (some .int) 2 := ⟨gm (wt_4 (List.mem_of_getElem? (i := 171) rfl)) rfl, gm (wt_4 (List.mem_of_getElem? (i := 169) rfl)) rfl, gm (wt_4 (List.mem_of_getElem? (i := 170) rfl)) rfl, gm (wt_1 (List.mem_of_getElem? (i := 11) rfl)) rfl, by decide +kernel⟩
theorem wmX8_findSoonest : wmV yX8_findSoonest cX8_findSoonest 2 (some .int) 1 := ⟨gm (wt_4 (List.mem_of_getElem? (i := 11) rfl)) rfl, gm (wt_4 (List.mem_of_getElem? (i := 9) rfl)) rfl, gm (wt_4 (List.mem_of_getElem? (i := 10) rfl)) rfl, gm (wt_1 (List.mem_of_getElem? (i := 11) rfl)) rfl, by decide +kernel⟩
theorem wmX8_findGentlest : wmV yX8_findGentlest cX8_findGentlest 2 (some .int) 1 := ⟨gm (wt_4 (List.mem_of_getElem? (i := 40) rfl)) rfl, gm (wt_4 (List.mem_of_getElem? (i := 38) rfl)) rfl, gm (wt_4 (List.mem_of_getElem? (i := 39) rfl)) rfl, gm (wt_1 (List.mem_of_getElem? (i := 11) rfl)) rfl, by decide +kernel⟩
theorem wmX8_found : wmV yX8_found cX8_found 2 (some .int) 1 := ⟨gm (wt_4 (List.mem_of_getElem? (i := 32) rfl)) rfl, gm (wt_4 (List.mem_of_getElem? (i := 30) rfl)) rfl, gm (wt_4 (List.mem_of_getElem? (i := 31) rfl)) rfl, gm (wt_1 (List.mem_of_getElem? (i := 11) rfl)) rfl, by decide +kernel⟩
theorem wmX8_trySooner : wmV yX8_trySooner cX8_trySooner 3 none 1 := ⟨gm (wt_4 (List.mem_of_getElem? (i := 15) rfl)) rfl, gm (wt_4 (List.mem_of_getElem? (i := 14) rfl)) rfl, gm (wt_0 (List.mem_of_getElem? (i := 18) rfl)) rfl, gm (wt_1 (List.mem_of_getElem? (i := 11) rfl)) rfl, by decide +kernel⟩
theorem wmX8_trySoonerWith : wmV yX8_trySoonerWith cX8_trySoonerWith 4 none 2 := ⟨gm (wt_4 (List.mem_of_getElem? (i := 19) rfl)) rfl, gm (wt_4 (List.mem_of_getElem? (i := 18) rfl)) rfl, gm (wt_0 (List.mem_of_getElem? (i := 19) rfl)) rfl, gm (wt_1 (List.mem_of_getElem? (i := 11) rfl)) rfl, by decide +kernel⟩
theorem wmX8_tryGentler : wmV yX8_tryGentler cX8_tryGentler 4 none 2 := ⟨gm (wt_4 (List.mem_of_getElem? (i := 44) rfl)) rfl, gm (wt_4 (List.mem_of_getElem? (i := 43) rfl)) rfl, gm (wt_0 (List.mem_of_getElem? (i := 22) rfl)) rfl, gm (wt_1 (List.mem_of_getElem? (i := 11) rfl)) rfl, by decide +kernel⟩
theorem wmX8_tryGentlerWith : wmV yX8_tryGentlerWith cX8_tryGentlerWith 4 none 3 := ⟨gm (wt_4 (List.mem_of_getElem? (i := 53) rfl)) rfl, gm (wt_4 (List.mem_of_getElem? (i := 52) rfl)) rfl, gm (wt_0 (List.mem_of_getElem? (i := 24) rfl)) rfl, gm (wt_1 (List.mem_of_getElem? (i := 11) rfl)) rfl, by decide +kernel⟩
theorem wmX8_keepGentler : wmV yX8_keepGentler cX8_keepGentler 4 none 2 := ⟨gm (wt_4 (List.mem_of_getElem? (i := 48) rfl)) rfl, gm (wt_4 (List.mem_of_getElem? (i := 47) rfl)) rfl, gm (wt_0 (List.mem_of_getElem? (i := 23) rfl)) rfl, gm (wt_1 (List.mem_of_getElem? (i := 11) rfl)) rfl, by decide +kernel⟩
theorem wmX8_keepTried : wmV yX8_keepTried cX8_keepTried 2 none 1 := ⟨gm (wt_4 (List.mem_of_getElem? (i := 27) rfl)) rfl, gm (wt_4 (List.mem_of_getElem? (i := 26) rfl)) rfl, gm (wt_0 (List.mem_of_getElem? (i := 21) rfl)) rfl, gm (wt_1 (List.mem_of_getElem? (i := 11) rfl)) rfl, by decide +kernel⟩
theorem wmX8_chanceOf : wmV yX8_chanceOf cX8_chanceOf 8 (some .long) 2 := ⟨gm (wt_4 (List.mem_of_getElem? (i := 100) rfl)) rfl, gm (wt_4 (List.mem_of_getElem? (i := 98) rfl)) rfl, gm (wt_4 (List.mem_of_getElem? (i := 99) rfl)) rfl, gm (wt_1 (List.mem_of_getElem? (i := 11) rfl)) rfl, by decide +kernel⟩
theorem wmX8_waysFrom : wmV yX8_waysFrom cX8_waysFrom 4 (some .long) 2 := ⟨gm (wt_4 (List.mem_of_getElem? (i := 104) rfl)) rfl, gm (wt_4 (List.mem_of_getElem? (i := 103) rfl)) rfl, gm (wt_0 (List.mem_of_getElem? (i := 26) rfl)) rfl, gm (wt_1 (List.mem_of_getElem? (i := 11) rfl)) rfl, by decide +kernel⟩
theorem wmX8_waysWith : wmV yX8_waysWith cX8_waysWith 4 (some .long) 3 := ⟨gm (wt_4 (List.mem_of_getElem? (i := 108) rfl)) rfl, gm (wt_4 (List.mem_of_getElem? (i := 107) rfl)) rfl, gm (wt_0 (List.mem_of_getElem? (i := 27) rfl)) rfl, gm (wt_1 (List.mem_of_getElem? (i := 11) rfl)) rfl, by decide +kernel⟩
theorem wmX9_init : wmI yX9_init cX9_init 3 2 := ⟨gm (wt_1 (List.mem_of_getElem? (i := 108) rfl)) rfl, gm (wt_1 (List.mem_of_getElem? (i := 107) rfl)) rfl, gm (wt_1 (List.mem_of_getElem? (i := 7) rfl)) rfl, by decide +kernel⟩
theorem wmX9_obey : wmV yX9_obey cX9_obey 2 none 1 := ⟨gm (wt_3 (List.mem_of_getElem? (i := 89) rfl)) rfl, gm (wt_3 (List.mem_of_getElem? (i := 87) rfl)) rfl, gm (wt_3 (List.mem_of_getElem? (i := 88) rfl)) rfl, gm (wt_1 (List.mem_of_getElem? (i := 7) rfl)) rfl, by decide +kernel⟩
theorem wmX9_isOver : wmV yX9_isOver cX9_isOver 2 (some .boolean) 1 := ⟨gm (wt_3 (List.mem_of_getElem? (i := 110) rfl)) rfl, gm (wt_3 (List.mem_of_getElem? (i := 108) rfl)) rfl, gm (wt_3 (List.mem_of_getElem? (i := 109) rfl)) rfl, gm (wt_1 (List.mem_of_getElem? (i := 7) rfl)) rfl, by decide +kernel⟩
theorem wmX9_fearThere : wmV yX9_fearThere cX9_fearThere 2 (some .int) 1 := ⟨gm (wt_4 (List.mem_of_getElem? (i := 137) rfl)) rfl, gm (wt_4 (List.mem_of_getElem? (i := 135) rfl)) rfl, gm (wt_4 (List.mem_of_getElem? (i := 136) rfl)) rfl, gm (wt_1 (List.mem_of_getElem? (i := 7) rfl)) rfl, by decide +kernel⟩
theorem wmX9_lastOf : wmV yX9_lastOf cX9_lastOf 2 (some .int) 1 := ⟨gm (wt_3 (List.mem_of_getElem? (i := 98) rfl)) rfl, gm (wt_3 (List.mem_of_getElem? (i := 96) rfl)) rfl, gm (wt_3 (List.mem_of_getElem? (i := 97) rfl)) rfl, gm (wt_1 (List.mem_of_getElem? (i := 7) rfl)) rfl, by decide +kernel⟩
theorem wmX9_halfMinutesOf : wmV yX9_halfMinutesOf cX9_halfMinutesOf 2 (some .int) 1 := ⟨gm (wt_3 (List.mem_of_getElem? (i := 182) rfl)) rfl, gm (wt_3 (List.mem_of_getElem? (i := 180) rfl)) rfl, gm (wt_3 (List.mem_of_getElem? (i := 181) rfl)) rfl, gm (wt_1 (List.mem_of_getElem? (i := 7) rfl)) rfl, by decide +kernel⟩
theorem wmX9_togetherOf : wmV yX9_togetherOf cX9_togetherOf 3 (some .int) 2 := ⟨gm (wt_3 (List.mem_of_getElem? (i := 116) rfl)) rfl, gm (wt_3 (List.mem_of_getElem? (i := 114) rfl)) rfl, gm (wt_3 (List.mem_of_getElem? (i := 115) rfl)) rfl, gm (wt_1 (List.mem_of_getElem? (i := 7) rfl)) rfl, by decide +kernel⟩
theorem wmX9_lookAround : wmV yX9_lookAround cX9_lookAround 5 none 1 := ⟨gm (wt_3 (List.mem_of_getElem? (i := 120) rfl)) rfl, gm (wt_3 (List.mem_of_getElem? (i := 119) rfl)) rfl, gm (wt_0 (List.mem_of_getElem? (i := 10) rfl)) rfl, gm (wt_1 (List.mem_of_getElem? (i := 7) rfl)) rfl, by decide +kernel⟩
theorem wmX9_weigh : wmV yX9_weigh cX9_weigh 9 (some .int) 2 := ⟨gm (wt_3 (List.mem_of_getElem? (i := 147) rfl)) rfl, gm (wt_3 (List.mem_of_getElem? (i := 145) rfl)) rfl, gm (wt_3 (List.mem_of_getElem? (i := 146) rfl)) rfl, gm (wt_1 (List.mem_of_getElem? (i := 7) rfl)) rfl, by decide +kernel⟩
theorem wmX9_moreBy : wmV yX9_moreBy cX9_moreBy 3 (some .int) 2 := ⟨gm (wt_3 (List.mem_of_getElem? (i := 161) rfl)) rfl, gm (wt_3 (List.mem_of_getElem? (i := 160) rfl)) rfl, gm (wt_0 (List.mem_of_getElem? (i := 13) rfl)) rfl, gm (wt_1 (List.mem_of_getElem? (i := 7) rfl)) rfl, by decide +kernel⟩
theorem wmX9_fearThatCounts : wmV yX9_fearThatCounts cX9_fearThatCounts 6 (some .int) 2 := ⟨gm (wt_3 (List.mem_of_getElem? (i := 151) rfl)) rfl, gm (wt_3 (List.mem_of_getElem? (i := 150) rfl)) rfl, gm (wt_0 (List.mem_of_getElem? (i := 12) rfl)) rfl, gm (wt_1 (List.mem_of_getElem? (i := 7) rfl)) rfl, by decide +kernel⟩
theorem wmX9_mostAgainst : wmV yX9_mostAgainst cX9_mostAgainst 4 (some .int) 1 := ⟨gm (wt_4 (List.mem_of_getElem? (i := 61) rfl)) rfl, gm (wt_4 (List.mem_of_getElem? (i := 59) rfl)) rfl, gm (wt_4 (List.mem_of_getElem? (i := 60) rfl)) rfl, gm (wt_1 (List.mem_of_getElem? (i := 7) rfl)) rfl, by decide +kernel⟩
theorem wmX9_doing : wmV yX9_doing cX9_doing 3 (some .int) 2 := ⟨gm (wt_3 (List.mem_of_getElem? (i := 169) rfl)) rfl, gm (wt_3 (List.mem_of_getElem? (i := 167) rfl)) rfl, gm (wt_3 (List.mem_of_getElem? (i := 168) rfl)) rfl, gm (wt_1 (List.mem_of_getElem? (i := 7) rfl)) rfl, by decide +kernel⟩
theorem wmX9_doneBy : wmS yX9_doneBy cX9_doneBy 1 (some .int) 1 := ⟨gm (wt_3 (List.mem_of_getElem? (i := 174) rfl)) rfl, gm (wt_3 (List.mem_of_getElem? (i := 173) rfl)) rfl, gm (wt_1 (List.mem_of_getElem? (i := 7) rfl)) rfl, by decide +kernel⟩
theorem wmX9_step : wmV yX9_step cX9_step 6 (some .int) 3 := ⟨gm (wt_3 (List.mem_of_getElem? (i := 186) rfl)) rfl, gm (wt_3 (List.mem_of_getElem? (i := 184) rfl)) rfl, gm (wt_3 (List.mem_of_getElem? (i := 185) rfl)) rfl, gm (wt_1 (List.mem_of_getElem? (i := 7) rfl)) rfl, by decide +kernel⟩
theorem wmX9_leave : wmS yX9_leave cX9_leave 2 none 2 := ⟨gm (wt_3 (List.mem_of_getElem? (i := 193) rfl)) rfl, gm (wt_3 (List.mem_of_getElem? (i := 192) rfl)) rfl, gm (wt_1 (List.mem_of_getElem? (i := 7) rfl)) rfl, by decide +kernel⟩
theorem wmX9_follow : wmV yX9_follow cX9_follow 5 none 4 := ⟨gm (wt_3 (List.mem_of_getElem? (i := 198) rfl)) rfl, gm (wt_3 (List.mem_of_getElem? (i := 197) rfl)) rfl, gm (wt_0 (List.mem_of_getElem? (i := 14) rfl)) rfl, gm (wt_1 (List.mem_of_getElem? (i := 7) rfl)) rfl, by decide +kernel⟩
theorem wmX9_answer : wmS yX9_answer cX9_answer 5 none 4 := ⟨gm (wt_3 (List.mem_of_getElem? (i := 201) rfl)) rfl, gm (wt_3 (List.mem_of_getElem? (i := 200) rfl)) rfl, gm (wt_1 (List.mem_of_getElem? (i := 7) rfl)) rfl, by decide +kernel⟩
theorem wmX10_init : wmI yX10_init cX10_init 2 0 := ⟨gm (wt_1 (List.mem_of_getElem? (i := 25) rfl)) rfl, gm (wt_1 (List.mem_of_getElem? (i := 24) rfl)) rfl, gm (wt_1 (List.mem_of_getElem? (i := 1) rfl)) rfl, by decide +kernel⟩
theorem wmX10_place : wmV yX10_place cX10_place 4 (some .int) 3 := ⟨gm (wt_2 (List.mem_of_getElem? (i := 60) rfl)) rfl, gm (wt_2 (List.mem_of_getElem? (i := 58) rfl)) rfl, gm (wt_2 (List.mem_of_getElem? (i := 59) rfl)) rfl, gm (wt_1 (List.mem_of_getElem? (i := 1) rfl)) rfl, by decide +kernel⟩
theorem wmX10_of : wmV yX10_of cX10_of 3 (some .int) 2 := ⟨gm (wt_2 (List.mem_of_getElem? (i := 72) rfl)) rfl, gm (wt_2 (List.mem_of_getElem? (i := 70) rfl)) rfl, gm (wt_2 (List.mem_of_getElem? (i := 71) rfl)) rfl, gm (wt_1 (List.mem_of_getElem? (i := 1) rfl)) rfl, by decide +kernel⟩
theorem wmX10_set : wmV yX10_set cX10_set 5 (some .int) 2 := ⟨gm (wt_2 (List.mem_of_getElem? (i := 92) rfl)) rfl, gm (wt_2 (List.mem_of_getElem? (i := 90) rfl)) rfl, gm (wt_2 (List.mem_of_getElem? (i := 91) rfl)) rfl, gm (wt_1 (List.mem_of_getElem? (i := 1) rfl)) rfl, by decide +kernel⟩
theorem wmX10_now : wmV yX10_now cX10_now 2 (some .int) 1 := ⟨gm (wt_2 (List.mem_of_getElem? (i := 107) rfl)) rfl, gm (wt_2 (List.mem_of_getElem? (i := 105) rfl)) rfl, gm (wt_2 (List.mem_of_getElem? (i := 106) rfl)) rfl, gm (wt_1 (List.mem_of_getElem? (i := 1) rfl)) rfl, by decide +kernel⟩
theorem wmX10_feed : wmV yX10_feed cX10_feed 2 (some .int) 1 := ⟨gm (wt_2 (List.mem_of_getElem? (i := 120) rfl)) rfl, gm (wt_2 (List.mem_of_getElem? (i := 118) rfl)) rfl, gm (wt_2 (List.mem_of_getElem? (i := 119) rfl)) rfl, gm (wt_1 (List.mem_of_getElem? (i := 1) rfl)) rfl, by decide +kernel⟩
theorem wmX10_law : wmV yX10_law cX10_law 3 (some .int) 0 := ⟨gm (wt_2 (List.mem_of_getElem? (i := 140) rfl)) rfl, gm (wt_2 (List.mem_of_getElem? (i := 138) rfl)) rfl, gm (wt_2 (List.mem_of_getElem? (i := 139) rfl)) rfl, gm (wt_1 (List.mem_of_getElem? (i := 1) rfl)) rfl, by decide +kernel⟩
theorem wmX10_told : wmV yX10_told cX10_told 2 (some .int) 1 := ⟨gm (wt_3 (List.mem_of_getElem? (i := 94) rfl)) rfl, gm (wt_3 (List.mem_of_getElem? (i := 92) rfl)) rfl, gm (wt_3 (List.mem_of_getElem? (i := 93) rfl)) rfl, gm (wt_1 (List.mem_of_getElem? (i := 1) rfl)) rfl, by decide +kernel⟩
theorem wmX10_drive : wmV yX10_drive cX10_drive 2 (some .int) 1 := ⟨gm (wt_3 (List.mem_of_getElem? (i := 138) rfl)) rfl, gm (wt_3 (List.mem_of_getElem? (i := 136) rfl)) rfl, gm (wt_3 (List.mem_of_getElem? (i := 137) rfl)) rfl, gm (wt_1 (List.mem_of_getElem? (i := 1) rfl)) rfl, by decide +kernel⟩
theorem wmX10_would : wmV yX10_would cX10_would 2 (some .int) 1 := ⟨gm (wt_3 (List.mem_of_getElem? (i := 165) rfl)) rfl, gm (wt_3 (List.mem_of_getElem? (i := 163) rfl)) rfl, gm (wt_3 (List.mem_of_getElem? (i := 164) rfl)) rfl, gm (wt_1 (List.mem_of_getElem? (i := 1) rfl)) rfl, by decide +kernel⟩
theorem wmX10_go : wmV yX10_go cX10_go 2 (some .int) 1 := ⟨gm (wt_3 (List.mem_of_getElem? (i := 178) rfl)) rfl, gm (wt_3 (List.mem_of_getElem? (i := 176) rfl)) rfl, gm (wt_3 (List.mem_of_getElem? (i := 177) rfl)) rfl, gm (wt_1 (List.mem_of_getElem? (i := 1) rfl)) rfl, by decide +kernel⟩
theorem wmX10_row : wmV yX10_row cX10_row 2 (some .int) 1 := ⟨gm (wt_3 (List.mem_of_getElem? (i := 206) rfl)) rfl, gm (wt_3 (List.mem_of_getElem? (i := 204) rfl)) rfl, gm (wt_3 (List.mem_of_getElem? (i := 205) rfl)) rfl, gm (wt_1 (List.mem_of_getElem? (i := 1) rfl)) rfl, by decide +kernel⟩
theorem wmX10_hand : wmV yX10_hand cX10_hand 3 (some .int) 2 := ⟨gm (wt_3 (List.mem_of_getElem? (i := 216) rfl)) rfl, gm (wt_3 (List.mem_of_getElem? (i := 214) rfl)) rfl, gm (wt_3 (List.mem_of_getElem? (i := 215) rfl)) rfl, gm (wt_1 (List.mem_of_getElem? (i := 1) rfl)) rfl, by decide +kernel⟩
theorem wmX10_soonest : wmV yX10_soonest cX10_soonest 4 (some .int) 2 := ⟨gm (wt_4 (List.mem_of_getElem? (i := 7) rfl)) rfl, gm (wt_4 (List.mem_of_getElem? (i := 5) rfl)) rfl, gm (wt_4 (List.mem_of_getElem? (i := 6) rfl)) rfl, gm (wt_1 (List.mem_of_getElem? (i := 1) rfl)) rfl, by decide +kernel⟩
theorem wmX10_gentlest : wmV yX10_gentlest cX10_gentlest 4 (some .int) 2 := ⟨gm (wt_4 (List.mem_of_getElem? (i := 36) rfl)) rfl, gm (wt_4 (List.mem_of_getElem? (i := 34) rfl)) rfl, gm (wt_4 (List.mem_of_getElem? (i := 35) rfl)) rfl, gm (wt_1 (List.mem_of_getElem? (i := 1) rfl)) rfl, by decide +kernel⟩
theorem wmX10_why : wmV yX10_why cX10_why 1 (some .int) 0 := ⟨gm (wt_4 (List.mem_of_getElem? (i := 57) rfl)) rfl, gm (wt_4 (List.mem_of_getElem? (i := 55) rfl)) rfl, gm (wt_4 (List.mem_of_getElem? (i := 56) rfl)) rfl, gm (wt_1 (List.mem_of_getElem? (i := 1) rfl)) rfl, by decide +kernel⟩
theorem wmX10_waits : wmV yX10_waits cX10_waits 1 (some .int) 0 := ⟨gm (wt_4 (List.mem_of_getElem? (i := 65) rfl)) rfl, gm (wt_4 (List.mem_of_getElem? (i := 63) rfl)) rfl, gm (wt_4 (List.mem_of_getElem? (i := 64) rfl)) rfl, gm (wt_1 (List.mem_of_getElem? (i := 1) rfl)) rfl, by decide +kernel⟩
theorem wmX10_round : wmV yX10_round cX10_round 2 (some .int) 0 := ⟨gm (wt_4 (List.mem_of_getElem? (i := 73) rfl)) rfl, gm (wt_4 (List.mem_of_getElem? (i := 71) rfl)) rfl, gm (wt_4 (List.mem_of_getElem? (i := 72) rfl)) rfl, gm (wt_1 (List.mem_of_getElem? (i := 1) rfl)) rfl, by decide +kernel⟩
theorem wmX10_shiftLoad : wmV yX10_shiftLoad cX10_shiftLoad 1 (some .int) 0 := ⟨gm (wt_4 (List.mem_of_getElem? (i := 77) rfl)) rfl, gm (wt_4 (List.mem_of_getElem? (i := 75) rfl)) rfl, gm (wt_4 (List.mem_of_getElem? (i := 76) rfl)) rfl, gm (wt_1 (List.mem_of_getElem? (i := 1) rfl)) rfl, by decide +kernel⟩
theorem wmX10_wander : wmV yX10_wander cX10_wander 3 (some .int) 1 := ⟨gm (wt_4 (List.mem_of_getElem? (i := 91) rfl)) rfl, gm (wt_4 (List.mem_of_getElem? (i := 89) rfl)) rfl, gm (wt_4 (List.mem_of_getElem? (i := 90) rfl)) rfl, gm (wt_1 (List.mem_of_getElem? (i := 1) rfl)) rfl, by decide +kernel⟩
theorem wmX10_sure : wmV yX10_sure cX10_sure 3 (some .long) 2 := ⟨gm (wt_4 (List.mem_of_getElem? (i := 95) rfl)) rfl, gm (wt_4 (List.mem_of_getElem? (i := 93) rfl)) rfl, gm (wt_4 (List.mem_of_getElem? (i := 94) rfl)) rfl, gm (wt_1 (List.mem_of_getElem? (i := 1) rfl)) rfl, by decide +kernel⟩
theorem wmX10_days : wmV yX10_days cX10_days 4 (some .int) 2 := ⟨gm (wt_4 (List.mem_of_getElem? (i := 115) rfl)) rfl, gm (wt_4 (List.mem_of_getElem? (i := 113) rfl)) rfl, gm (wt_4 (List.mem_of_getElem? (i := 114) rfl)) rfl, gm (wt_1 (List.mem_of_getElem? (i := 1) rfl)) rfl, by decide +kernel⟩
theorem wmX10_beast : wmV yX10_beast cX10_beast 2 (some .int) 1 := ⟨gm (wt_4 (List.mem_of_getElem? (i := 124) rfl)) rfl, gm (wt_4 (List.mem_of_getElem? (i := 122) rfl)) rfl, gm (wt_4 (List.mem_of_getElem? (i := 123) rfl)) rfl, gm (wt_1 (List.mem_of_getElem? (i := 1) rfl)) rfl, by decide +kernel⟩
theorem wmX10_string : wmV yX10_string cX10_string 5 (some .int) 1 := ⟨gm (wt_4 (List.mem_of_getElem? (i := 128) rfl)) rfl, gm (wt_4 (List.mem_of_getElem? (i := 126) rfl)) rfl, gm (wt_4 (List.mem_of_getElem? (i := 127) rfl)) rfl, gm (wt_1 (List.mem_of_getElem? (i := 1) rfl)) rfl, by decide +kernel⟩
theorem wmX10_film : wmV yX10_film cX10_film 2 (some .int) 1 := ⟨gm (wt_4 (List.mem_of_getElem? (i := 143) rfl)) rfl, gm (wt_4 (List.mem_of_getElem? (i := 141) rfl)) rfl, gm (wt_4 (List.mem_of_getElem? (i := 142) rfl)) rfl, gm (wt_1 (List.mem_of_getElem? (i := 1) rfl)) rfl, by decide +kernel⟩
theorem wmX10_off : wmV yX10_off cX10_off 1 (some .int) 0 := ⟨gm (wt_4 (List.mem_of_getElem? (i := 147) rfl)) rfl, gm (wt_4 (List.mem_of_getElem? (i := 145) rfl)) rfl, gm (wt_4 (List.mem_of_getElem? (i := 146) rfl)) rfl, gm (wt_1 (List.mem_of_getElem? (i := 1) rfl)) rfl, by decide +kernel⟩
theorem wmX10_judge : wmV yX10_judge cX10_judge 4 (some .int) 2 := ⟨gm (wt_4 (List.mem_of_getElem? (i := 155) rfl)) rfl, gm (wt_4 (List.mem_of_getElem? (i := 153) rfl)) rfl, gm (wt_4 (List.mem_of_getElem? (i := 154) rfl)) rfl, gm (wt_1 (List.mem_of_getElem? (i := 1) rfl)) rfl, by decide +kernel⟩
theorem wmX10_image : wmV yX10_image cX10_image 1 (some .int) 0 := ⟨gm (wt_4 (List.mem_of_getElem? (i := 184) rfl)) rfl, gm (wt_4 (List.mem_of_getElem? (i := 182) rfl)) rfl, gm (wt_4 (List.mem_of_getElem? (i := 183) rfl)) rfl, gm (wt_1 (List.mem_of_getElem? (i := 1) rfl)) rfl, by decide +kernel⟩
theorem wmX10_undo : wmV yX10_undo cX10_undo 1 (some .int) 0 := ⟨gm (wt_4 (List.mem_of_getElem? (i := 200) rfl)) rfl, gm (wt_4 (List.mem_of_getElem? (i := 198) rfl)) rfl, gm (wt_4 (List.mem_of_getElem? (i := 199) rfl)) rfl, gm (wt_1 (List.mem_of_getElem? (i := 1) rfl)) rfl, by decide +kernel⟩
theorem wmX10_part : wmV yX10_part cX10_part 4 (some .int) 3 := ⟨gm (wt_4 (List.mem_of_getElem? (i := 208) rfl)) rfl, gm (wt_4 (List.mem_of_getElem? (i := 206) rfl)) rfl, gm (wt_4 (List.mem_of_getElem? (i := 207) rfl)) rfl, gm (wt_1 (List.mem_of_getElem? (i := 1) rfl)) rfl, by decide +kernel⟩
theorem wmX10_trace : wmV yX10_trace cX10_trace 2 (some .int) 1 := ⟨gm (wt_4 (List.mem_of_getElem? (i := 239) rfl)) rfl, gm (wt_4 (List.mem_of_getElem? (i := 237) rfl)) rfl, gm (wt_4 (List.mem_of_getElem? (i := 238) rfl)) rfl, gm (wt_1 (List.mem_of_getElem? (i := 1) rfl)) rfl, by decide +kernel⟩
theorem wmX10_taken : wmV yX10_taken cX10_taken 4 (some .int) 2 := ⟨gm (wt_5 (List.mem_of_getElem? (i := 8) rfl)) rfl, gm (wt_5 (List.mem_of_getElem? (i := 6) rfl)) rfl, gm (wt_5 (List.mem_of_getElem? (i := 7) rfl)) rfl, gm (wt_1 (List.mem_of_getElem? (i := 1) rfl)) rfl, by decide +kernel⟩
theorem wmX10_count : wmV yX10_count cX10_count 2 (some .int) 1 := ⟨gm (wt_5 (List.mem_of_getElem? (i := 16) rfl)) rfl, gm (wt_5 (List.mem_of_getElem? (i := 14) rfl)) rfl, gm (wt_5 (List.mem_of_getElem? (i := 15) rfl)) rfl, gm (wt_1 (List.mem_of_getElem? (i := 1) rfl)) rfl, by decide +kernel⟩
theorem wmX10_tape : wmV yX10_tape cX10_tape 5 (some .int) 3 := ⟨gm (wt_5 (List.mem_of_getElem? (i := 24) rfl)) rfl, gm (wt_5 (List.mem_of_getElem? (i := 22) rfl)) rfl, gm (wt_5 (List.mem_of_getElem? (i := 23) rfl)) rfl, gm (wt_1 (List.mem_of_getElem? (i := 1) rfl)) rfl, by decide +kernel⟩
theorem wmX10_item : wmV yX10_item cX10_item 6 (some .int) 3 := ⟨gm (wt_5 (List.mem_of_getElem? (i := 37) rfl)) rfl, gm (wt_5 (List.mem_of_getElem? (i := 35) rfl)) rfl, gm (wt_5 (List.mem_of_getElem? (i := 36) rfl)) rfl, gm (wt_1 (List.mem_of_getElem? (i := 1) rfl)) rfl, by decide +kernel⟩
theorem wmX10_read : wmV yX10_read cX10_read 4 (some .long) 2 := ⟨gm (wt_5 (List.mem_of_getElem? (i := 50) rfl)) rfl, gm (wt_5 (List.mem_of_getElem? (i := 48) rfl)) rfl, gm (wt_5 (List.mem_of_getElem? (i := 49) rfl)) rfl, gm (wt_1 (List.mem_of_getElem? (i := 1) rfl)) rfl, by decide +kernel⟩
theorem wmX10_shift : wmV yX10_shift cX10_shift 8 (some .int) 5 := ⟨gm (wt_5 (List.mem_of_getElem? (i := 55) rfl)) rfl, gm (wt_5 (List.mem_of_getElem? (i := 53) rfl)) rfl, gm (wt_5 (List.mem_of_getElem? (i := 54) rfl)) rfl, gm (wt_1 (List.mem_of_getElem? (i := 1) rfl)) rfl, by decide +kernel⟩
theorem wmX10_isAct : wmS yX10_isAct cX10_isAct 1 (some .boolean) 1 := ⟨gm (wt_3 (List.mem_of_getElem? (i := 141) rfl)) rfl, gm (wt_3 (List.mem_of_getElem? (i := 140) rfl)) rfl, gm (wt_1 (List.mem_of_getElem? (i := 1) rfl)) rfl, by decide +kernel⟩
theorem wmX10_isOver : wmV yX10_isOver cX10_isOver 1 (some .boolean) 0 := ⟨gm (wt_3 (List.mem_of_getElem? (i := 106) rfl)) rfl, gm (wt_3 (List.mem_of_getElem? (i := 105) rfl)) rfl, gm (wt_0 (List.mem_of_getElem? (i := 9) rfl)) rfl, gm (wt_1 (List.mem_of_getElem? (i := 1) rfl)) rfl, by decide +kernel⟩
theorem wmX10_heldLaw : wmV yX10_heldLaw cX10_heldLaw 3 (some (.object "DonkeyBridge$Law")) 0 := ⟨gm (wt_4 (List.mem_of_getElem? (i := 204) rfl)) rfl, gm (wt_4 (List.mem_of_getElem? (i := 203) rfl)) rfl, gm (wt_0 (List.mem_of_getElem? (i := 29) rfl)) rfl, gm (wt_1 (List.mem_of_getElem? (i := 1) rfl)) rfl, by decide +kernel⟩
theorem wmX10_tapeOf : wmV yX10_tapeOf cX10_tapeOf 2 (some (.object "DonkeyBridge$Tape")) 1 := ⟨gm (wt_4 (List.mem_of_getElem? (i := 159) rfl)) rfl, gm (wt_4 (List.mem_of_getElem? (i := 158) rfl)) rfl, gm (wt_0 (List.mem_of_getElem? (i := 28) rfl)) rfl, gm (wt_1 (List.mem_of_getElem? (i := 1) rfl)) rfl, by decide +kernel⟩
theorem wmX10_addOrClear : wmS yX10_addOrClear cX10_addOrClear 2 (some .int) 2 := ⟨gm (wt_3 (List.mem_of_getElem? (i := 209) rfl)) rfl, gm (wt_3 (List.mem_of_getElem? (i := 208) rfl)) rfl, gm (wt_1 (List.mem_of_getElem? (i := 1) rfl)) rfl, by decide +kernel⟩
theorem wmX11_init : wmI yX11_init cX11_init 1 0 := ⟨gm (wt_5 (List.mem_of_getElem? (i := 70) rfl)) rfl, gm (wt_5 (List.mem_of_getElem? (i := 69) rfl)) rfl, gm (wt_1 (List.mem_of_getElem? (i := 14) rfl)) rfl, by decide +kernel⟩
theorem wmX11_in : wmS yX11_in cX11_in 3 (some .boolean) 3 := ⟨gm (wt_5 (List.mem_of_getElem? (i := 232) rfl)) rfl, gm (wt_5 (List.mem_of_getElem? (i := 231) rfl)) rfl, gm (wt_1 (List.mem_of_getElem? (i := 14) rfl)) rfl, by decide +kernel⟩
theorem wmX11_sizeOf : wmS yX11_sizeOf cX11_sizeOf 1 (some .int) 1 := ⟨gm (wt_6 (List.mem_of_getElem? (i := 103) rfl)) rfl, gm (wt_6 (List.mem_of_getElem? (i := 102) rfl)) rfl, gm (wt_1 (List.mem_of_getElem? (i := 14) rfl)) rfl, by decide +kernel⟩
theorem wmX11_held : wmS yX11_held cX11_held 2 (some .int) 2 := ⟨gm (wt_6 (List.mem_of_getElem? (i := 106) rfl)) rfl, gm (wt_6 (List.mem_of_getElem? (i := 105) rfl)) rfl, gm (wt_1 (List.mem_of_getElem? (i := 14) rfl)) rfl, by decide +kernel⟩
theorem wmX11_isPlace : wmV yX11_isPlace cX11_isPlace 2 (some .boolean) 1 := ⟨gm (wt_6 (List.mem_of_getElem? (i := 0) rfl)) rfl, gm (wt_5 (List.mem_of_getElem? (i := 239) rfl)) rfl, gm (wt_0 (List.mem_of_getElem? (i := 33) rfl)) rfl, gm (wt_1 (List.mem_of_getElem? (i := 14) rfl)) rfl, by decide +kernel⟩
theorem wmX11_place : wmV yX11_place cX11_place 4 (some .int) 3 := ⟨gm (wt_5 (List.mem_of_getElem? (i := 229) rfl)) rfl, gm (wt_5 (List.mem_of_getElem? (i := 227) rfl)) rfl, gm (wt_5 (List.mem_of_getElem? (i := 228) rfl)) rfl, gm (wt_1 (List.mem_of_getElem? (i := 14) rfl)) rfl, by decide +kernel⟩
theorem wmX11_of : wmV yX11_of cX11_of 3 (some .int) 2 := ⟨gm (wt_5 (List.mem_of_getElem? (i := 236) rfl)) rfl, gm (wt_5 (List.mem_of_getElem? (i := 234) rfl)) rfl, gm (wt_5 (List.mem_of_getElem? (i := 235) rfl)) rfl, gm (wt_1 (List.mem_of_getElem? (i := 14) rfl)) rfl, by decide +kernel⟩
theorem wmX11_isOver : wmV yX11_isOver cX11_isOver 1 (some .boolean) 0 := ⟨gm (wt_6 (List.mem_of_getElem? (i := 88) rfl)) rfl, gm (wt_6 (List.mem_of_getElem? (i := 87) rfl)) rfl, gm (wt_0 (List.mem_of_getElem? (i := 50) rfl)) rfl, gm (wt_1 (List.mem_of_getElem? (i := 14) rfl)) rfl, by decide +kernel⟩
theorem wmX11_mostOf : wmV yX11_mostOf cX11_mostOf 2 (some .int) 1 := ⟨gm (wt_6 (List.mem_of_getElem? (i := 8) rfl)) rfl, gm (wt_6 (List.mem_of_getElem? (i := 7) rfl)) rfl, gm (wt_0 (List.mem_of_getElem? (i := 34) rfl)) rfl, gm (wt_1 (List.mem_of_getElem? (i := 14) rfl)) rfl, by decide +kernel⟩
theorem wmX11_set : wmV yX11_set cX11_set 4 (some .int) 2 := ⟨gm (wt_6 (List.mem_of_getElem? (i := 4) rfl)) rfl, gm (wt_6 (List.mem_of_getElem? (i := 2) rfl)) rfl, gm (wt_6 (List.mem_of_getElem? (i := 3) rfl)) rfl, gm (wt_1 (List.mem_of_getElem? (i := 14) rfl)) rfl, by decide +kernel⟩
theorem wmX11_learnt : wmV yX11_learnt cX11_learnt 3 (some .int) 0 := ⟨gm (wt_6 (List.mem_of_getElem? (i := 20) rfl)) rfl, gm (wt_6 (List.mem_of_getElem? (i := 19) rfl)) rfl, gm (wt_0 (List.mem_of_getElem? (i := 36) rfl)) rfl, gm (wt_1 (List.mem_of_getElem? (i := 14) rfl)) rfl, by decide +kernel⟩
theorem wmX11_nowOf : wmV yX11_nowOf cX11_nowOf 2 (some .int) 1 := ⟨gm (wt_6 (List.mem_of_getElem? (i := 16) rfl)) rfl, gm (wt_6 (List.mem_of_getElem? (i := 15) rfl)) rfl, gm (wt_0 (List.mem_of_getElem? (i := 35) rfl)) rfl, gm (wt_1 (List.mem_of_getElem? (i := 14) rfl)) rfl, by decide +kernel⟩
theorem wmX11_now : wmV yX11_now cX11_now 2 (some .int) 1 := ⟨gm (wt_6 (List.mem_of_getElem? (i := 12) rfl)) rfl, gm (wt_6 (List.mem_of_getElem? (i := 10) rfl)) rfl, gm (wt_6 (List.mem_of_getElem? (i := 11) rfl)) rfl, gm (wt_1 (List.mem_of_getElem? (i := 14) rfl)) rfl, by decide +kernel⟩
theorem wmX11_feed : wmV yX11_feed cX11_feed 2 (some .int) 1 := ⟨gm (wt_6 (List.mem_of_getElem? (i := 24) rfl)) rfl, gm (wt_6 (List.mem_of_getElem? (i := 22) rfl)) rfl, gm (wt_6 (List.mem_of_getElem? (i := 23) rfl)) rfl, gm (wt_1 (List.mem_of_getElem? (i := 14) rfl)) rfl, by decide +kernel⟩
theorem wmX11_isHere : wmV yX11_isHere cX11_isHere 2 (some .boolean) 1 := ⟨gm (wt_6 (List.mem_of_getElem? (i := 56) rfl)) rfl, gm (wt_6 (List.mem_of_getElem? (i := 55) rfl)) rfl, gm (wt_0 (List.mem_of_getElem? (i := 43) rfl)) rfl, gm (wt_1 (List.mem_of_getElem? (i := 14) rfl)) rfl, by decide +kernel⟩
theorem wmX11_faulty : wmV yX11_faulty cX11_faulty 1 none 0 := ⟨gm (wt_6 (List.mem_of_getElem? (i := 40) rfl)) rfl, gm (wt_6 (List.mem_of_getElem? (i := 39) rfl)) rfl, gm (wt_0 (List.mem_of_getElem? (i := 39) rfl)) rfl, gm (wt_1 (List.mem_of_getElem? (i := 14) rfl)) rfl, by decide +kernel⟩
theorem wmX11_takes : wmV yX11_takes cX11_takes 2 none 1 := ⟨gm (wt_6 (List.mem_of_getElem? (i := 52) rfl)) rfl, gm (wt_6 (List.mem_of_getElem? (i := 51) rfl)) rfl, gm (wt_0 (List.mem_of_getElem? (i := 42) rfl)) rfl, gm (wt_1 (List.mem_of_getElem? (i := 14) rfl)) rfl, by decide +kernel⟩
theorem wmX11_isDigit : wmV yX11_isDigit cX11_isDigit 1 (some .boolean) 0 := ⟨gm (wt_6 (List.mem_of_getElem? (i := 48) rfl)) rfl, gm (wt_6 (List.mem_of_getElem? (i := 47) rfl)) rfl, gm (wt_0 (List.mem_of_getElem? (i := 41) rfl)) rfl, gm (wt_1 (List.mem_of_getElem? (i := 14) rfl)) rfl, by decide +kernel⟩
theorem wmX11_readNumber : wmV yX11_readNumber cX11_readNumber 2 (some .int) 0 := ⟨gm (wt_6 (List.mem_of_getElem? (i := 44) rfl)) rfl, gm (wt_6 (List.mem_of_getElem? (i := 43) rfl)) rfl, gm (wt_0 (List.mem_of_getElem? (i := 40) rfl)) rfl, gm (wt_1 (List.mem_of_getElem? (i := 14) rfl)) rfl, by decide +kernel⟩
theorem wmX11_lay : wmV yX11_lay cX11_lay 2 none 1 := ⟨gm (wt_6 (List.mem_of_getElem? (i := 72) rfl)) rfl, gm (wt_6 (List.mem_of_getElem? (i := 71) rfl)) rfl, gm (wt_0 (List.mem_of_getElem? (i := 47) rfl)) rfl, gm (wt_1 (List.mem_of_getElem? (i := 14) rfl)) rfl, by decide +kernel⟩
theorem wmX11_either : wmV yX11_either cX11_either 2 none 1 := ⟨gm (wt_6 (List.mem_of_getElem? (i := 60) rfl)) rfl, gm (wt_6 (List.mem_of_getElem? (i := 59) rfl)) rfl, gm (wt_0 (List.mem_of_getElem? (i := 44) rfl)) rfl, gm (wt_1 (List.mem_of_getElem? (i := 14) rfl)) rfl, by decide +kernel⟩
theorem wmX11_both : wmV yX11_both cX11_both 2 none 1 := ⟨gm (wt_6 (List.mem_of_getElem? (i := 64) rfl)) rfl, gm (wt_6 (List.mem_of_getElem? (i := 63) rfl)) rfl, gm (wt_0 (List.mem_of_getElem? (i := 45) rfl)) rfl, gm (wt_1 (List.mem_of_getElem? (i := 14) rfl)) rfl, by decide +kernel⟩
theorem wmX11_isLetter : wmV yX11_isLetter cX11_isLetter 2 (some .boolean) 0 := ⟨gm (wt_6 (List.mem_of_getElem? (i := 76) rfl)) rfl, gm (wt_6 (List.mem_of_getElem? (i := 75) rfl)) rfl, gm (wt_0 (List.mem_of_getElem? (i := 48) rfl)) rfl, gm (wt_1 (List.mem_of_getElem? (i := 14) rfl)) rfl, by decide +kernel⟩
theorem wmX11_one : wmV yX11_one cX11_one 3 none 1 := ⟨gm (wt_6 (List.mem_of_getElem? (i := 68) rfl)) rfl, gm (wt_6 (List.mem_of_getElem? (i := 67) rfl)) rfl, gm (wt_0 (List.mem_of_getElem? (i := 46) rfl)) rfl, gm (wt_1 (List.mem_of_getElem? (i := 14) rfl)) rfl, by decide +kernel⟩
theorem wmX11_readWord : wmV yX11_readWord cX11_readWord 7 (some .int) 0 := ⟨gm (wt_6 (List.mem_of_getElem? (i := 36) rfl)) rfl, gm (wt_6 (List.mem_of_getElem? (i := 35) rfl)) rfl, gm (wt_0 (List.mem_of_getElem? (i := 38) rfl)) rfl, gm (wt_1 (List.mem_of_getElem? (i := 14) rfl)) rfl, by decide +kernel⟩
theorem wmX11_clause : wmV yX11_clause cX11_clause 2 none 0 := ⟨gm (wt_6 (List.mem_of_getElem? (i := 32) rfl)) rfl, gm (wt_6 (List.mem_of_getElem? (i := 31) rfl)) rfl, gm (wt_0 (List.mem_of_getElem? (i := 37) rfl)) rfl, gm (wt_1 (List.mem_of_getElem? (i := 14) rfl)) rfl, by decide +kernel⟩
theorem wmX11_law : wmV yX11_law cX11_law 1 (some .int) 0 := ⟨gm (wt_6 (List.mem_of_getElem? (i := 28) rfl)) rfl, gm (wt_6 (List.mem_of_getElem? (i := 26) rfl)) rfl, gm (wt_6 (List.mem_of_getElem? (i := 27) rfl)) rfl, gm (wt_1 (List.mem_of_getElem? (i := 14) rfl)) rfl, by decide +kernel⟩
theorem wmX11_factOf : wmV yX11_factOf cX11_factOf 2 (some .int) 1 := ⟨gm (wt_6 (List.mem_of_getElem? (i := 100) rfl)) rfl, gm (wt_6 (List.mem_of_getElem? (i := 99) rfl)) rfl, gm (wt_0 (List.mem_of_getElem? (i := 53) rfl)) rfl, gm (wt_1 (List.mem_of_getElem? (i := 14) rfl)) rfl, by decide +kernel⟩
theorem wmX11_test : wmS yX11_test cX11_test 3 (some .boolean) 3 := ⟨gm (wt_6 (List.mem_of_getElem? (i := 109) rfl)) rfl, gm (wt_6 (List.mem_of_getElem? (i := 108) rfl)) rfl, gm (wt_1 (List.mem_of_getElem? (i := 14) rfl)) rfl, by decide +kernel⟩
theorem wmX11_isSo : wmV yX11_isSo cX11_isSo 4 (some .boolean) 1 := ⟨gm (wt_6 (List.mem_of_getElem? (i := 96) rfl)) rfl, gm (wt_6 (List.mem_of_getElem? (i := 95) rfl)) rfl, gm (wt_0 (List.mem_of_getElem? (i := 52) rfl)) rfl, gm (wt_1 (List.mem_of_getElem? (i := 14) rfl)) rfl, by decide +kernel⟩
theorem wmX11_sumOf : wmV yX11_sumOf cX11_sumOf 4 (some .int) 1 := ⟨gm (wt_6 (List.mem_of_getElem? (i := 92) rfl)) rfl, gm (wt_6 (List.mem_of_getElem? (i := 91) rfl)) rfl, gm (wt_0 (List.mem_of_getElem? (i := 51) rfl)) rfl, gm (wt_1 (List.mem_of_getElem? (i := 14) rfl)) rfl, by decide +kernel⟩
theorem wmX11_lastOf : wmV yX11_lastOf cX11_lastOf 4 (some .int) 1 := ⟨gm (wt_6 (List.mem_of_getElem? (i := 84) rfl)) rfl, gm (wt_6 (List.mem_of_getElem? (i := 83) rfl)) rfl, gm (wt_0 (List.mem_of_getElem? (i := 49) rfl)) rfl, gm (wt_1 (List.mem_of_getElem? (i := 14) rfl)) rfl, by decide +kernel⟩
theorem wmX11_fordHalves : wmV yX11_fordHalves cX11_fordHalves 1 (some .int) 0 := ⟨gm (wt_6 (List.mem_of_getElem? (i := 146) rfl)) rfl, gm (wt_6 (List.mem_of_getElem? (i := 145) rfl)) rfl, gm (wt_0 (List.mem_of_getElem? (i := 58) rfl)) rfl, gm (wt_1 (List.mem_of_getElem? (i := 14) rfl)) rfl, by decide +kernel⟩
theorem wmX11_told : wmV yX11_told cX11_told 2 (some .int) 1 := ⟨gm (wt_6 (List.mem_of_getElem? (i := 80) rfl)) rfl, gm (wt_6 (List.mem_of_getElem? (i := 78) rfl)) rfl, gm (wt_6 (List.mem_of_getElem? (i := 79) rfl)) rfl, gm (wt_1 (List.mem_of_getElem? (i := 14) rfl)) rfl, by decide +kernel⟩
theorem wmX11_fearAs : wmV yX11_fearAs cX11_fearAs 5 (some .int) 1 := ⟨gm (wt_6 (List.mem_of_getElem? (i := 130) rfl)) rfl, gm (wt_6 (List.mem_of_getElem? (i := 129) rfl)) rfl, gm (wt_0 (List.mem_of_getElem? (i := 56) rfl)) rfl, gm (wt_1 (List.mem_of_getElem? (i := 14) rfl)) rfl, by decide +kernel⟩
theorem wmX11_lessBy : wmV yX11_lessBy cX11_lessBy 4 (some .int) 2 := ⟨gm (wt_6 (List.mem_of_getElem? (i := 126) rfl)) rfl, gm (wt_6 (List.mem_of_getElem? (i := 125) rfl)) rfl, gm (wt_0 (List.mem_of_getElem? (i := 55) rfl)) rfl, gm (wt_1 (List.mem_of_getElem? (i := 14) rfl)) rfl, by decide +kernel⟩
theorem wmX11_driveBy : wmV yX11_driveBy cX11_driveBy 4 (some .int) 1 := ⟨gm (wt_6 (List.mem_of_getElem? (i := 122) rfl)) rfl, gm (wt_6 (List.mem_of_getElem? (i := 121) rfl)) rfl, gm (wt_0 (List.mem_of_getElem? (i := 54) rfl)) rfl, gm (wt_1 (List.mem_of_getElem? (i := 14) rfl)) rfl, by decide +kernel⟩
theorem wmX11_isAct : wmS yX11_isAct cX11_isAct 1 (some .boolean) 1 := ⟨gm (wt_6 (List.mem_of_getElem? (i := 116) rfl)) rfl, gm (wt_6 (List.mem_of_getElem? (i := 115) rfl)) rfl, gm (wt_1 (List.mem_of_getElem? (i := 14) rfl)) rfl, by decide +kernel⟩
theorem wmX11_drive : wmV yX11_drive cX11_drive 2 (some .int) 1 := ⟨gm (wt_6 (List.mem_of_getElem? (i := 113) rfl)) rfl, gm (wt_6 (List.mem_of_getElem? (i := 111) rfl)) rfl, gm (wt_6 (List.mem_of_getElem? (i := 112) rfl)) rfl, gm (wt_1 (List.mem_of_getElem? (i := 14) rfl)) rfl, by decide +kernel⟩
theorem wmX11_wouldBy : wmV yX11_wouldBy cX11_wouldBy 3 (some .int) 1 := ⟨gm (wt_6 (List.mem_of_getElem? (i := 138) rfl)) rfl, gm (wt_6 (List.mem_of_getElem? (i := 137) rfl)) rfl, gm (wt_0 (List.mem_of_getElem? (i := 57) rfl)) rfl, gm (wt_1 (List.mem_of_getElem? (i := 14) rfl)) rfl, by decide +kernel⟩
theorem wmX11_would : wmV yX11_would cX11_would 2 (some .int) 1 := ⟨gm (wt_6 (List.mem_of_getElem? (i := 134) rfl)) rfl, gm (wt_6 (List.mem_of_getElem? (i := 132) rfl)) rfl, gm (wt_6 (List.mem_of_getElem? (i := 133) rfl)) rfl, gm (wt_1 (List.mem_of_getElem? (i := 14) rfl)) rfl, by decide +kernel⟩
theorem wmX11_more : wmV yX11_more cX11_more 3 none 2 := ⟨gm (wt_6 (List.mem_of_getElem? (i := 154) rfl)) rfl, gm (wt_6 (List.mem_of_getElem? (i := 153) rfl)) rfl, gm (wt_0 (List.mem_of_getElem? (i := 60) rfl)) rfl, gm (wt_1 (List.mem_of_getElem? (i := 14) rfl)) rfl, by decide +kernel⟩
theorem wmX11_does : wmV yX11_does cX11_does 5 (some .int) 1 := ⟨gm (wt_6 (List.mem_of_getElem? (i := 150) rfl)) rfl, gm (wt_6 (List.mem_of_getElem? (i := 149) rfl)) rfl, gm (wt_0 (List.mem_of_getElem? (i := 59) rfl)) rfl, gm (wt_1 (List.mem_of_getElem? (i := 14) rfl)) rfl, by decide +kernel⟩
theorem wmX11_driven : wmV yX11_driven cX11_driven 4 none 3 := ⟨gm (wt_6 (List.mem_of_getElem? (i := 158) rfl)) rfl, gm (wt_6 (List.mem_of_getElem? (i := 157) rfl)) rfl, gm (wt_0 (List.mem_of_getElem? (i := 61) rfl)) rfl, gm (wt_1 (List.mem_of_getElem? (i := 14) rfl)) rfl, by decide +kernel⟩
theorem wmX11_go : wmV yX11_go cX11_go 2 (some .int) 1 := ⟨gm (wt_6 (List.mem_of_getElem? (i := 142) rfl)) rfl, gm (wt_6 (List.mem_of_getElem? (i := 140) rfl)) rfl, gm (wt_6 (List.mem_of_getElem? (i := 141) rfl)) rfl, gm (wt_1 (List.mem_of_getElem? (i := 14) rfl)) rfl, by decide +kernel⟩
theorem wmX11_row : wmV yX11_row cX11_row 2 (some .int) 1 := ⟨gm (wt_6 (List.mem_of_getElem? (i := 162) rfl)) rfl, gm (wt_6 (List.mem_of_getElem? (i := 160) rfl)) rfl, gm (wt_6 (List.mem_of_getElem? (i := 161) rfl)) rfl, gm (wt_1 (List.mem_of_getElem? (i := 14) rfl)) rfl, by decide +kernel⟩
theorem wmX11_keepNow : wmV yX11_keepNow cX11_keepNow 2 none 0 := ⟨gm (wt_6 (List.mem_of_getElem? (i := 170) rfl)) rfl, gm (wt_6 (List.mem_of_getElem? (i := 169) rfl)) rfl, gm (wt_0 (List.mem_of_getElem? (i := 62) rfl)) rfl, gm (wt_1 (List.mem_of_getElem? (i := 14) rfl)) rfl, by decide +kernel⟩
theorem wmX11_layBack : wmV yX11_layBack cX11_layBack 2 none 0 := ⟨gm (wt_6 (List.mem_of_getElem? (i := 174) rfl)) rfl, gm (wt_6 (List.mem_of_getElem? (i := 173) rfl)) rfl, gm (wt_0 (List.mem_of_getElem? (i := 63) rfl)) rfl, gm (wt_1 (List.mem_of_getElem? (i := 14) rfl)) rfl, by decide +kernel⟩
theorem wmX11_hand : wmV yX11_hand cX11_hand 4 (some .int) 2 := ⟨gm (wt_6 (List.mem_of_getElem? (i := 166) rfl)) rfl, gm (wt_6 (List.mem_of_getElem? (i := 164) rfl)) rfl, gm (wt_6 (List.mem_of_getElem? (i := 165) rfl)) rfl, gm (wt_1 (List.mem_of_getElem? (i := 14) rfl)) rfl, by decide +kernel⟩
theorem wmX11_actOf : wmS yX11_actOf cX11_actOf 5 (some .int) 3 := ⟨gm (wt_6 (List.mem_of_getElem? (i := 188) rfl)) rfl, gm (wt_6 (List.mem_of_getElem? (i := 187) rfl)) rfl, gm (wt_1 (List.mem_of_getElem? (i := 14) rfl)) rfl, by decide +kernel⟩
theorem wmX11_rowsOf : wmS yX11_rowsOf cX11_rowsOf 3 (some .int) 1 := ⟨gm (wt_6 (List.mem_of_getElem? (i := 181) rfl)) rfl, gm (wt_6 (List.mem_of_getElem? (i := 180) rfl)) rfl, gm (wt_1 (List.mem_of_getElem? (i := 14) rfl)) rfl, by decide +kernel⟩
theorem wmX11_atBehind : wmV yX11_atBehind cX11_atBehind 4 (some .int) 2 := ⟨gm (wt_6 (List.mem_of_getElem? (i := 185) rfl)) rfl, gm (wt_6 (List.mem_of_getElem? (i := 184) rfl)) rfl, gm (wt_0 (List.mem_of_getElem? (i := 64) rfl)) rfl, gm (wt_1 (List.mem_of_getElem? (i := 14) rfl)) rfl, by decide +kernel⟩
theorem wmX11_soonest : wmV yX11_soonest cX11_soonest 5 (some .int) 2 := ⟨gm (wt_6 (List.mem_of_getElem? (i := 178) rfl)) rfl, gm (wt_6 (List.mem_of_getElem? (i := 176) rfl)) rfl, gm (wt_6 (List.mem_of_getElem? (i := 177) rfl)) rfl, gm (wt_1 (List.mem_of_getElem? (i := 14) rfl)) rfl, by decide +kernel⟩
theorem wmX11_gentlest : wmV yX11_gentlest cX11_gentlest 6 (some .int) 2 := ⟨gm (wt_6 (List.mem_of_getElem? (i := 192) rfl)) rfl, gm (wt_6 (List.mem_of_getElem? (i := 190) rfl)) rfl, gm (wt_6 (List.mem_of_getElem? (i := 191) rfl)) rfl, gm (wt_1 (List.mem_of_getElem? (i := 14) rfl)) rfl, by decide +kernel⟩
theorem wmX11_why : wmV yX11_why cX11_why 3 (some .int) 0 := ⟨gm (wt_6 (List.mem_of_getElem? (i := 196) rfl)) rfl, gm (wt_6 (List.mem_of_getElem? (i := 194) rfl)) rfl, gm (wt_6 (List.mem_of_getElem? (i := 195) rfl)) rfl, gm (wt_1 (List.mem_of_getElem? (i := 14) rfl)) rfl, by decide +kernel⟩
theorem wmX11_waitsFor : wmV yX11_waitsFor cX11_waitsFor 3 (some .int) 0 := ⟨gm (wt_6 (List.mem_of_getElem? (i := 204) rfl)) rfl, gm (wt_6 (List.mem_of_getElem? (i := 203) rfl)) rfl, gm (wt_0 (List.mem_of_getElem? (i := 65) rfl)) rfl, gm (wt_1 (List.mem_of_getElem? (i := 14) rfl)) rfl, by decide +kernel⟩
theorem wmX11_waits : wmV yX11_waits cX11_waits 1 (some .int) 0 := ⟨gm (wt_6 (List.mem_of_getElem? (i := 200) rfl)) rfl, gm (wt_6 (List.mem_of_getElem? (i := 198) rfl)) rfl, gm (wt_6 (List.mem_of_getElem? (i := 199) rfl)) rfl, gm (wt_1 (List.mem_of_getElem? (i := 14) rfl)) rfl, by decide +kernel⟩
theorem wmX11_round : wmV yX11_round cX11_round 2 (some .int) 0 := ⟨gm (wt_6 (List.mem_of_getElem? (i := 208) rfl)) rfl, gm (wt_6 (List.mem_of_getElem? (i := 206) rfl)) rfl, gm (wt_6 (List.mem_of_getElem? (i := 207) rfl)) rfl, gm (wt_1 (List.mem_of_getElem? (i := 14) rfl)) rfl, by decide +kernel⟩
theorem wmX11_shiftLoad : wmV yX11_shiftLoad cX11_shiftLoad 8 (some .int) 0 := ⟨gm (wt_6 (List.mem_of_getElem? (i := 212) rfl)) rfl, gm (wt_6 (List.mem_of_getElem? (i := 210) rfl)) rfl, gm (wt_6 (List.mem_of_getElem? (i := 211) rfl)) rfl, gm (wt_1 (List.mem_of_getElem? (i := 14) rfl)) rfl, by decide +kernel⟩
theorem wmX11_wander : wmV yX11_wander cX11_wander 3 (some .int) 1 := ⟨gm (wt_6 (List.mem_of_getElem? (i := 216) rfl)) rfl, gm (wt_6 (List.mem_of_getElem? (i := 214) rfl)) rfl, gm (wt_6 (List.mem_of_getElem? (i := 215) rfl)) rfl, gm (wt_1 (List.mem_of_getElem? (i := 14) rfl)) rfl, by decide +kernel⟩
theorem wmX11_lowest : wmS yX11_lowest cX11_lowest 11 (some .long) 3 := ⟨gm (wt_6 (List.mem_of_getElem? (i := 225) rfl)) rfl, gm (wt_6 (List.mem_of_getElem? (i := 224) rfl)) rfl, gm (wt_1 (List.mem_of_getElem? (i := 14) rfl)) rfl, by decide +kernel⟩
theorem wmX11_sure : wmV yX11_sure cX11_sure 12 (some .long) 2 := ⟨gm (wt_6 (List.mem_of_getElem? (i := 220) rfl)) rfl, gm (wt_6 (List.mem_of_getElem? (i := 218) rfl)) rfl, gm (wt_6 (List.mem_of_getElem? (i := 219) rfl)) rfl, gm (wt_1 (List.mem_of_getElem? (i := 14) rfl)) rfl, by decide +kernel⟩
theorem wmX11_days : wmV yX11_days cX11_days 5 (some .int) 2 := ⟨gm (wt_6 (List.mem_of_getElem? (i := 229) rfl)) rfl, gm (wt_6 (List.mem_of_getElem? (i := 227) rfl)) rfl, gm (wt_6 (List.mem_of_getElem? (i := 228) rfl)) rfl, gm (wt_1 (List.mem_of_getElem? (i := 14) rfl)) rfl, by decide +kernel⟩
theorem wmX11_beast : wmV yX11_beast cX11_beast 2 (some .int) 1 := ⟨gm (wt_6 (List.mem_of_getElem? (i := 233) rfl)) rfl, gm (wt_6 (List.mem_of_getElem? (i := 231) rfl)) rfl, gm (wt_6 (List.mem_of_getElem? (i := 232) rfl)) rfl, gm (wt_1 (List.mem_of_getElem? (i := 14) rfl)) rfl, by decide +kernel⟩
theorem wmX11_string : wmV yX11_string cX11_string 6 (some .int) 1 := ⟨gm (wt_6 (List.mem_of_getElem? (i := 237) rfl)) rfl, gm (wt_6 (List.mem_of_getElem? (i := 235) rfl)) rfl, gm (wt_6 (List.mem_of_getElem? (i := 236) rfl)) rfl, gm (wt_1 (List.mem_of_getElem? (i := 14) rfl)) rfl, by decide +kernel⟩
theorem wmX11_film : wmV yX11_film cX11_film 2 (some .int) 1 := ⟨gm (wt_7 (List.mem_of_getElem? (i := 1) rfl)) rfl, gm (wt_6 (List.mem_of_getElem? (i := 239) rfl)) rfl, gm (wt_7 (List.mem_of_getElem? (i := 0) rfl)) rfl, gm (wt_1 (List.mem_of_getElem? (i := 14) rfl)) rfl, by decide +kernel⟩
theorem wmX11_off : wmV yX11_off cX11_off 3 (some .int) 0 := ⟨gm (wt_7 (List.mem_of_getElem? (i := 5) rfl)) rfl, gm (wt_7 (List.mem_of_getElem? (i := 3) rfl)) rfl, gm (wt_7 (List.mem_of_getElem? (i := 4) rfl)) rfl, gm (wt_1 (List.mem_of_getElem? (i := 14) rfl)) rfl, by decide +kernel⟩
theorem wmX11_isTape : wmS yX11_isTape cX11_isTape 1 (some .boolean) 1 := ⟨gm (wt_7 (List.mem_of_getElem? (i := 12) rfl)) rfl, gm (wt_7 (List.mem_of_getElem? (i := 11) rfl)) rfl, gm (wt_1 (List.mem_of_getElem? (i := 14) rfl)) rfl, by decide +kernel⟩
theorem wmX11_judge : wmV yX11_judge cX11_judge 5 (some .int) 2 := ⟨gm (wt_7 (List.mem_of_getElem? (i := 9) rfl)) rfl, gm (wt_7 (List.mem_of_getElem? (i := 7) rfl)) rfl, gm (wt_7 (List.mem_of_getElem? (i := 8) rfl)) rfl, gm (wt_1 (List.mem_of_getElem? (i := 14) rfl)) rfl, by decide +kernel⟩
theorem wmX11_image : wmV yX11_image cX11_image 2 (some .int) 0 := ⟨gm (wt_7 (List.mem_of_getElem? (i := 16) rfl)) rfl, gm (wt_7 (List.mem_of_getElem? (i := 14) rfl)) rfl, gm (wt_7 (List.mem_of_getElem? (i := 15) rfl)) rfl, gm (wt_1 (List.mem_of_getElem? (i := 14) rfl)) rfl, by decide +kernel⟩
theorem wmX11_undo : wmV yX11_undo cX11_undo 2 (some .int) 0 := ⟨gm (wt_7 (List.mem_of_getElem? (i := 20) rfl)) rfl, gm (wt_7 (List.mem_of_getElem? (i := 18) rfl)) rfl, gm (wt_7 (List.mem_of_getElem? (i := 19) rfl)) rfl, gm (wt_1 (List.mem_of_getElem? (i := 14) rfl)) rfl, by decide +kernel⟩
theorem wmX11_ran : wmV yX11_ran cX11_ran 2 none 1 := ⟨gm (wt_7 (List.mem_of_getElem? (i := 32) rfl)) rfl, gm (wt_7 (List.mem_of_getElem? (i := 31) rfl)) rfl, gm (wt_0 (List.mem_of_getElem? (i := 67) rfl)) rfl, gm (wt_1 (List.mem_of_getElem? (i := 14) rfl)) rfl, by decide +kernel⟩
theorem wmX11_plainHolds : wmV yX11_plainHolds cX11_plainHolds 3 (some .int) 2 := ⟨gm (wt_7 (List.mem_of_getElem? (i := 36) rfl)) rfl, gm (wt_7 (List.mem_of_getElem? (i := 35) rfl)) rfl, gm (wt_0 (List.mem_of_getElem? (i := 68) rfl)) rfl, gm (wt_1 (List.mem_of_getElem? (i := 14) rfl)) rfl, by decide +kernel⟩
theorem wmX11_holding : wmV yX11_holding cX11_holding 3 (some .int) 2 := ⟨gm (wt_7 (List.mem_of_getElem? (i := 28) rfl)) rfl, gm (wt_7 (List.mem_of_getElem? (i := 27) rfl)) rfl, gm (wt_0 (List.mem_of_getElem? (i := 66) rfl)) rfl, gm (wt_1 (List.mem_of_getElem? (i := 14) rfl)) rfl, by decide +kernel⟩
theorem wmX11_plainChooses : wmV yX11_plainChooses cX11_plainChooses 3 (some .int) 2 := ⟨gm (wt_7 (List.mem_of_getElem? (i := 48) rfl)) rfl, gm (wt_7 (List.mem_of_getElem? (i := 47) rfl)) rfl, gm (wt_0 (List.mem_of_getElem? (i := 71) rfl)) rfl, gm (wt_1 (List.mem_of_getElem? (i := 14) rfl)) rfl, by decide +kernel⟩
theorem wmX11_fearedChooses : wmV yX11_fearedChooses cX11_fearedChooses 3 (some .int) 2 := ⟨gm (wt_7 (List.mem_of_getElem? (i := 44) rfl)) rfl, gm (wt_7 (List.mem_of_getElem? (i := 43) rfl)) rfl, gm (wt_0 (List.mem_of_getElem? (i := 70) rfl)) rfl, gm (wt_1 (List.mem_of_getElem? (i := 14) rfl)) rfl, by decide +kernel⟩
theorem wmX11_chooses : wmV yX11_chooses cX11_chooses 3 (some .int) 2 := ⟨gm (wt_7 (List.mem_of_getElem? (i := 40) rfl)) rfl, gm (wt_7 (List.mem_of_getElem? (i := 39) rfl)) rfl, gm (wt_0 (List.mem_of_getElem? (i := 69) rfl)) rfl, gm (wt_1 (List.mem_of_getElem? (i := 14) rfl)) rfl, by decide +kernel⟩
theorem wmX11_calledChooses : wmV yX11_calledChooses cX11_calledChooses 4 (some .int) 2 := ⟨gm (wt_7 (List.mem_of_getElem? (i := 52) rfl)) rfl, gm (wt_7 (List.mem_of_getElem? (i := 51) rfl)) rfl, gm (wt_0 (List.mem_of_getElem? (i := 72) rfl)) rfl, gm (wt_1 (List.mem_of_getElem? (i := 14) rfl)) rfl, by decide +kernel⟩
theorem wmX11_plainTells : wmV yX11_plainTells cX11_plainTells 3 (some .int) 2 := ⟨gm (wt_7 (List.mem_of_getElem? (i := 60) rfl)) rfl, gm (wt_7 (List.mem_of_getElem? (i := 59) rfl)) rfl, gm (wt_0 (List.mem_of_getElem? (i := 74) rfl)) rfl, gm (wt_1 (List.mem_of_getElem? (i := 14) rfl)) rfl, by decide +kernel⟩
theorem wmX11_telling : wmV yX11_telling cX11_telling 3 (some .int) 2 := ⟨gm (wt_7 (List.mem_of_getElem? (i := 56) rfl)) rfl, gm (wt_7 (List.mem_of_getElem? (i := 55) rfl)) rfl, gm (wt_0 (List.mem_of_getElem? (i := 73) rfl)) rfl, gm (wt_1 (List.mem_of_getElem? (i := 14) rfl)) rfl, by decide +kernel⟩
theorem wmX11_spoiltTells : wmV yX11_spoiltTells cX11_spoiltTells 4 (some .int) 2 := ⟨gm (wt_7 (List.mem_of_getElem? (i := 64) rfl)) rfl, gm (wt_7 (List.mem_of_getElem? (i := 63) rfl)) rfl, gm (wt_0 (List.mem_of_getElem? (i := 75) rfl)) rfl, gm (wt_1 (List.mem_of_getElem? (i := 14) rfl)) rfl, by decide +kernel⟩
theorem wmX11_part : wmV yX11_part cX11_part 4 (some .int) 3 := ⟨gm (wt_7 (List.mem_of_getElem? (i := 24) rfl)) rfl, gm (wt_7 (List.mem_of_getElem? (i := 22) rfl)) rfl, gm (wt_7 (List.mem_of_getElem? (i := 23) rfl)) rfl, gm (wt_1 (List.mem_of_getElem? (i := 14) rfl)) rfl, by decide +kernel⟩
theorem wmX11_trace : wmV yX11_trace cX11_trace 2 (some .int) 1 := ⟨gm (wt_7 (List.mem_of_getElem? (i := 68) rfl)) rfl, gm (wt_7 (List.mem_of_getElem? (i := 66) rfl)) rfl, gm (wt_7 (List.mem_of_getElem? (i := 67) rfl)) rfl, gm (wt_1 (List.mem_of_getElem? (i := 14) rfl)) rfl, by decide +kernel⟩
theorem wmX11_isUnder : wmS yX11_isUnder cX11_isUnder 2 (some .boolean) 2 := ⟨gm (wt_7 (List.mem_of_getElem? (i := 75) rfl)) rfl, gm (wt_7 (List.mem_of_getElem? (i := 74) rfl)) rfl, gm (wt_1 (List.mem_of_getElem? (i := 14) rfl)) rfl, by decide +kernel⟩
theorem wmX11_taken : wmV yX11_taken cX11_taken 3 (some .int) 2 := ⟨gm (wt_7 (List.mem_of_getElem? (i := 72) rfl)) rfl, gm (wt_7 (List.mem_of_getElem? (i := 70) rfl)) rfl, gm (wt_7 (List.mem_of_getElem? (i := 71) rfl)) rfl, gm (wt_1 (List.mem_of_getElem? (i := 14) rfl)) rfl, by decide +kernel⟩
theorem wmX11_count : wmV yX11_count cX11_count 2 (some .int) 1 := ⟨gm (wt_7 (List.mem_of_getElem? (i := 79) rfl)) rfl, gm (wt_7 (List.mem_of_getElem? (i := 77) rfl)) rfl, gm (wt_7 (List.mem_of_getElem? (i := 78) rfl)) rfl, gm (wt_1 (List.mem_of_getElem? (i := 14) rfl)) rfl, by decide +kernel⟩
theorem wmX11_tape : wmV yX11_tape cX11_tape 5 (some .int) 3 := ⟨gm (wt_7 (List.mem_of_getElem? (i := 83) rfl)) rfl, gm (wt_7 (List.mem_of_getElem? (i := 81) rfl)) rfl, gm (wt_7 (List.mem_of_getElem? (i := 82) rfl)) rfl, gm (wt_1 (List.mem_of_getElem? (i := 14) rfl)) rfl, by decide +kernel⟩
theorem wmX11_as : wmS yX11_as cX11_as 3 (some .long) 2 := ⟨gm (wt_7 (List.mem_of_getElem? (i := 90) rfl)) rfl, gm (wt_7 (List.mem_of_getElem? (i := 89) rfl)) rfl, gm (wt_1 (List.mem_of_getElem? (i := 14) rfl)) rfl, by decide +kernel⟩
theorem wmX11_item : wmV yX11_item cX11_item 5 (some .int) 3 := ⟨gm (wt_7 (List.mem_of_getElem? (i := 87) rfl)) rfl, gm (wt_7 (List.mem_of_getElem? (i := 85) rfl)) rfl, gm (wt_7 (List.mem_of_getElem? (i := 86) rfl)) rfl, gm (wt_1 (List.mem_of_getElem? (i := 14) rfl)) rfl, by decide +kernel⟩
theorem wmX11_read : wmV yX11_read cX11_read 3 (some .long) 2 := ⟨gm (wt_7 (List.mem_of_getElem? (i := 94) rfl)) rfl, gm (wt_7 (List.mem_of_getElem? (i := 92) rfl)) rfl, gm (wt_7 (List.mem_of_getElem? (i := 93) rfl)) rfl, gm (wt_1 (List.mem_of_getElem? (i := 14) rfl)) rfl, by decide +kernel⟩
theorem wmX11_shift : wmV yX11_shift cX11_shift 7 (some .int) 5 := ⟨gm (wt_7 (List.mem_of_getElem? (i := 98) rfl)) rfl, gm (wt_7 (List.mem_of_getElem? (i := 96) rfl)) rfl, gm (wt_7 (List.mem_of_getElem? (i := 97) rfl)) rfl, gm (wt_1 (List.mem_of_getElem? (i := 14) rfl)) rfl, by decide +kernel⟩
theorem wmJ11_isValidCodePoint_9a6ad : wmS yJ11_isValidCodePoint_9a6ad cJ11_isValidCodePoint_9a6ad 2 (some .boolean) 1 := ⟨gm (wt_3 (List.mem_of_getElem? (i := 61) rfl)) rfl, gm (wt_3 (List.mem_of_getElem? (i := 60) rfl)) rfl, gm (wt_1 (List.mem_of_getElem? (i := 19) rfl)) rfl, by decide +kernel⟩
theorem wmJ11_highSurrogate_5068e : wmS yJ11_highSurrogate_5068e cJ11_highSurrogate_5068e 1 (some .char) 1 := ⟨gm (wt_3 (List.mem_of_getElem? (i := 64) rfl)) rfl, gm (wt_3 (List.mem_of_getElem? (i := 63) rfl)) rfl, gm (wt_1 (List.mem_of_getElem? (i := 19) rfl)) rfl, by decide +kernel⟩
theorem wmJ11_lowSurrogate_5068e : wmS yJ11_lowSurrogate_5068e cJ11_lowSurrogate_5068e 1 (some .char) 1 := ⟨gm (wt_3 (List.mem_of_getElem? (i := 68) rfl)) rfl, gm (wt_3 (List.mem_of_getElem? (i := 67) rfl)) rfl, gm (wt_1 (List.mem_of_getElem? (i := 19) rfl)) rfl, by decide +kernel⟩
theorem wmJ9_abs_0f7a4 : wmS yJ9_abs_0f7a4 cJ9_abs_0f7a4 1 (some .int) 1 := ⟨gm (wt_3 (List.mem_of_getElem? (i := 124) rfl)) rfl, gm (wt_3 (List.mem_of_getElem? (i := 123) rfl)) rfl, gm (wt_1 (List.mem_of_getElem? (i := 5) rfl)) rfl, by decide +kernel⟩
theorem wmJ9_max_7cf53 : wmS yJ9_max_7cf53 cJ9_max_7cf53 2 (some .int) 2 := ⟨gm (wt_1 (List.mem_of_getElem? (i := 63) rfl)) rfl, gm (wt_1 (List.mem_of_getElem? (i := 62) rfl)) rfl, gm (wt_1 (List.mem_of_getElem? (i := 5) rfl)) rfl, by decide +kernel⟩
theorem wmJ9_min_7cf53 : wmS yJ9_min_7cf53 cJ9_min_7cf53 2 (some .int) 2 := ⟨gm (wt_3 (List.mem_of_getElem? (i := 31) rfl)) rfl, gm (wt_3 (List.mem_of_getElem? (i := 30) rfl)) rfl, gm (wt_1 (List.mem_of_getElem? (i := 5) rfl)) rfl, by decide +kernel⟩
theorem wmJ0_length_8abf5 : wmV yJ0_length_8abf5 cJ0_length_8abf5 1 (some .int) 0 := ⟨gm (wt_2 (List.mem_of_getElem? (i := 170) rfl)) rfl, gm (wt_2 (List.mem_of_getElem? (i := 168) rfl)) rfl, gm (wt_2 (List.mem_of_getElem? (i := 169) rfl)) rfl, gm (wt_1 (List.mem_of_getElem? (i := 15) rfl)) rfl, by decide +kernel⟩
theorem wmJ0_charAt_5068e : wmV yJ0_charAt_5068e cJ0_charAt_5068e 2 (some .char) 1 := ⟨gm (wt_2 (List.mem_of_getElem? (i := 184) rfl)) rfl, gm (wt_2 (List.mem_of_getElem? (i := 182) rfl)) rfl, gm (wt_2 (List.mem_of_getElem? (i := 183) rfl)) rfl, gm (wt_1 (List.mem_of_getElem? (i := 15) rfl)) rfl, by decide +kernel⟩
theorem wmJ0_indexOf_0f7a4 : wmV yJ0_indexOf_0f7a4 cJ0_indexOf_0f7a4 2 (some .int) 1 := ⟨gm (wt_3 (List.mem_of_getElem? (i := 16) rfl)) rfl, gm (wt_3 (List.mem_of_getElem? (i := 14) rfl)) rfl, gm (wt_3 (List.mem_of_getElem? (i := 15) rfl)) rfl, gm (wt_1 (List.mem_of_getElem? (i := 15) rfl)) rfl, by decide +kernel⟩
theorem wmJ0_indexOf_7cf53 : wmV yJ0_indexOf_7cf53 cJ0_indexOf_7cf53 3 (some .int) 2 := ⟨gm (wt_3 (List.mem_of_getElem? (i := 20) rfl)) rfl, gm (wt_3 (List.mem_of_getElem? (i := 18) rfl)) rfl, gm (wt_3 (List.mem_of_getElem? (i := 19) rfl)) rfl, gm (wt_1 (List.mem_of_getElem? (i := 15) rfl)) rfl, by decide +kernel⟩
theorem wmJ0_coder_7d493 : wmV yJ0_coder_7d493 cJ0_coder_7d493 1 (some .byte) 0 := ⟨gm (wt_2 (List.mem_of_getElem? (i := 174) rfl)) rfl, gm (wt_2 (List.mem_of_getElem? (i := 172) rfl)) rfl, gm (wt_2 (List.mem_of_getElem? (i := 173) rfl)) rfl, gm (wt_1 (List.mem_of_getElem? (i := 15) rfl)) rfl, by decide +kernel⟩
theorem wmJ0_isLatin1_aae02 : wmV yJ0_isLatin1_aae02 cJ0_isLatin1_aae02 1 (some .boolean) 0 := ⟨gm (wt_2 (List.mem_of_getElem? (i := 188) rfl)) rfl, gm (wt_2 (List.mem_of_getElem? (i := 186) rfl)) rfl, gm (wt_2 (List.mem_of_getElem? (i := 187) rfl)) rfl, gm (wt_1 (List.mem_of_getElem? (i := 15) rfl)) rfl, by decide +kernel⟩
theorem wmJ0_checkIndex_df160 : wmS yJ0_checkIndex_df160 cJ0_checkIndex_df160 2 none 2 := ⟨gm (wt_2 (List.mem_of_getElem? (i := 194) rfl)) rfl, gm (wt_2 (List.mem_of_getElem? (i := 193) rfl)) rfl, gm (wt_1 (List.mem_of_getElem? (i := 15) rfl)) rfl, by decide +kernel⟩
theorem wmJ0_checkBoundsBeginEnd_23922 : wmS yJ0_checkBoundsBeginEnd_23922 cJ0_checkBoundsBeginEnd_23922 3 none 3 := ⟨gm (wt_3 (List.mem_of_getElem? (i := 49) rfl)) rfl, gm (wt_3 (List.mem_of_getElem? (i := 48) rfl)) rfl, gm (wt_1 (List.mem_of_getElem? (i := 15) rfl)) rfl, by decide +kernel⟩
theorem wmJ1_charAt_3b067 : wmS yJ1_charAt_3b067 cJ1_charAt_3b067 2 (some .char) 2 := ⟨gm (wt_2 (List.mem_of_getElem? (i := 191) rfl)) rfl, gm (wt_2 (List.mem_of_getElem? (i := 190) rfl)) rfl, gm (wt_1 (List.mem_of_getElem? (i := 16) rfl)) rfl, by decide +kernel⟩
theorem wmJ1_canEncode_9a6ad : wmS yJ1_canEncode_9a6ad cJ1_canEncode_9a6ad 1 (some .boolean) 1 := ⟨gm (wt_3 (List.mem_of_getElem? (i := 27) rfl)) rfl, gm (wt_3 (List.mem_of_getElem? (i := 26) rfl)) rfl, gm (wt_1 (List.mem_of_getElem? (i := 16) rfl)) rfl, by decide +kernel⟩
theorem wmJ1_indexOf_4cfef : wmS yJ1_indexOf_4cfef cJ1_indexOf_4cfef 4 (some .int) 4 := ⟨gm (wt_3 (List.mem_of_getElem? (i := 24) rfl)) rfl, gm (wt_3 (List.mem_of_getElem? (i := 23) rfl)) rfl, gm (wt_1 (List.mem_of_getElem? (i := 16) rfl)) rfl, by decide +kernel⟩
theorem wmJ1_indexOfChar_4cfef : wmS yJ1_indexOfChar_4cfef cJ1_indexOfChar_4cfef 6 (some .int) 4 := ⟨gm (wt_3 (List.mem_of_getElem? (i := 34) rfl)) rfl, gm (wt_3 (List.mem_of_getElem? (i := 33) rfl)) rfl, gm (wt_1 (List.mem_of_getElem? (i := 16) rfl)) rfl, by decide +kernel⟩
theorem wmJ2_getChar_3b067 : wmS yJ2_getChar_3b067 cJ2_getChar_3b067 2 (some .char) 2 := ⟨gm (wt_2 (List.mem_of_getElem? (i := 212) rfl)) rfl, gm (wt_2 (List.mem_of_getElem? (i := 211) rfl)) rfl, gm (wt_1 (List.mem_of_getElem? (i := 18) rfl)) rfl, by decide +kernel⟩
theorem wmJ2_length_9d52b : wmS yJ2_length_9d52b cJ2_length_9d52b 1 (some .int) 1 := ⟨gm (wt_2 (List.mem_of_getElem? (i := 208) rfl)) rfl, gm (wt_2 (List.mem_of_getElem? (i := 207) rfl)) rfl, gm (wt_1 (List.mem_of_getElem? (i := 18) rfl)) rfl, by decide +kernel⟩
theorem wmJ2_indexOf_4cfef : wmS yJ2_indexOf_4cfef cJ2_indexOf_4cfef 4 (some .int) 4 := ⟨gm (wt_3 (List.mem_of_getElem? (i := 37) rfl)) rfl, gm (wt_3 (List.mem_of_getElem? (i := 36) rfl)) rfl, gm (wt_1 (List.mem_of_getElem? (i := 18) rfl)) rfl, by decide +kernel⟩
theorem wmJ2_indexOfChar_4cfef : wmS yJ2_indexOfChar_4cfef cJ2_indexOfChar_4cfef 4 (some .int) 4 := ⟨gm (wt_3 (List.mem_of_getElem? (i := 43) rfl)) rfl, gm (wt_3 (List.mem_of_getElem? (i := 42) rfl)) rfl, gm (wt_1 (List.mem_of_getElem? (i := 18) rfl)) rfl, by decide +kernel⟩
theorem wmJ2_indexOfCharUnsafe_4cfef : wmS yJ2_indexOfCharUnsafe_4cfef cJ2_indexOfCharUnsafe_4cfef 5 (some .int) 4 := ⟨gm (wt_3 (List.mem_of_getElem? (i := 55) rfl)) rfl, gm (wt_3 (List.mem_of_getElem? (i := 54) rfl)) rfl, gm (wt_1 (List.mem_of_getElem? (i := 18) rfl)) rfl, by decide +kernel⟩
theorem wmJ2_indexOfSupplementary_4cfef : wmS yJ2_indexOfSupplementary_4cfef cJ2_indexOfSupplementary_4cfef 7 (some .int) 4 := ⟨gm (wt_3 (List.mem_of_getElem? (i := 58) rfl)) rfl, gm (wt_3 (List.mem_of_getElem? (i := 57) rfl)) rfl, gm (wt_1 (List.mem_of_getElem? (i := 18) rfl)) rfl, by decide +kernel⟩
theorem wmJ2_charAt_3b067 : wmS yJ2_charAt_3b067 cJ2_charAt_3b067 2 (some .char) 2 := ⟨gm (wt_2 (List.mem_of_getElem? (i := 202) rfl)) rfl, gm (wt_2 (List.mem_of_getElem? (i := 201) rfl)) rfl, gm (wt_1 (List.mem_of_getElem? (i := 18) rfl)) rfl, by decide +kernel⟩
theorem wmJ2_checkIndex_2214a : wmS yJ2_checkIndex_2214a cJ2_checkIndex_2214a 2 none 2 := ⟨gm (wt_2 (List.mem_of_getElem? (i := 205) rfl)) rfl, gm (wt_2 (List.mem_of_getElem? (i := 204) rfl)) rfl, gm (wt_1 (List.mem_of_getElem? (i := 18) rfl)) rfl, by decide +kernel⟩
theorem wmJ2_checkBoundsBeginEnd_d044e : wmS yJ2_checkBoundsBeginEnd_d044e cJ2_checkBoundsBeginEnd_d044e 3 none 3 := ⟨gm (wt_3 (List.mem_of_getElem? (i := 46) rfl)) rfl, gm (wt_3 (List.mem_of_getElem? (i := 45) rfl)) rfl, gm (wt_1 (List.mem_of_getElem? (i := 18) rfl)) rfl, by decide +kernel⟩
theorem wmJ7_rangeCheck_23922 : wmS yJ7_rangeCheck_23922 cJ7_rangeCheck_23922 3 none 3 := ⟨gm (wt_1 (List.mem_of_getElem? (i := 142) rfl)) rfl, gm (wt_1 (List.mem_of_getElem? (i := 141) rfl)) rfl, gm (wt_1 (List.mem_of_getElem? (i := 10) rfl)) rfl, by decide +kernel⟩
theorem wmJ7_fill_d0a16 : wmS yJ7_fill_d0a16 cJ7_fill_d0a16 5 none 2 := ⟨gm (wt_5 (List.mem_of_getElem? (i := 33) rfl)) rfl, gm (wt_5 (List.mem_of_getElem? (i := 32) rfl)) rfl, gm (wt_1 (List.mem_of_getElem? (i := 10) rfl)) rfl, by decide +kernel⟩
theorem wmJ7_fill_fda19 : wmS yJ7_fill_fda19 cJ7_fill_fda19 5 none 4 := ⟨gm (wt_1 (List.mem_of_getElem? (i := 139) rfl)) rfl, gm (wt_1 (List.mem_of_getElem? (i := 138) rfl)) rfl, gm (wt_1 (List.mem_of_getElem? (i := 10) rfl)) rfl, by decide +kernel⟩
theorem wmJ3_checkIndex_8e157 : wmS yJ3_checkIndex_8e157 cJ3_checkIndex_8e157 3 (some .int) 3 := ⟨gm (wt_2 (List.mem_of_getElem? (i := 199) rfl)) rfl, gm (wt_2 (List.mem_of_getElem? (i := 198) rfl)) rfl, gm (wt_1 (List.mem_of_getElem? (i := 17) rfl)) rfl, by decide +kernel⟩
theorem wmJ3_checkFromToIndex_8c36e : wmS yJ3_checkFromToIndex_8c36e cJ3_checkFromToIndex_8c36e 4 (some .int) 4 := ⟨gm (wt_3 (List.mem_of_getElem? (i := 52) rfl)) rfl, gm (wt_3 (List.mem_of_getElem? (i := 51) rfl)) rfl, gm (wt_1 (List.mem_of_getElem? (i := 17) rfl)) rfl, by decide +kernel⟩
theorem wn_copy : Cond.native arraycopyName ∈ gw_tbl := gm (wt_3 (List.mem_of_getElem? (i := 235) rfl)) rfl
theorem wn_copyS : Cond.static arraycopyName ∈ gw_tbl := gm (wt_3 (List.mem_of_getElem? (i := 234) rfl)) rfl
theorem wn_sys : Cond.initialized "java/lang/System" ∈ gw_tbl := gm (wt_1 (List.mem_of_getElem? (i := 20) rfl)) rfl
theorem wn_math : Cond.initialized "java/lang/Math" ∈ gw_tbl := gm (wt_1 (List.mem_of_getElem? (i := 5) rfl)) rfl
theorem wn_maxS : Cond.static Lib.Math.max.name ∈ gw_tbl := gm (wt_1 (List.mem_of_getElem? (i := 62) rfl)) rfl
theorem wn_maxC : Cond.code Lib.Math.max.name Lib.Math.max.code 2 (some .int) ∈ gw_tbl := gm (wt_1 (List.mem_of_getElem? (i := 63) rfl)) rfl
theorem wn_minS : Cond.static Lib.Math.min.name ∈ gw_tbl := gm (wt_3 (List.mem_of_getElem? (i := 30) rfl)) rfl
theorem wn_minC : Cond.code Lib.Math.min.name Lib.Math.min.code 2 (some .int) ∈ gw_tbl := gm (wt_3 (List.mem_of_getElem? (i := 31) rfl)) rfl
theorem wn_absS : Cond.static Lib.Math.abs.name ∈ gw_tbl := gm (wt_3 (List.mem_of_getElem? (i := 123) rfl)) rfl
theorem wn_absC : Cond.code Lib.Math.abs.name Lib.Math.abs.code 1 (some .int) ∈ gw_tbl := gm (wt_3 (List.mem_of_getElem? (i := 124) rfl)) rfl
theorem wn_objI : Cond.instanceMethod objectInit ∈ gw_tbl := gm (wt_1 (List.mem_of_getElem? (i := 27) rfl)) rfl
theorem wn_objC : Cond.code objectInit ⟨#[0xb1]⟩ 1 none ∈ gw_tbl := gm (wt_1 (List.mem_of_getElem? (i := 28) rfl)) rfl
theorem wn_instX10 : Cond.instantiable RX10 12 ∈ gw_tbl := gm (wt_1 (List.mem_of_getElem? (i := 22) rfl)) rfl
theorem wn_instX4 : Cond.instantiable RX4 4 ∈ gw_tbl := gm (wt_1 (List.mem_of_getElem? (i := 30) rfl)) rfl
theorem wn_instX7 : Cond.instantiable RX7 2 ∈ gw_tbl := gm (wt_1 (List.mem_of_getElem? (i := 50) rfl)) rfl
theorem wn_instX5 : Cond.instantiable RX5 2 ∈ gw_tbl := gm (wt_1 (List.mem_of_getElem? (i := 56) rfl)) rfl
theorem wn_instX2 : Cond.instantiable RX2 6 ∈ gw_tbl := gm (wt_1 (List.mem_of_getElem? (i := 80) rfl)) rfl
theorem wn_instX9 : Cond.instantiable RX9 4 ∈ gw_tbl := gm (wt_1 (List.mem_of_getElem? (i := 105) rfl)) rfl
theorem wn_instX3 : Cond.instantiable RX3 6 ∈ gw_tbl := gm (wt_1 (List.mem_of_getElem? (i := 124) rfl)) rfl
theorem wn_instX1 : Cond.instantiable RX1 1 ∈ gw_tbl := gm (wt_1 (List.mem_of_getElem? (i := 130) rfl)) rfl
theorem wn_instX8 : Cond.instantiable RX8 9 ∈ gw_tbl := gm (wt_1 (List.mem_of_getElem? (i := 179) rfl)) rfl
theorem wn_instX0 : Cond.instantiable RX0 6 ∈ gw_tbl := gm (wt_1 (List.mem_of_getElem? (i := 216) rfl)) rfl
theorem wn_instX6 : Cond.instantiable RX6 3 ∈ gw_tbl := gm (wt_2 (List.mem_of_getElem? (i := 4) rfl)) rfl
theorem wn_instX11 : Cond.instantiable RX11 51 ∈ gw_tbl := gm (wt_5 (List.mem_of_getElem? (i := 67) rfl)) rfl
theorem wn_initL : Cond.initialized RL ∈ gw_tbl := gm (wt_1 (List.mem_of_getElem? (i := 0) rfl)) rfl
theorem wn_initX10 : Cond.initialized RX10 ∈ gw_tbl := gm (wt_1 (List.mem_of_getElem? (i := 1) rfl)) rfl
theorem wn_initX4 : Cond.initialized RX4 ∈ gw_tbl := gm (wt_1 (List.mem_of_getElem? (i := 2) rfl)) rfl
theorem wn_initX7 : Cond.initialized RX7 ∈ gw_tbl := gm (wt_1 (List.mem_of_getElem? (i := 3) rfl)) rfl
theorem wn_initX5 : Cond.initialized RX5 ∈ gw_tbl := gm (wt_1 (List.mem_of_getElem? (i := 4) rfl)) rfl
theorem wn_initJ9 : Cond.initialized RJ9 ∈ gw_tbl := gm (wt_1 (List.mem_of_getElem? (i := 5) rfl)) rfl
theorem wn_initX2 : Cond.initialized RX2 ∈ gw_tbl := gm (wt_1 (List.mem_of_getElem? (i := 6) rfl)) rfl
theorem wn_initX9 : Cond.initialized RX9 ∈ gw_tbl := gm (wt_1 (List.mem_of_getElem? (i := 7) rfl)) rfl
theorem wn_initX3 : Cond.initialized RX3 ∈ gw_tbl := gm (wt_1 (List.mem_of_getElem? (i := 8) rfl)) rfl
theorem wn_initX1 : Cond.initialized RX1 ∈ gw_tbl := gm (wt_1 (List.mem_of_getElem? (i := 9) rfl)) rfl
theorem wn_initJ7 : Cond.initialized RJ7 ∈ gw_tbl := gm (wt_1 (List.mem_of_getElem? (i := 10) rfl)) rfl
theorem wn_initX8 : Cond.initialized RX8 ∈ gw_tbl := gm (wt_1 (List.mem_of_getElem? (i := 11) rfl)) rfl
theorem wn_initX0 : Cond.initialized RX0 ∈ gw_tbl := gm (wt_1 (List.mem_of_getElem? (i := 12) rfl)) rfl
theorem wn_initX6 : Cond.initialized RX6 ∈ gw_tbl := gm (wt_1 (List.mem_of_getElem? (i := 13) rfl)) rfl
theorem wn_initX11 : Cond.initialized RX11 ∈ gw_tbl := gm (wt_1 (List.mem_of_getElem? (i := 14) rfl)) rfl
theorem wn_initJ0 : Cond.initialized RJ0 ∈ gw_tbl := gm (wt_1 (List.mem_of_getElem? (i := 15) rfl)) rfl
theorem wn_initJ1 : Cond.initialized RJ1 ∈ gw_tbl := gm (wt_1 (List.mem_of_getElem? (i := 16) rfl)) rfl
theorem wn_initJ3 : Cond.initialized RJ3 ∈ gw_tbl := gm (wt_1 (List.mem_of_getElem? (i := 17) rfl)) rfl
theorem wn_initJ2 : Cond.initialized RJ2 ∈ gw_tbl := gm (wt_1 (List.mem_of_getElem? (i := 18) rfl)) rfl
theorem wn_initJ11 : Cond.initialized RJ11 ∈ gw_tbl := gm (wt_1 (List.mem_of_getElem? (i := 19) rfl)) rfl
theorem wn_initJ10 : Cond.initialized RJ10 ∈ gw_tbl := gm (wt_1 (List.mem_of_getElem? (i := 20) rfl)) rfl
theorem wn_arr0 : Cond.arrayClass .int ∈ gw_tbl := gm (wt_1 (List.mem_of_getElem? (i := 48) rfl)) rfl
theorem wn_arr1 : Cond.arrayClass .long ∈ gw_tbl := gm (wt_2 (List.mem_of_getElem? (i := 19) rfl)) rfl
theorem wn_arr2 : Cond.arrayClass .byte ∈ gw_tbl := gm (wt_3 (List.mem_of_getElem? (i := 90) rfl)) rfl
theorem wn_arr3 : Cond.arrayClass .boolean ∈ gw_tbl := gm (wt_5 (List.mem_of_getElem? (i := 225) rfl)) rfl
end
